theorem dX4_join_0 : decode cX4_join 0 = .ok (.iload_n 0, 1) := by decide +kernel
theorem dX4_join_1 : decode cX4_join 1 = .ok (.tableswitch 203 18 37 #[199, 195, 203, 203, 203, 203, 203, 203, 95, 99, 103, 107, 121, 203, 203, 135, 159, 183, 147, 171], 95) := by decide +kernel
theorem dX4_join_96 : decode cX4_join 96 = .ok (.lload_n 1, 1) := by decide +kernel
theorem dX4_join_97 : decode cX4_join 97 = .ok (.lload_n 3, 1) := by decide +kernel
theorem dX4_join_98 : decode cX4_join 98 = .ok (.ladd, 1) := by decide +kernel
theorem dX4_join_99 : decode cX4_join 99 = .ok (.lreturn, 1) := by decide +kernel
theorem dX4_join_100 : decode cX4_join 100 = .ok (.lload_n 1, 1) := by decide +kernel
theorem dX4_join_101 : decode cX4_join 101 = .ok (.lload_n 3, 1) := by decide +kernel
theorem dX4_join_102 : decode cX4_join 102 = .ok (.lsub, 1) := by decide +kernel
theorem dX4_join_103 : decode cX4_join 103 = .ok (.lreturn, 1) := by decide +kernel
theorem dX4_join_104 : decode cX4_join 104 = .ok (.lload_n 1, 1) := by decide +kernel
theorem dX4_join_105 : decode cX4_join 105 = .ok (.lload_n 3, 1) := by decide +kernel
theorem dX4_join_106 : decode cX4_join 106 = .ok (.lmul, 1) := by decide +kernel
theorem dX4_join_107 : decode cX4_join 107 = .ok (.lreturn, 1) := by decide +kernel
theorem dX4_join_108 : decode cX4_join 108 = .ok (.lload_n 3, 1) := by decide +kernel
theorem dX4_join_109 : decode cX4_join 109 = .ok (.lconst 0, 1) := by decide +kernel
theorem dX4_join_110 : decode cX4_join 110 = .ok (.lcmp, 1) := by decide +kernel
theorem dX4_join_111 : decode cX4_join 111 = .ok (.ifCond .ne 7, 3) := by decide +kernel
theorem dX4_join_114 : decode cX4_join 114 = .ok (.lconst 0, 1) := by decide +kernel
theorem dX4_join_115 : decode cX4_join 115 = .ok (.goto 6, 3) := by decide +kernel
theorem dX4_join_118 : decode cX4_join 118 = .ok (.lload_n 1, 1) := by decide +kernel
theorem dX4_join_119 : decode cX4_join 119 = .ok (.lload_n 3, 1) := by decide +kernel
theorem dX4_join_120 : decode cX4_join 120 = .ok (.ldiv, 1) := by decide +kernel
theorem dX4_join_121 : decode cX4_join 121 = .ok (.lreturn, 1) := by decide +kernel
theorem dX4_join_122 : decode cX4_join 122 = .ok (.lload_n 3, 1) := by decide +kernel
theorem dX4_join_123 : decode cX4_join 123 = .ok (.lconst 0, 1) := by decide +kernel
theorem dX4_join_124 : decode cX4_join 124 = .ok (.lcmp, 1) := by decide +kernel
theorem dX4_join_125 : decode cX4_join 125 = .ok (.ifCond .ne 7, 3) := by decide +kernel
theorem dX4_join_128 : decode cX4_join 128 = .ok (.lconst 0, 1) := by decide +kernel
theorem dX4_join_129 : decode cX4_join 129 = .ok (.goto 6, 3) := by decide +kernel
theorem dX4_join_132 : decode cX4_join 132 = .ok (.lload_n 1, 1) := by decide +kernel
theorem dX4_join_133 : decode cX4_join 133 = .ok (.lload_n 3, 1) := by decide +kernel
theorem dX4_join_134 : decode cX4_join 134 = .ok (.lrem, 1) := by decide +kernel
theorem dX4_join_135 : decode cX4_join 135 = .ok (.lreturn, 1) := by decide +kernel
theorem dX4_join_136 : decode cX4_join 136 = .ok (.lload_n 1, 1) := by decide +kernel
theorem dX4_join_137 : decode cX4_join 137 = .ok (.lload_n 3, 1) := by decide +kernel
theorem dX4_join_138 : decode cX4_join 138 = .ok (.lcmp, 1) := by decide +kernel
theorem dX4_join_139 : decode cX4_join 139 = .ok (.ifCond .ge 7, 3) := by decide +kernel
theorem dX4_join_142 : decode cX4_join 142 = .ok (.lconst 1, 1) := by decide +kernel
theorem dX4_join_143 : decode cX4_join 143 = .ok (.goto 4, 3) := by decide +kernel
theorem dX4_join_146 : decode cX4_join 146 = .ok (.lconst 0, 1) := by decide +kernel
theorem dX4_join_147 : decode cX4_join 147 = .ok (.lreturn, 1) := by decide +kernel
theorem dX4_join_148 : decode cX4_join 148 = .ok (.lload_n 1, 1) := by decide +kernel
theorem dX4_join_149 : decode cX4_join 149 = .ok (.lload_n 3, 1) := by decide +kernel
theorem dX4_join_150 : decode cX4_join 150 = .ok (.lcmp, 1) := by decide +kernel
theorem dX4_join_151 : decode cX4_join 151 = .ok (.ifCond .gt 7, 3) := by decide +kernel
theorem dX4_join_154 : decode cX4_join 154 = .ok (.lconst 1, 1) := by decide +kernel
theorem dX4_join_155 : decode cX4_join 155 = .ok (.goto 4, 3) := by decide +kernel
theorem dX4_join_158 : decode cX4_join 158 = .ok (.lconst 0, 1) := by decide +kernel
theorem dX4_join_159 : decode cX4_join 159 = .ok (.lreturn, 1) := by decide +kernel
theorem dX4_join_160 : decode cX4_join 160 = .ok (.lload_n 1, 1) := by decide +kernel
theorem dX4_join_161 : decode cX4_join 161 = .ok (.lload_n 3, 1) := by decide +kernel
theorem dX4_join_162 : decode cX4_join 162 = .ok (.lcmp, 1) := by decide +kernel
theorem dX4_join_163 : decode cX4_join 163 = .ok (.ifCond .ne 7, 3) := by decide +kernel
theorem dX4_join_166 : decode cX4_join 166 = .ok (.lconst 1, 1) := by decide +kernel
theorem dX4_join_167 : decode cX4_join 167 = .ok (.goto 4, 3) := by decide +kernel
theorem dX4_join_170 : decode cX4_join 170 = .ok (.lconst 0, 1) := by decide +kernel
theorem dX4_join_171 : decode cX4_join 171 = .ok (.lreturn, 1) := by decide +kernel
theorem dX4_join_172 : decode cX4_join 172 = .ok (.lload_n 1, 1) := by decide +kernel
theorem dX4_join_173 : decode cX4_join 173 = .ok (.lload_n 3, 1) := by decide +kernel
theorem dX4_join_174 : decode cX4_join 174 = .ok (.lcmp, 1) := by decide +kernel
theorem dX4_join_175 : decode cX4_join 175 = .ok (.ifCond .lt 7, 3) := by decide +kernel
theorem dX4_join_178 : decode cX4_join 178 = .ok (.lconst 1, 1) := by decide +kernel
theorem dX4_join_179 : decode cX4_join 179 = .ok (.goto 4, 3) := by decide +kernel
theorem dX4_join_182 : decode cX4_join 182 = .ok (.lconst 0, 1) := by decide +kernel
theorem dX4_join_183 : decode cX4_join 183 = .ok (.lreturn, 1) := by decide +kernel
theorem dX4_join_184 : decode cX4_join 184 = .ok (.lload_n 1, 1) := by decide +kernel
theorem dX4_join_185 : decode cX4_join 185 = .ok (.lload_n 3, 1) := by decide +kernel
theorem dX4_join_186 : decode cX4_join 186 = .ok (.lcmp, 1) := by decide +kernel
theorem dX4_join_187 : decode cX4_join 187 = .ok (.ifCond .le 7, 3) := by decide +kernel
theorem dX4_join_190 : decode cX4_join 190 = .ok (.lconst 1, 1) := by decide +kernel
theorem dX4_join_191 : decode cX4_join 191 = .ok (.goto 4, 3) := by decide +kernel
theorem dX4_join_194 : decode cX4_join 194 = .ok (.lconst 0, 1) := by decide +kernel
theorem dX4_join_195 : decode cX4_join 195 = .ok (.lreturn, 1) := by decide +kernel
theorem dX4_join_196 : decode cX4_join 196 = .ok (.lload_n 1, 1) := by decide +kernel
theorem dX4_join_197 : decode cX4_join 197 = .ok (.lload_n 3, 1) := by decide +kernel
theorem dX4_join_198 : decode cX4_join 198 = .ok (.land, 1) := by decide +kernel
theorem dX4_join_199 : decode cX4_join 199 = .ok (.lreturn, 1) := by decide +kernel
theorem dX4_join_200 : decode cX4_join 200 = .ok (.lload_n 1, 1) := by decide +kernel
theorem dX4_join_201 : decode cX4_join 201 = .ok (.lload_n 3, 1) := by decide +kernel
theorem dX4_join_202 : decode cX4_join 202 = .ok (.lor, 1) := by decide +kernel
theorem dX4_join_203 : decode cX4_join 203 = .ok (.lreturn, 1) := by decide +kernel
theorem dX4_join_204 : decode cX4_join 204 = .ok (.lconst 0, 1) := by decide +kernel
theorem dX4_join_205 : decode cX4_join 205 = .ok (.lreturn, 1) := by decide +kernel
theorem dX4_run_0 : decode cX4_run 0 = .ok (.iconst 0, 1) := by decide +kernel
theorem dX4_run_1 : decode cX4_run 1 = .ok (.istore 4, 2) := by decide +kernel
theorem dX4_run_3 : decode cX4_run 3 = .ok (.iload_n 1, 1) := by decide +kernel
theorem dX4_run_4 : decode cX4_run 4 = .ok (.istore 5, 2) := by decide +kernel
theorem dX4_run_6 : decode cX4_run 6 = .ok (.iload 5, 2) := by decide +kernel
theorem dX4_run_8 : decode cX4_run 8 = .ok (.iload_n 2, 1) := by decide +kernel
theorem dX4_run_9 : decode cX4_run 9 = .ok (.if_icmp .ge 147, 3) := by decide +kernel
theorem dX4_run_12 : decode cX4_run 12 = .ok (.iload 4, 2) := by decide +kernel
theorem dX4_run_14 : decode cX4_run 14 = .ok (.bipush 64, 2) := by decide +kernel
theorem dX4_run_16 : decode cX4_run 16 = .ok (.if_icmp .ge 140, 3) := by decide +kernel
theorem dX4_run_19 : decode cX4_run 19 = .ok (.aload_n 0, 1) := by decide +kernel
theorem dX4_run_20 : decode cX4_run 20 = .ok (.getfield 9, 3) := by decide +kernel
theorem dX4_run_23 : decode cX4_run 23 = .ok (.iload 5, 2) := by decide +kernel
theorem dX4_run_25 : decode cX4_run 25 = .ok (.iaload, 1) := by decide +kernel
theorem dX4_run_26 : decode cX4_run 26 = .ok (.istore 6, 2) := by decide +kernel
theorem dX4_run_28 : decode cX4_run 28 = .ok (.iload 6, 2) := by decide +kernel
theorem dX4_run_30 : decode cX4_run 30 = .ok (.ifCond .lt 19, 3) := by decide +kernel
theorem dX4_run_33 : decode cX4_run 33 = .ok (.aload_n 0, 1) := by decide +kernel
theorem dX4_run_34 : decode cX4_run 34 = .ok (.getfield 31, 3) := by decide +kernel
theorem dX4_run_37 : decode cX4_run 37 = .ok (.iload 4, 2) := by decide +kernel
theorem dX4_run_39 : decode cX4_run 39 = .ok (.iload 6, 2) := by decide +kernel
theorem dX4_run_41 : decode cX4_run 41 = .ok (.i2l, 1) := by decide +kernel
theorem dX4_run_42 : decode cX4_run 42 = .ok (.lastore, 1) := by decide +kernel
theorem dX4_run_43 : decode cX4_run 43 = .ok (.iinc 4 1, 3) := by decide +kernel
theorem dX4_run_46 : decode cX4_run 46 = .ok (.goto 104, 3) := by decide +kernel
theorem dX4_run_49 : decode cX4_run 49 = .ok (.iload 6, 2) := by decide +kernel
theorem dX4_run_51 : decode cX4_run 51 = .ok (.bipush (-12), 2) := by decide +kernel
theorem dX4_run_53 : decode cX4_run 53 = .ok (.if_icmp .lt 22, 3) := by decide +kernel
theorem dX4_run_56 : decode cX4_run 56 = .ok (.aload_n 0, 1) := by decide +kernel
theorem dX4_run_57 : decode cX4_run 57 = .ok (.getfield 31, 3) := by decide +kernel
theorem dX4_run_60 : decode cX4_run 60 = .ok (.iload 4, 2) := by decide +kernel
theorem dX4_run_62 : decode cX4_run 62 = .ok (.aload_n 3, 1) := by decide +kernel
theorem dX4_run_63 : decode cX4_run 63 = .ok (.iconst (-1), 1) := by decide +kernel
theorem dX4_run_64 : decode cX4_run 64 = .ok (.iload 6, 2) := by decide +kernel
theorem dX4_run_66 : decode cX4_run 66 = .ok (.isub, 1) := by decide +kernel
theorem dX4_run_67 : decode cX4_run 67 = .ok (.laload, 1) := by decide +kernel
theorem dX4_run_68 : decode cX4_run 68 = .ok (.lastore, 1) := by decide +kernel
theorem dX4_run_69 : decode cX4_run 69 = .ok (.iinc 4 1, 3) := by decide +kernel
theorem dX4_run_72 : decode cX4_run 72 = .ok (.goto 78, 3) := by decide +kernel
theorem dX4_run_75 : decode cX4_run 75 = .ok (.iload 6, 2) := by decide +kernel
theorem dX4_run_77 : decode cX4_run 77 = .ok (.bipush (-20), 2) := by decide +kernel
theorem dX4_run_79 : decode cX4_run 79 = .ok (.if_icmp .ne 31, 3) := by decide +kernel
theorem dX4_run_82 : decode cX4_run 82 = .ok (.iload 4, 2) := by decide +kernel
theorem dX4_run_84 : decode cX4_run 84 = .ok (.ifCond .le 26, 3) := by decide +kernel
theorem dX4_run_87 : decode cX4_run 87 = .ok (.aload_n 0, 1) := by decide +kernel
theorem dX4_run_88 : decode cX4_run 88 = .ok (.getfield 31, 3) := by decide +kernel
theorem dX4_run_91 : decode cX4_run 91 = .ok (.iload 4, 2) := by decide +kernel
theorem dX4_run_93 : decode cX4_run 93 = .ok (.iconst 1, 1) := by decide +kernel
theorem dX4_run_94 : decode cX4_run 94 = .ok (.isub, 1) := by decide +kernel
theorem dX4_run_95 : decode cX4_run 95 = .ok (.lconst 1, 1) := by decide +kernel
theorem dX4_run_96 : decode cX4_run 96 = .ok (.aload_n 0, 1) := by decide +kernel
theorem dX4_run_97 : decode cX4_run 97 = .ok (.getfield 31, 3) := by decide +kernel
theorem dX4_run_100 : decode cX4_run 100 = .ok (.iload 4, 2) := by decide +kernel
theorem dX4_run_102 : decode cX4_run 102 = .ok (.iconst 1, 1) := by decide +kernel
theorem dX4_run_103 : decode cX4_run 103 = .ok (.isub, 1) := by decide +kernel
theorem dX4_run_104 : decode cX4_run 104 = .ok (.laload, 1) := by decide +kernel
theorem dX4_run_105 : decode cX4_run 105 = .ok (.lsub, 1) := by decide +kernel
theorem dX4_run_106 : decode cX4_run 106 = .ok (.lastore, 1) := by decide +kernel
theorem dX4_run_107 : decode cX4_run 107 = .ok (.goto 43, 3) := by decide +kernel
theorem dX4_run_110 : decode cX4_run 110 = .ok (.iload 4, 2) := by decide +kernel
theorem dX4_run_112 : decode cX4_run 112 = .ok (.iconst 1, 1) := by decide +kernel
theorem dX4_run_113 : decode cX4_run 113 = .ok (.if_icmp .le 37, 3) := by decide +kernel
theorem dX4_run_116 : decode cX4_run 116 = .ok (.iinc 4 (-1), 3) := by decide +kernel
theorem dX4_run_119 : decode cX4_run 119 = .ok (.aload_n 0, 1) := by decide +kernel
theorem dX4_run_120 : decode cX4_run 120 = .ok (.getfield 31, 3) := by decide +kernel
theorem dX4_run_123 : decode cX4_run 123 = .ok (.iload 4, 2) := by decide +kernel
theorem dX4_run_125 : decode cX4_run 125 = .ok (.iconst 1, 1) := by decide +kernel
theorem dX4_run_126 : decode cX4_run 126 = .ok (.isub, 1) := by decide +kernel
theorem dX4_run_127 : decode cX4_run 127 = .ok (.iload 6, 2) := by decide +kernel
theorem dX4_run_129 : decode cX4_run 129 = .ok (.ineg, 1) := by decide +kernel
theorem dX4_run_130 : decode cX4_run 130 = .ok (.aload_n 0, 1) := by decide +kernel
theorem dX4_run_131 : decode cX4_run 131 = .ok (.getfield 31, 3) := by decide +kernel
theorem dX4_run_134 : decode cX4_run 134 = .ok (.iload 4, 2) := by decide +kernel
theorem dX4_run_136 : decode cX4_run 136 = .ok (.iconst 1, 1) := by decide +kernel
theorem dX4_run_137 : decode cX4_run 137 = .ok (.isub, 1) := by decide +kernel
theorem dX4_run_138 : decode cX4_run 138 = .ok (.laload, 1) := by decide +kernel
theorem dX4_run_139 : decode cX4_run 139 = .ok (.aload_n 0, 1) := by decide +kernel
theorem dX4_run_140 : decode cX4_run 140 = .ok (.getfield 31, 3) := by decide +kernel
theorem dX4_run_143 : decode cX4_run 143 = .ok (.iload 4, 2) := by decide +kernel
theorem dX4_run_145 : decode cX4_run 145 = .ok (.laload, 1) := by decide +kernel
theorem dX4_run_146 : decode cX4_run 146 = .ok (.invokestatic 39, 3) := by decide +kernel
theorem dX4_run_149 : decode cX4_run 149 = .ok (.lastore, 1) := by decide +kernel
theorem dX4_run_150 : decode cX4_run 150 = .ok (.iinc 5 1, 3) := by decide +kernel
theorem dX4_run_153 : decode cX4_run 153 = .ok (.goto (-147), 3) := by decide +kernel
theorem dX4_run_156 : decode cX4_run 156 = .ok (.iload 4, 2) := by decide +kernel
theorem dX4_run_158 : decode cX4_run 158 = .ok (.ifCond .le 15, 3) := by decide +kernel
theorem dX4_run_161 : decode cX4_run 161 = .ok (.aload_n 0, 1) := by decide +kernel
theorem dX4_run_162 : decode cX4_run 162 = .ok (.getfield 31, 3) := by decide +kernel
theorem dX4_run_165 : decode cX4_run 165 = .ok (.iload 4, 2) := by decide +kernel
theorem dX4_run_167 : decode cX4_run 167 = .ok (.iconst 1, 1) := by decide +kernel
theorem dX4_run_168 : decode cX4_run 168 = .ok (.isub, 1) := by decide +kernel
theorem dX4_run_169 : decode cX4_run 169 = .ok (.laload, 1) := by decide +kernel
theorem dX4_run_170 : decode cX4_run 170 = .ok (.goto 4, 3) := by decide +kernel
theorem dX4_run_173 : decode cX4_run 173 = .ok (.lconst 0, 1) := by decide +kernel
theorem dX4_run_174 : decode cX4_run 174 = .ok (.lreturn, 1) := by decide +kernel
theorem dX4_worth_0 : decode cX4_worth 0 = .ok (.iconst 0, 1) := by decide +kernel
theorem dX4_worth_1 : decode cX4_worth 1 = .ok (.istore_n 2, 1) := by decide +kernel
theorem dX4_worth_2 : decode cX4_worth 2 = .ok (.iload_n 2, 1) := by decide +kernel
theorem dX4_worth_3 : decode cX4_worth 3 = .ok (.aload_n 0, 1) := by decide +kernel
theorem dX4_worth_4 : decode cX4_worth 4 = .ok (.getfield 28, 3) := by decide +kernel
theorem dX4_worth_7 : decode cX4_worth 7 = .ok (.if_icmp .ge 74, 3) := by decide +kernel
theorem dX4_worth_10 : decode cX4_worth 10 = .ok (.aload_n 0, 1) := by decide +kernel
theorem dX4_worth_11 : decode cX4_worth 11 = .ok (.getfield 22, 3) := by decide +kernel
theorem dX4_worth_14 : decode cX4_worth 14 = .ok (.iload_n 2, 1) := by decide +kernel
theorem dX4_worth_15 : decode cX4_worth 15 = .ok (.iaload, 1) := by decide +kernel
theorem dX4_worth_16 : decode cX4_worth 16 = .ok (.aload_n 0, 1) := by decide +kernel
theorem dX4_worth_17 : decode cX4_worth 17 = .ok (.getfield 25, 3) := by decide +kernel
theorem dX4_worth_20 : decode cX4_worth 20 = .ok (.iload_n 2, 1) := by decide +kernel
theorem dX4_worth_21 : decode cX4_worth 21 = .ok (.iaload, 1) := by decide +kernel
theorem dX4_worth_22 : decode cX4_worth 22 = .ok (.if_icmp .eq 25, 3) := by decide +kernel
theorem dX4_worth_25 : decode cX4_worth 25 = .ok (.aload_n 0, 1) := by decide +kernel
theorem dX4_worth_26 : decode cX4_worth 26 = .ok (.aload_n 0, 1) := by decide +kernel
theorem dX4_worth_27 : decode cX4_worth 27 = .ok (.getfield 22, 3) := by decide +kernel
theorem dX4_worth_30 : decode cX4_worth 30 = .ok (.iload_n 2, 1) := by decide +kernel
theorem dX4_worth_31 : decode cX4_worth 31 = .ok (.iaload, 1) := by decide +kernel
theorem dX4_worth_32 : decode cX4_worth 32 = .ok (.aload_n 0, 1) := by decide +kernel
theorem dX4_worth_33 : decode cX4_worth 33 = .ok (.getfield 25, 3) := by decide +kernel
theorem dX4_worth_36 : decode cX4_worth 36 = .ok (.iload_n 2, 1) := by decide +kernel
theorem dX4_worth_37 : decode cX4_worth 37 = .ok (.iaload, 1) := by decide +kernel
theorem dX4_worth_38 : decode cX4_worth 38 = .ok (.aload_n 1, 1) := by decide +kernel
theorem dX4_worth_39 : decode cX4_worth 39 = .ok (.invokevirtual 35, 3) := by decide +kernel
theorem dX4_worth_42 : decode cX4_worth 42 = .ok (.lconst 0, 1) := by decide +kernel
theorem dX4_worth_43 : decode cX4_worth 43 = .ok (.lcmp, 1) := by decide +kernel
theorem dX4_worth_44 : decode cX4_worth 44 = .ok (.ifCond .eq 7, 3) := by decide +kernel
theorem dX4_worth_47 : decode cX4_worth 47 = .ok (.iconst 1, 1) := by decide +kernel
theorem dX4_worth_48 : decode cX4_worth 48 = .ok (.goto 4, 3) := by decide +kernel
theorem dX4_worth_51 : decode cX4_worth 51 = .ok (.iconst 0, 1) := by decide +kernel
theorem dX4_worth_52 : decode cX4_worth 52 = .ok (.istore_n 3, 1) := by decide +kernel
theorem dX4_worth_53 : decode cX4_worth 53 = .ok (.iload_n 3, 1) := by decide +kernel
theorem dX4_worth_54 : decode cX4_worth 54 = .ok (.ifCond .eq 21, 3) := by decide +kernel
theorem dX4_worth_57 : decode cX4_worth 57 = .ok (.aload_n 0, 1) := by decide +kernel
theorem dX4_worth_58 : decode cX4_worth 58 = .ok (.aload_n 0, 1) := by decide +kernel
theorem dX4_worth_59 : decode cX4_worth 59 = .ok (.getfield 19, 3) := by decide +kernel
theorem dX4_worth_62 : decode cX4_worth 62 = .ok (.iload_n 2, 1) := by decide +kernel
theorem dX4_worth_63 : decode cX4_worth 63 = .ok (.iaload, 1) := by decide +kernel
theorem dX4_worth_64 : decode cX4_worth 64 = .ok (.aload_n 0, 1) := by decide +kernel
theorem dX4_worth_65 : decode cX4_worth 65 = .ok (.getfield 22, 3) := by decide +kernel
theorem dX4_worth_68 : decode cX4_worth 68 = .ok (.iload_n 2, 1) := by decide +kernel
theorem dX4_worth_69 : decode cX4_worth 69 = .ok (.iaload, 1) := by decide +kernel
theorem dX4_worth_70 : decode cX4_worth 70 = .ok (.aload_n 1, 1) := by decide +kernel
theorem dX4_worth_71 : decode cX4_worth 71 = .ok (.invokevirtual 35, 3) := by decide +kernel
theorem dX4_worth_74 : decode cX4_worth 74 = .ok (.lreturn, 1) := by decide +kernel
theorem dX4_worth_75 : decode cX4_worth 75 = .ok (.iinc 2 1, 3) := by decide +kernel
theorem dX4_worth_78 : decode cX4_worth 78 = .ok (.goto (-76), 3) := by decide +kernel
theorem dX4_worth_81 : decode cX4_worth 81 = .ok (.lconst 0, 1) := by decide +kernel
theorem dX4_worth_82 : decode cX4_worth 82 = .ok (.lreturn, 1) := by decide +kernel
theorem dX5_fail_0 : decode cX5_fail 0 = .ok (.aload_n 0, 1) := by decide +kernel
theorem dX5_fail_1 : decode cX5_fail 1 = .ok (.iconst 1, 1) := by decide +kernel
theorem dX5_fail_2 : decode cX5_fail 2 = .ok (.bipush 8, 2) := by decide +kernel
theorem dX5_fail_4 : decode cX5_fail 4 = .ok (.aload_n 0, 1) := by decide +kernel
theorem dX5_fail_5 : decode cX5_fail 5 = .ok (.getfield 25, 3) := by decide +kernel
theorem dX5_fail_8 : decode cX5_fail 8 = .ok (.getfield 83, 3) := by decide +kernel
theorem dX5_fail_11 : decode cX5_fail 11 = .ok (.imul, 1) := by decide +kernel
theorem dX5_fail_12 : decode cX5_fail 12 = .ok (.iadd, 1) := by decide +kernel
theorem dX5_fail_13 : decode cX5_fail 13 = .ok (.iload_n 1, 1) := by decide +kernel
theorem dX5_fail_14 : decode cX5_fail 14 = .ok (.iadd, 1) := by decide +kernel
theorem dX5_fail_15 : decode cX5_fail 15 = .ok (.putfield 22, 3) := by decide +kernel
theorem dX5_fail_18 : decode cX5_fail 18 = .ok (.iconst 0, 1) := by decide +kernel
theorem dX5_fail_19 : decode cX5_fail 19 = .ok (.ireturn, 1) := by decide +kernel
theorem dX5_readHead_0 : decode cX5_readHead 0 = .ok (.aload_n 0, 1) := by decide +kernel
theorem dX5_readHead_1 : decode cX5_readHead 1 = .ok (.getfield 25, 3) := by decide +kernel
theorem dX5_readHead_4 : decode cX5_readHead 4 = .ok (.getfield 43, 3) := by decide +kernel
theorem dX5_readHead_7 : decode cX5_readHead 7 = .ok (.bipush 16, 2) := by decide +kernel
theorem dX5_readHead_9 : decode cX5_readHead 9 = .ok (.if_icmp .eq 9, 3) := by decide +kernel
theorem dX5_readHead_12 : decode cX5_readHead 12 = .ok (.aload_n 0, 1) := by decide +kernel
theorem dX5_readHead_13 : decode cX5_readHead 13 = .ok (.iconst 0, 1) := by decide +kernel
theorem dX5_readHead_14 : decode cX5_readHead 14 = .ok (.invokevirtual 57, 3) := by decide +kernel
theorem dX5_readHead_17 : decode cX5_readHead 17 = .ok (.ireturn, 1) := by decide +kernel
theorem dX5_readHead_18 : decode cX5_readHead 18 = .ok (.iload_n 1, 1) := by decide +kernel
theorem dX5_readHead_19 : decode cX5_readHead 19 = .ok (.bipush 12, 2) := by decide +kernel
theorem dX5_readHead_21 : decode cX5_readHead 21 = .ok (.if_icmp .lt 9, 3) := by decide +kernel
theorem dX5_readHead_24 : decode cX5_readHead 24 = .ok (.aload_n 0, 1) := by decide +kernel
theorem dX5_readHead_25 : decode cX5_readHead 25 = .ok (.iconst 4, 1) := by decide +kernel
theorem dX5_readHead_26 : decode cX5_readHead 26 = .ok (.invokevirtual 57, 3) := by decide +kernel
theorem dX5_readHead_29 : decode cX5_readHead 29 = .ok (.ireturn, 1) := by decide +kernel
theorem dX5_readHead_30 : decode cX5_readHead 30 = .ok (.aload_n 0, 1) := by decide +kernel
theorem dX5_readHead_31 : decode cX5_readHead 31 = .ok (.getfield 25, 3) := by decide +kernel
theorem dX5_readHead_34 : decode cX5_readHead 34 = .ok (.invokevirtual 48, 3) := by decide +kernel
theorem dX5_readHead_37 : decode cX5_readHead 37 = .ok (.iconst 1, 1) := by decide +kernel
theorem dX5_readHead_38 : decode cX5_readHead 38 = .ok (.ireturn, 1) := by decide +kernel
theorem dX5_readSign_0 : decode cX5_readSign 0 = .ok (.aload_n 0, 1) := by decide +kernel
theorem dX5_readSign_1 : decode cX5_readSign 1 = .ok (.getfield 25, 3) := by decide +kernel
theorem dX5_readSign_4 : decode cX5_readSign 4 = .ok (.getfield 43, 3) := by decide +kernel
theorem dX5_readSign_7 : decode cX5_readSign 7 = .ok (.tableswitch 36 33 37 #[33, 33, 33, 33, 33], 33) := by decide +kernel
theorem dX5_readSign_40 : decode cX5_readSign 40 = .ok (.goto 9, 3) := by decide +kernel
theorem dX5_readSign_43 : decode cX5_readSign 43 = .ok (.aload_n 0, 1) := by decide +kernel
theorem dX5_readSign_44 : decode cX5_readSign 44 = .ok (.iconst 0, 1) := by decide +kernel
theorem dX5_readSign_45 : decode cX5_readSign 45 = .ok (.invokevirtual 57, 3) := by decide +kernel
theorem dX5_readSign_48 : decode cX5_readSign 48 = .ok (.ireturn, 1) := by decide +kernel
theorem dX5_readSign_49 : decode cX5_readSign 49 = .ok (.aload_n 0, 1) := by decide +kernel
theorem dX5_readSign_50 : decode cX5_readSign 50 = .ok (.getfield 18, 3) := by decide +kernel
theorem dX5_readSign_53 : decode cX5_readSign 53 = .ok (.bipush 60, 2) := by decide +kernel
theorem dX5_readSign_55 : decode cX5_readSign 55 = .ok (.if_icmp .lt 9, 3) := by decide +kernel
theorem dX5_readSign_58 : decode cX5_readSign 58 = .ok (.aload_n 0, 1) := by decide +kernel
theorem dX5_readSign_59 : decode cX5_readSign 59 = .ok (.iconst 3, 1) := by decide +kernel
theorem dX5_readSign_60 : decode cX5_readSign 60 = .ok (.invokevirtual 57, 3) := by decide +kernel
theorem dX5_readSign_63 : decode cX5_readSign 63 = .ok (.ireturn, 1) := by decide +kernel
theorem dX5_readSign_64 : decode cX5_readSign 64 = .ok (.aload_n 0, 1) := by decide +kernel
theorem dX5_readSign_65 : decode cX5_readSign 65 = .ok (.dup, 1) := by decide +kernel
theorem dX5_readSign_66 : decode cX5_readSign 66 = .ok (.getfield 18, 3) := by decide +kernel
theorem dX5_readSign_69 : decode cX5_readSign 69 = .ok (.iconst 1, 1) := by decide +kernel
theorem dX5_readSign_70 : decode cX5_readSign 70 = .ok (.iadd, 1) := by decide +kernel
theorem dX5_readSign_71 : decode cX5_readSign 71 = .ok (.putfield 18, 3) := by decide +kernel
theorem dX5_readSign_74 : decode cX5_readSign 74 = .ok (.aload_n 0, 1) := by decide +kernel
theorem dX5_readSign_75 : decode cX5_readSign 75 = .ok (.getfield 25, 3) := by decide +kernel
theorem dX5_readSign_78 : decode cX5_readSign 78 = .ok (.invokevirtual 48, 3) := by decide +kernel
theorem dX5_readSign_81 : decode cX5_readSign 81 = .ok (.iconst 1, 1) := by decide +kernel
theorem dX5_readSign_82 : decode cX5_readSign 82 = .ok (.ireturn, 1) := by decide +kernel
theorem dX5_readValue_0 : decode cX5_readValue 0 = .ok (.aload_n 0, 1) := by decide +kernel
theorem dX5_readValue_1 : decode cX5_readValue 1 = .ok (.getfield 25, 3) := by decide +kernel
theorem dX5_readValue_4 : decode cX5_readValue 4 = .ok (.getfield 43, 3) := by decide +kernel
theorem dX5_readValue_7 : decode cX5_readValue 7 = .ok (.bipush 12, 2) := by decide +kernel
theorem dX5_readValue_9 : decode cX5_readValue 9 = .ok (.if_icmp .ge 7, 3) := by decide +kernel
theorem dX5_readValue_12 : decode cX5_readValue 12 = .ok (.iconst 1, 1) := by decide +kernel
theorem dX5_readValue_13 : decode cX5_readValue 13 = .ok (.goto 4, 3) := by decide +kernel
theorem dX5_readValue_16 : decode cX5_readValue 16 = .ok (.iconst 0, 1) := by decide +kernel
theorem dX5_readValue_17 : decode cX5_readValue 17 = .ok (.istore_n 1, 1) := by decide +kernel
theorem dX5_readValue_18 : decode cX5_readValue 18 = .ok (.iload_n 1, 1) := by decide +kernel
theorem dX5_readValue_19 : decode cX5_readValue 19 = .ok (.ifCond .ne 33, 3) := by decide +kernel
theorem dX5_readValue_22 : decode cX5_readValue 22 = .ok (.aload_n 0, 1) := by decide +kernel
theorem dX5_readValue_23 : decode cX5_readValue 23 = .ok (.getfield 25, 3) := by decide +kernel
theorem dX5_readValue_26 : decode cX5_readValue 26 = .ok (.getfield 43, 3) := by decide +kernel
theorem dX5_readValue_29 : decode cX5_readValue 29 = .ok (.bipush 21, 2) := by decide +kernel
theorem dX5_readValue_31 : decode cX5_readValue 31 = .ok (.if_icmp .eq 21, 3) := by decide +kernel
theorem dX5_readValue_34 : decode cX5_readValue 34 = .ok (.aload_n 0, 1) := by decide +kernel
theorem dX5_readValue_35 : decode cX5_readValue 35 = .ok (.getfield 25, 3) := by decide +kernel
theorem dX5_readValue_38 : decode cX5_readValue 38 = .ok (.getfield 43, 3) := by decide +kernel
theorem dX5_readValue_41 : decode cX5_readValue 41 = .ok (.bipush 22, 2) := by decide +kernel
theorem dX5_readValue_43 : decode cX5_readValue 43 = .ok (.if_icmp .eq 9, 3) := by decide +kernel
theorem dX5_readValue_46 : decode cX5_readValue 46 = .ok (.aload_n 0, 1) := by decide +kernel
theorem dX5_readValue_47 : decode cX5_readValue 47 = .ok (.iconst 0, 1) := by decide +kernel
theorem dX5_readValue_48 : decode cX5_readValue 48 = .ok (.invokevirtual 57, 3) := by decide +kernel
theorem dX5_readValue_51 : decode cX5_readValue 51 = .ok (.ireturn, 1) := by decide +kernel
theorem dX5_readValue_52 : decode cX5_readValue 52 = .ok (.aload_n 0, 1) := by decide +kernel
theorem dX5_readValue_53 : decode cX5_readValue 53 = .ok (.getfield 25, 3) := by decide +kernel
theorem dX5_readValue_56 : decode cX5_readValue 56 = .ok (.getfield 43, 3) := by decide +kernel
theorem dX5_readValue_59 : decode cX5_readValue 59 = .ok (.bipush 22, 2) := by decide +kernel
theorem dX5_readValue_61 : decode cX5_readValue 61 = .ok (.if_icmp .ne 9, 3) := by decide +kernel
theorem dX5_readValue_64 : decode cX5_readValue 64 = .ok (.aload_n 0, 1) := by decide +kernel
theorem dX5_readValue_65 : decode cX5_readValue 65 = .ok (.iconst 1, 1) := by decide +kernel
theorem dX5_readValue_66 : decode cX5_readValue 66 = .ok (.invokevirtual 57, 3) := by decide +kernel
theorem dX5_readValue_69 : decode cX5_readValue 69 = .ok (.ireturn, 1) := by decide +kernel
theorem dX5_readValue_70 : decode cX5_readValue 70 = .ok (.aload_n 0, 1) := by decide +kernel
theorem dX5_readValue_71 : decode cX5_readValue 71 = .ok (.getfield 18, 3) := by decide +kernel
theorem dX5_readValue_74 : decode cX5_readValue 74 = .ok (.bipush 60, 2) := by decide +kernel
theorem dX5_readValue_76 : decode cX5_readValue 76 = .ok (.if_icmp .lt 9, 3) := by decide +kernel
theorem dX5_readValue_79 : decode cX5_readValue 79 = .ok (.aload_n 0, 1) := by decide +kernel
theorem dX5_readValue_80 : decode cX5_readValue 80 = .ok (.iconst 3, 1) := by decide +kernel
theorem dX5_readValue_81 : decode cX5_readValue 81 = .ok (.invokevirtual 57, 3) := by decide +kernel
theorem dX5_readValue_84 : decode cX5_readValue 84 = .ok (.ireturn, 1) := by decide +kernel
theorem dX5_readValue_85 : decode cX5_readValue 85 = .ok (.aload_n 0, 1) := by decide +kernel
theorem dX5_readValue_86 : decode cX5_readValue 86 = .ok (.dup, 1) := by decide +kernel
theorem dX5_readValue_87 : decode cX5_readValue 87 = .ok (.getfield 18, 3) := by decide +kernel
theorem dX5_readValue_90 : decode cX5_readValue 90 = .ok (.iconst 1, 1) := by decide +kernel
theorem dX5_readValue_91 : decode cX5_readValue 91 = .ok (.iadd, 1) := by decide +kernel
theorem dX5_readValue_92 : decode cX5_readValue 92 = .ok (.putfield 18, 3) := by decide +kernel
theorem dX5_readValue_95 : decode cX5_readValue 95 = .ok (.aload_n 0, 1) := by decide +kernel
theorem dX5_readValue_96 : decode cX5_readValue 96 = .ok (.getfield 12, 3) := by decide +kernel
theorem dX5_readValue_99 : decode cX5_readValue 99 = .ok (.iload_n 1, 1) := by decide +kernel
theorem dX5_readValue_100 : decode cX5_readValue 100 = .ok (.ifCond .eq 15, 3) := by decide +kernel
theorem dX5_readValue_103 : decode cX5_readValue 103 = .ok (.iconst (-1), 1) := by decide +kernel
theorem dX5_readValue_104 : decode cX5_readValue 104 = .ok (.aload_n 0, 1) := by decide +kernel
theorem dX5_readValue_105 : decode cX5_readValue 105 = .ok (.getfield 25, 3) := by decide +kernel
theorem dX5_readValue_108 : decode cX5_readValue 108 = .ok (.getfield 43, 3) := by decide +kernel
theorem dX5_readValue_111 : decode cX5_readValue 111 = .ok (.isub, 1) := by decide +kernel
theorem dX5_readValue_112 : decode cX5_readValue 112 = .ok (.goto 10, 3) := by decide +kernel
theorem dX5_readValue_115 : decode cX5_readValue 115 = .ok (.aload_n 0, 1) := by decide +kernel
theorem dX5_readValue_116 : decode cX5_readValue 116 = .ok (.getfield 25, 3) := by decide +kernel
theorem dX5_readValue_119 : decode cX5_readValue 119 = .ok (.getfield 80, 3) := by decide +kernel
theorem dX5_readValue_122 : decode cX5_readValue 122 = .ok (.invokevirtual 63, 3) := by decide +kernel
theorem dX5_readValue_125 : decode cX5_readValue 125 = .ok (.aload_n 0, 1) := by decide +kernel
theorem dX5_readValue_126 : decode cX5_readValue 126 = .ok (.getfield 25, 3) := by decide +kernel
theorem dX5_readValue_129 : decode cX5_readValue 129 = .ok (.invokevirtual 48, 3) := by decide +kernel
theorem dX5_readValue_132 : decode cX5_readValue 132 = .ok (.iconst 1, 1) := by decide +kernel
theorem dX5_readValue_133 : decode cX5_readValue 133 = .ok (.ireturn, 1) := by decide +kernel
theorem dX5_readSum_0 : decode cX5_readSum 0 = .ok (.iconst (-1), 1) := by decide +kernel
theorem dX5_readSum_1 : decode cX5_readSum 1 = .ok (.istore_n 1, 1) := by decide +kernel
theorem dX5_readSum_2 : decode cX5_readSum 2 = .ok (.aload_n 0, 1) := by decide +kernel
theorem dX5_readSum_3 : decode cX5_readSum 3 = .ok (.invokevirtual 77, 3) := by decide +kernel
theorem dX5_readSum_6 : decode cX5_readSum 6 = .ok (.ifCond .ne 5, 3) := by decide +kernel
theorem dX5_readSum_9 : decode cX5_readSum 9 = .ok (.iconst 0, 1) := by decide +kernel
theorem dX5_readSum_10 : decode cX5_readSum 10 = .ok (.ireturn, 1) := by decide +kernel
theorem dX5_readSum_11 : decode cX5_readSum 11 = .ok (.iconst 0, 1) := by decide +kernel
theorem dX5_readSum_12 : decode cX5_readSum 12 = .ok (.istore_n 2, 1) := by decide +kernel
theorem dX5_readSum_13 : decode cX5_readSum 13 = .ok (.iload_n 2, 1) := by decide +kernel
theorem dX5_readSum_14 : decode cX5_readSum 14 = .ok (.sipush 400, 3) := by decide +kernel
theorem dX5_readSum_17 : decode cX5_readSum 17 = .ok (.if_icmp .ge 115, 3) := by decide +kernel
theorem dX5_readSum_20 : decode cX5_readSum 20 = .ok (.aload_n 0, 1) := by decide +kernel
theorem dX5_readSum_21 : decode cX5_readSum 21 = .ok (.getfield 25, 3) := by decide +kernel
theorem dX5_readSum_24 : decode cX5_readSum 24 = .ok (.getfield 43, 3) := by decide +kernel
theorem dX5_readSum_27 : decode cX5_readSum 27 = .ok (.istore_n 3, 1) := by decide +kernel
theorem dX5_readSum_28 : decode cX5_readSum 28 = .ok (.iload_n 3, 1) := by decide +kernel
theorem dX5_readSum_29 : decode cX5_readSum 29 = .ok (.bipush 28, 2) := by decide +kernel
theorem dX5_readSum_31 : decode cX5_readSum 31 = .ok (.if_icmp .eq 15, 3) := by decide +kernel
theorem dX5_readSum_34 : decode cX5_readSum 34 = .ok (.iload_n 3, 1) := by decide +kernel
theorem dX5_readSum_35 : decode cX5_readSum 35 = .ok (.bipush 29, 2) := by decide +kernel
theorem dX5_readSum_37 : decode cX5_readSum 37 = .ok (.if_icmp .eq 9, 3) := by decide +kernel
theorem dX5_readSum_40 : decode cX5_readSum 40 = .ok (.iload_n 3, 1) := by decide +kernel
theorem dX5_readSum_41 : decode cX5_readSum 41 = .ok (.bipush 30, 2) := by decide +kernel
theorem dX5_readSum_43 : decode cX5_readSum 43 = .ok (.if_icmp .ne 7, 3) := by decide +kernel
theorem dX5_readSum_46 : decode cX5_readSum 46 = .ok (.iconst 1, 1) := by decide +kernel
theorem dX5_readSum_47 : decode cX5_readSum 47 = .ok (.goto 4, 3) := by decide +kernel
theorem dX5_readSum_50 : decode cX5_readSum 50 = .ok (.iconst 0, 1) := by decide +kernel
theorem dX5_readSum_51 : decode cX5_readSum 51 = .ok (.istore 4, 2) := by decide +kernel
theorem dX5_readSum_53 : decode cX5_readSum 53 = .ok (.iload 4, 2) := by decide +kernel
theorem dX5_readSum_55 : decode cX5_readSum 55 = .ok (.ifCond .ne 17, 3) := by decide +kernel
theorem dX5_readSum_58 : decode cX5_readSum 58 = .ok (.iload_n 1, 1) := by decide +kernel
theorem dX5_readSum_59 : decode cX5_readSum 59 = .ok (.iconst (-1), 1) := by decide +kernel
theorem dX5_readSum_60 : decode cX5_readSum 60 = .ok (.if_icmp .eq 12, 3) := by decide +kernel
theorem dX5_readSum_63 : decode cX5_readSum 63 = .ok (.aload_n 0, 1) := by decide +kernel
theorem dX5_readSum_64 : decode cX5_readSum 64 = .ok (.getfield 12, 3) := by decide +kernel
theorem dX5_readSum_67 : decode cX5_readSum 67 = .ok (.iload_n 1, 1) := by decide +kernel
theorem dX5_readSum_68 : decode cX5_readSum 68 = .ok (.ineg, 1) := by decide +kernel
theorem dX5_readSum_69 : decode cX5_readSum 69 = .ok (.invokevirtual 63, 3) := by decide +kernel
theorem dX5_readSum_72 : decode cX5_readSum 72 = .ok (.iload 4, 2) := by decide +kernel
theorem dX5_readSum_74 : decode cX5_readSum 74 = .ok (.ifCond .ne 17, 3) := by decide +kernel
theorem dX5_readSum_77 : decode cX5_readSum 77 = .ok (.iload_n 3, 1) := by decide +kernel
theorem dX5_readSum_78 : decode cX5_readSum 78 = .ok (.bipush 26, 2) := by decide +kernel
theorem dX5_readSum_80 : decode cX5_readSum 80 = .ok (.if_icmp .eq 11, 3) := by decide +kernel
theorem dX5_readSum_83 : decode cX5_readSum 83 = .ok (.iload_n 3, 1) := by decide +kernel
theorem dX5_readSum_84 : decode cX5_readSum 84 = .ok (.bipush 27, 2) := by decide +kernel
theorem dX5_readSum_86 : decode cX5_readSum 86 = .ok (.if_icmp .eq 5, 3) := by decide +kernel
theorem dX5_readSum_89 : decode cX5_readSum 89 = .ok (.iconst 1, 1) := by decide +kernel
theorem dX5_readSum_90 : decode cX5_readSum 90 = .ok (.ireturn, 1) := by decide +kernel
theorem dX5_readSum_91 : decode cX5_readSum 91 = .ok (.aload_n 0, 1) := by decide +kernel
theorem dX5_readSum_92 : decode cX5_readSum 92 = .ok (.getfield 25, 3) := by decide +kernel
theorem dX5_readSum_95 : decode cX5_readSum 95 = .ok (.invokevirtual 48, 3) := by decide +kernel
theorem dX5_readSum_98 : decode cX5_readSum 98 = .ok (.aload_n 0, 1) := by decide +kernel
theorem dX5_readSum_99 : decode cX5_readSum 99 = .ok (.invokevirtual 77, 3) := by decide +kernel
theorem dX5_readSum_102 : decode cX5_readSum 102 = .ok (.ifCond .ne 5, 3) := by decide +kernel
theorem dX5_readSum_105 : decode cX5_readSum 105 = .ok (.iconst 0, 1) := by decide +kernel
theorem dX5_readSum_106 : decode cX5_readSum 106 = .ok (.ireturn, 1) := by decide +kernel
theorem dX5_readSum_107 : decode cX5_readSum 107 = .ok (.iload 4, 2) := by decide +kernel
theorem dX5_readSum_109 : decode cX5_readSum 109 = .ok (.ifCond .eq 15, 3) := by decide +kernel
theorem dX5_readSum_112 : decode cX5_readSum 112 = .ok (.aload_n 0, 1) := by decide +kernel
theorem dX5_readSum_113 : decode cX5_readSum 113 = .ok (.getfield 12, 3) := by decide +kernel
theorem dX5_readSum_116 : decode cX5_readSum 116 = .ok (.iload_n 3, 1) := by decide +kernel
theorem dX5_readSum_117 : decode cX5_readSum 117 = .ok (.ineg, 1) := by decide +kernel
theorem dX5_readSum_118 : decode cX5_readSum 118 = .ok (.invokevirtual 63, 3) := by decide +kernel
theorem dX5_readSum_121 : decode cX5_readSum 121 = .ok (.goto 5, 3) := by decide +kernel
theorem dX5_readSum_124 : decode cX5_readSum 124 = .ok (.iload_n 3, 1) := by decide +kernel
theorem dX5_readSum_125 : decode cX5_readSum 125 = .ok (.istore_n 1, 1) := by decide +kernel
theorem dX5_readSum_126 : decode cX5_readSum 126 = .ok (.iinc 2 1, 3) := by decide +kernel
theorem dX5_readSum_129 : decode cX5_readSum 129 = .ok (.goto (-116), 3) := by decide +kernel
theorem dX5_readSum_132 : decode cX5_readSum 132 = .ok (.iconst 1, 1) := by decide +kernel
theorem dX5_readSum_133 : decode cX5_readSum 133 = .ok (.ireturn, 1) := by decide +kernel
theorem dX6_clear_0 : decode cX6_clear 0 = .ok (.aload_n 0, 1) := by decide +kernel
theorem dX6_clear_1 : decode cX6_clear 1 = .ok (.iconst 0, 1) := by decide +kernel
theorem dX6_clear_2 : decode cX6_clear 2 = .ok (.putfield 18, 3) := by decide +kernel
theorem dX6_clear_5 : decode cX6_clear 5 = .ok (.return_, 1) := by decide +kernel
theorem dX6_begin_0 : decode cX6_begin 0 = .ok (.aload_n 0, 1) := by decide +kernel
theorem dX6_begin_1 : decode cX6_begin 1 = .ok (.getfield 22, 3) := by decide +kernel
theorem dX6_begin_4 : decode cX6_begin 4 = .ok (.getfield 48, 3) := by decide +kernel
theorem dX6_begin_7 : decode cX6_begin 7 = .ok (.getfield 54, 3) := by decide +kernel
theorem dX6_begin_10 : decode cX6_begin 10 = .ok (.iconst 0, 1) := by decide +kernel
theorem dX6_begin_11 : decode cX6_begin 11 = .ok (.aload_n 0, 1) := by decide +kernel
theorem dX6_begin_12 : decode cX6_begin 12 = .ok (.getfield 9, 3) := by decide +kernel
theorem dX6_begin_15 : decode cX6_begin 15 = .ok (.iconst 0, 1) := by decide +kernel
theorem dX6_begin_16 : decode cX6_begin 16 = .ok (.bipush 41, 2) := by decide +kernel
theorem dX6_begin_18 : decode cX6_begin 18 = .ok (.invokestatic 58, 3) := by decide +kernel
theorem dX6_begin_21 : decode cX6_begin 21 = .ok (.aload_n 0, 1) := by decide +kernel
theorem dX6_begin_22 : decode cX6_begin 22 = .ok (.getfield 26, 3) := by decide +kernel
theorem dX6_begin_25 : decode cX6_begin 25 = .ok (.aload_n 1, 1) := by decide +kernel
theorem dX6_begin_26 : decode cX6_begin 26 = .ok (.invokevirtual 64, 3) := by decide +kernel
theorem dX6_begin_29 : decode cX6_begin 29 = .ok (.return_, 1) := by decide +kernel
theorem dX6_lastBookNight_0 : decode cX6_lastBookNight 0 = .ok (.iconst (-1), 1) := by decide +kernel
theorem dX6_lastBookNight_1 : decode cX6_lastBookNight 1 = .ok (.istore_n 1, 1) := by decide +kernel
theorem dX6_lastBookNight_2 : decode cX6_lastBookNight 2 = .ok (.iconst 0, 1) := by decide +kernel
theorem dX6_lastBookNight_3 : decode cX6_lastBookNight 3 = .ok (.istore_n 2, 1) := by decide +kernel
theorem dX6_lastBookNight_4 : decode cX6_lastBookNight 4 = .ok (.iload_n 2, 1) := by decide +kernel
theorem dX6_lastBookNight_5 : decode cX6_lastBookNight 5 = .ok (.aload_n 0, 1) := by decide +kernel
theorem dX6_lastBookNight_6 : decode cX6_lastBookNight 6 = .ok (.getfield 22, 3) := by decide +kernel
theorem dX6_lastBookNight_9 : decode cX6_lastBookNight 9 = .ok (.getfield 67, 3) := by decide +kernel
theorem dX6_lastBookNight_12 : decode cX6_lastBookNight 12 = .ok (.if_icmp .ge 23, 3) := by decide +kernel
theorem dX6_lastBookNight_15 : decode cX6_lastBookNight 15 = .ok (.iload_n 1, 1) := by decide +kernel
theorem dX6_lastBookNight_16 : decode cX6_lastBookNight 16 = .ok (.aload_n 0, 1) := by decide +kernel
theorem dX6_lastBookNight_17 : decode cX6_lastBookNight 17 = .ok (.getfield 22, 3) := by decide +kernel
theorem dX6_lastBookNight_20 : decode cX6_lastBookNight 20 = .ok (.getfield 70, 3) := by decide +kernel
theorem dX6_lastBookNight_23 : decode cX6_lastBookNight 23 = .ok (.iload_n 2, 1) := by decide +kernel
theorem dX6_lastBookNight_24 : decode cX6_lastBookNight 24 = .ok (.iaload, 1) := by decide +kernel
theorem dX6_lastBookNight_25 : decode cX6_lastBookNight 25 = .ok (.invokestatic 73, 3) := by decide +kernel
theorem dX6_lastBookNight_28 : decode cX6_lastBookNight 28 = .ok (.istore_n 1, 1) := by decide +kernel
theorem dX6_lastBookNight_29 : decode cX6_lastBookNight 29 = .ok (.iinc 2 1, 3) := by decide +kernel
theorem dX6_lastBookNight_32 : decode cX6_lastBookNight 32 = .ok (.goto (-28), 3) := by decide +kernel
theorem dX6_lastBookNight_35 : decode cX6_lastBookNight 35 = .ok (.iload_n 1, 1) := by decide +kernel
theorem dX6_lastBookNight_36 : decode cX6_lastBookNight 36 = .ok (.ireturn, 1) := by decide +kernel
theorem dJ6_bitCount_0f7a4_0 : decode cJ6_bitCount_0f7a4 0 = .ok (.iload_n 0, 1) := by decide +kernel
theorem dJ6_bitCount_0f7a4_1 : decode cJ6_bitCount_0f7a4 1 = .ok (.iload_n 0, 1) := by decide +kernel
theorem dJ6_bitCount_0f7a4_2 : decode cJ6_bitCount_0f7a4 2 = .ok (.iconst 1, 1) := by decide +kernel
theorem dJ6_bitCount_0f7a4_3 : decode cJ6_bitCount_0f7a4 3 = .ok (.iushr, 1) := by decide +kernel
theorem dJ6_bitCount_0f7a4_4 : decode cJ6_bitCount_0f7a4 4 = .ok (.ldc_w 265, 3) := by decide +kernel
theorem dJ6_bitCount_0f7a4_7 : decode cJ6_bitCount_0f7a4 7 = .ok (.iand, 1) := by decide +kernel
theorem dJ6_bitCount_0f7a4_8 : decode cJ6_bitCount_0f7a4 8 = .ok (.isub, 1) := by decide +kernel
theorem dJ6_bitCount_0f7a4_9 : decode cJ6_bitCount_0f7a4 9 = .ok (.istore_n 0, 1) := by decide +kernel
theorem dJ6_bitCount_0f7a4_10 : decode cJ6_bitCount_0f7a4 10 = .ok (.iload_n 0, 1) := by decide +kernel
theorem dJ6_bitCount_0f7a4_11 : decode cJ6_bitCount_0f7a4 11 = .ok (.ldc_w 266, 3) := by decide +kernel
theorem dJ6_bitCount_0f7a4_14 : decode cJ6_bitCount_0f7a4 14 = .ok (.iand, 1) := by decide +kernel
theorem dJ6_bitCount_0f7a4_15 : decode cJ6_bitCount_0f7a4 15 = .ok (.iload_n 0, 1) := by decide +kernel
theorem dJ6_bitCount_0f7a4_16 : decode cJ6_bitCount_0f7a4 16 = .ok (.iconst 2, 1) := by decide +kernel
theorem dJ6_bitCount_0f7a4_17 : decode cJ6_bitCount_0f7a4 17 = .ok (.iushr, 1) := by decide +kernel
theorem dJ6_bitCount_0f7a4_18 : decode cJ6_bitCount_0f7a4 18 = .ok (.ldc_w 266, 3) := by decide +kernel
theorem dJ6_bitCount_0f7a4_21 : decode cJ6_bitCount_0f7a4 21 = .ok (.iand, 1) := by decide +kernel
theorem dJ6_bitCount_0f7a4_22 : decode cJ6_bitCount_0f7a4 22 = .ok (.iadd, 1) := by decide +kernel
theorem dJ6_bitCount_0f7a4_23 : decode cJ6_bitCount_0f7a4 23 = .ok (.istore_n 0, 1) := by decide +kernel
theorem dJ6_bitCount_0f7a4_24 : decode cJ6_bitCount_0f7a4 24 = .ok (.iload_n 0, 1) := by decide +kernel
theorem dJ6_bitCount_0f7a4_25 : decode cJ6_bitCount_0f7a4 25 = .ok (.iload_n 0, 1) := by decide +kernel
theorem dJ6_bitCount_0f7a4_26 : decode cJ6_bitCount_0f7a4 26 = .ok (.iconst 4, 1) := by decide +kernel
theorem dJ6_bitCount_0f7a4_27 : decode cJ6_bitCount_0f7a4 27 = .ok (.iushr, 1) := by decide +kernel
theorem dJ6_bitCount_0f7a4_28 : decode cJ6_bitCount_0f7a4 28 = .ok (.iadd, 1) := by decide +kernel
theorem dJ6_bitCount_0f7a4_29 : decode cJ6_bitCount_0f7a4 29 = .ok (.ldc_w 267, 3) := by decide +kernel
theorem dJ6_bitCount_0f7a4_32 : decode cJ6_bitCount_0f7a4 32 = .ok (.iand, 1) := by decide +kernel
theorem dJ6_bitCount_0f7a4_33 : decode cJ6_bitCount_0f7a4 33 = .ok (.istore_n 0, 1) := by decide +kernel
theorem dJ6_bitCount_0f7a4_34 : decode cJ6_bitCount_0f7a4 34 = .ok (.iload_n 0, 1) := by decide +kernel
theorem dJ6_bitCount_0f7a4_35 : decode cJ6_bitCount_0f7a4 35 = .ok (.iload_n 0, 1) := by decide +kernel
theorem dJ6_bitCount_0f7a4_36 : decode cJ6_bitCount_0f7a4 36 = .ok (.bipush 8, 2) := by decide +kernel
theorem dJ6_bitCount_0f7a4_38 : decode cJ6_bitCount_0f7a4 38 = .ok (.iushr, 1) := by decide +kernel
theorem dJ6_bitCount_0f7a4_39 : decode cJ6_bitCount_0f7a4 39 = .ok (.iadd, 1) := by decide +kernel
theorem dJ6_bitCount_0f7a4_40 : decode cJ6_bitCount_0f7a4 40 = .ok (.istore_n 0, 1) := by decide +kernel
theorem dJ6_bitCount_0f7a4_41 : decode cJ6_bitCount_0f7a4 41 = .ok (.iload_n 0, 1) := by decide +kernel
theorem dJ6_bitCount_0f7a4_42 : decode cJ6_bitCount_0f7a4 42 = .ok (.iload_n 0, 1) := by decide +kernel
theorem dJ6_bitCount_0f7a4_43 : decode cJ6_bitCount_0f7a4 43 = .ok (.bipush 16, 2) := by decide +kernel
theorem dJ6_bitCount_0f7a4_45 : decode cJ6_bitCount_0f7a4 45 = .ok (.iushr, 1) := by decide +kernel
theorem dJ6_bitCount_0f7a4_46 : decode cJ6_bitCount_0f7a4 46 = .ok (.iadd, 1) := by decide +kernel
theorem dJ6_bitCount_0f7a4_47 : decode cJ6_bitCount_0f7a4 47 = .ok (.istore_n 0, 1) := by decide +kernel
theorem dJ6_bitCount_0f7a4_48 : decode cJ6_bitCount_0f7a4 48 = .ok (.iload_n 0, 1) := by decide +kernel
theorem dJ6_bitCount_0f7a4_49 : decode cJ6_bitCount_0f7a4 49 = .ok (.bipush 63, 2) := by decide +kernel
theorem dJ6_bitCount_0f7a4_51 : decode cJ6_bitCount_0f7a4 51 = .ok (.iand, 1) := by decide +kernel
theorem dJ6_bitCount_0f7a4_52 : decode cJ6_bitCount_0f7a4 52 = .ok (.ireturn, 1) := by decide +kernel
theorem dX8_tellWords_0 : decode cX8_tellWords 0 = .ok (.aload_n 0, 1) := by decide +kernel
theorem dX8_tellWords_1 : decode cX8_tellWords 1 = .ok (.getfield 9, 3) := by decide +kernel
theorem dX8_tellWords_4 : decode cX8_tellWords 4 = .ok (.iconst 0, 1) := by decide +kernel
theorem dX8_tellWords_5 : decode cX8_tellWords 5 = .ok (.iload_n 2, 1) := by decide +kernel
theorem dX8_tellWords_6 : decode cX8_tellWords 6 = .ok (.i2l, 1) := by decide +kernel
theorem dX8_tellWords_7 : decode cX8_tellWords 7 = .ok (.lastore, 1) := by decide +kernel
theorem dX8_tellWords_8 : decode cX8_tellWords 8 = .ok (.aload_n 0, 1) := by decide +kernel
theorem dX8_tellWords_9 : decode cX8_tellWords 9 = .ok (.getfield 9, 3) := by decide +kernel
theorem dX8_tellWords_12 : decode cX8_tellWords 12 = .ok (.iconst 1, 1) := by decide +kernel
theorem dX8_tellWords_13 : decode cX8_tellWords 13 = .ok (.iload_n 3, 1) := by decide +kernel
theorem dX8_tellWords_14 : decode cX8_tellWords 14 = .ok (.i2l, 1) := by decide +kernel
theorem dX8_tellWords_15 : decode cX8_tellWords 15 = .ok (.lastore, 1) := by decide +kernel
theorem dX8_tellWords_16 : decode cX8_tellWords 16 = .ok (.aload_n 0, 1) := by decide +kernel
theorem dX8_tellWords_17 : decode cX8_tellWords 17 = .ok (.getfield 9, 3) := by decide +kernel
theorem dX8_tellWords_20 : decode cX8_tellWords 20 = .ok (.iconst 2, 1) := by decide +kernel
theorem dX8_tellWords_21 : decode cX8_tellWords 21 = .ok (.aload_n 1, 1) := by decide +kernel
theorem dX8_tellWords_22 : decode cX8_tellWords 22 = .ok (.iconst 0, 1) := by decide +kernel
theorem dX8_tellWords_23 : decode cX8_tellWords 23 = .ok (.iload_n 3, 1) := by decide +kernel
theorem dX8_tellWords_24 : decode cX8_tellWords 24 = .ok (.iadd, 1) := by decide +kernel
theorem dX8_tellWords_25 : decode cX8_tellWords 25 = .ok (.iaload, 1) := by decide +kernel
theorem dX8_tellWords_26 : decode cX8_tellWords 26 = .ok (.i2l, 1) := by decide +kernel
theorem dX8_tellWords_27 : decode cX8_tellWords 27 = .ok (.lastore, 1) := by decide +kernel
theorem dX8_tellWords_28 : decode cX8_tellWords 28 = .ok (.aload_n 0, 1) := by decide +kernel
theorem dX8_tellWords_29 : decode cX8_tellWords 29 = .ok (.getfield 9, 3) := by decide +kernel
theorem dX8_tellWords_32 : decode cX8_tellWords 32 = .ok (.iconst 3, 1) := by decide +kernel
theorem dX8_tellWords_33 : decode cX8_tellWords 33 = .ok (.aload_n 1, 1) := by decide +kernel
theorem dX8_tellWords_34 : decode cX8_tellWords 34 = .ok (.bipush 8, 2) := by decide +kernel
theorem dX8_tellWords_36 : decode cX8_tellWords 36 = .ok (.iload_n 3, 1) := by decide +kernel
theorem dX8_tellWords_37 : decode cX8_tellWords 37 = .ok (.iadd, 1) := by decide +kernel
theorem dX8_tellWords_38 : decode cX8_tellWords 38 = .ok (.iaload, 1) := by decide +kernel
theorem dX8_tellWords_39 : decode cX8_tellWords 39 = .ok (.i2l, 1) := by decide +kernel
theorem dX8_tellWords_40 : decode cX8_tellWords 40 = .ok (.lastore, 1) := by decide +kernel
theorem dX8_tellWords_41 : decode cX8_tellWords 41 = .ok (.aload_n 0, 1) := by decide +kernel
theorem dX8_tellWords_42 : decode cX8_tellWords 42 = .ok (.getfield 9, 3) := by decide +kernel
theorem dX8_tellWords_45 : decode cX8_tellWords 45 = .ok (.iconst 4, 1) := by decide +kernel
theorem dX8_tellWords_46 : decode cX8_tellWords 46 = .ok (.aload_n 0, 1) := by decide +kernel
theorem dX8_tellWords_47 : decode cX8_tellWords 47 = .ok (.getfield 23, 3) := by decide +kernel
theorem dX8_tellWords_50 : decode cX8_tellWords 50 = .ok (.getfield 81, 3) := by decide +kernel
theorem dX8_tellWords_53 : decode cX8_tellWords 53 = .ok (.iload_n 3, 1) := by decide +kernel
theorem dX8_tellWords_54 : decode cX8_tellWords 54 = .ok (.iaload, 1) := by decide +kernel
theorem dX8_tellWords_55 : decode cX8_tellWords 55 = .ok (.i2l, 1) := by decide +kernel
theorem dX8_tellWords_56 : decode cX8_tellWords 56 = .ok (.lastore, 1) := by decide +kernel
theorem dX8_tellWords_57 : decode cX8_tellWords 57 = .ok (.aload_n 0, 1) := by decide +kernel
theorem dX8_tellWords_58 : decode cX8_tellWords 58 = .ok (.getfield 9, 3) := by decide +kernel
theorem dX8_tellWords_61 : decode cX8_tellWords 61 = .ok (.iconst 5, 1) := by decide +kernel
theorem dX8_tellWords_62 : decode cX8_tellWords 62 = .ok (.aload_n 0, 1) := by decide +kernel
theorem dX8_tellWords_63 : decode cX8_tellWords 63 = .ok (.aload_n 1, 1) := by decide +kernel
theorem dX8_tellWords_64 : decode cX8_tellWords 64 = .ok (.iload_n 2, 1) := by decide +kernel
theorem dX8_tellWords_65 : decode cX8_tellWords 65 = .ok (.iload_n 3, 1) := by decide +kernel
theorem dX8_tellWords_66 : decode cX8_tellWords 66 = .ok (.invokevirtual 66, 3) := by decide +kernel
theorem dX8_tellWords_69 : decode cX8_tellWords 69 = .ok (.i2l, 1) := by decide +kernel
theorem dX8_tellWords_70 : decode cX8_tellWords 70 = .ok (.lastore, 1) := by decide +kernel
theorem dX8_tellWords_71 : decode cX8_tellWords 71 = .ok (.aload_n 0, 1) := by decide +kernel
theorem dX8_tellWords_72 : decode cX8_tellWords 72 = .ok (.getfield 9, 3) := by decide +kernel
theorem dX8_tellWords_75 : decode cX8_tellWords 75 = .ok (.bipush 6, 2) := by decide +kernel
theorem dX8_tellWords_77 : decode cX8_tellWords 77 = .ok (.aload_n 0, 1) := by decide +kernel
theorem dX8_tellWords_78 : decode cX8_tellWords 78 = .ok (.aload_n 1, 1) := by decide +kernel
theorem dX8_tellWords_79 : decode cX8_tellWords 79 = .ok (.iload_n 2, 1) := by decide +kernel
theorem dX8_tellWords_80 : decode cX8_tellWords 80 = .ok (.invokevirtual 72, 3) := by decide +kernel
theorem dX8_tellWords_83 : decode cX8_tellWords 83 = .ok (.i2l, 1) := by decide +kernel
theorem dX8_tellWords_84 : decode cX8_tellWords 84 = .ok (.lastore, 1) := by decide +kernel
theorem dX8_tellWords_85 : decode cX8_tellWords 85 = .ok (.aload_n 0, 1) := by decide +kernel
theorem dX8_tellWords_86 : decode cX8_tellWords 86 = .ok (.getfield 9, 3) := by decide +kernel
theorem dX8_tellWords_89 : decode cX8_tellWords 89 = .ok (.bipush 7, 2) := by decide +kernel
theorem dX8_tellWords_91 : decode cX8_tellWords 91 = .ok (.aload_n 1, 1) := by decide +kernel
theorem dX8_tellWords_92 : decode cX8_tellWords 92 = .ok (.bipush 32, 2) := by decide +kernel
theorem dX8_tellWords_94 : decode cX8_tellWords 94 = .ok (.iload_n 2, 1) := by decide +kernel
theorem dX8_tellWords_95 : decode cX8_tellWords 95 = .ok (.iadd, 1) := by decide +kernel
theorem dX8_tellWords_96 : decode cX8_tellWords 96 = .ok (.iaload, 1) := by decide +kernel
theorem dX8_tellWords_97 : decode cX8_tellWords 97 = .ok (.iload_n 3, 1) := by decide +kernel
theorem dX8_tellWords_98 : decode cX8_tellWords 98 = .ok (.if_icmp .ne 7, 3) := by decide +kernel
theorem dX8_tellWords_101 : decode cX8_tellWords 101 = .ok (.lconst 1, 1) := by decide +kernel
theorem dX8_tellWords_102 : decode cX8_tellWords 102 = .ok (.goto 4, 3) := by decide +kernel
theorem dX8_tellWords_105 : decode cX8_tellWords 105 = .ok (.lconst 0, 1) := by decide +kernel
theorem dX8_tellWords_106 : decode cX8_tellWords 106 = .ok (.lastore, 1) := by decide +kernel
theorem dX8_tellWords_107 : decode cX8_tellWords 107 = .ok (.aload_n 0, 1) := by decide +kernel
theorem dX8_tellWords_108 : decode cX8_tellWords 108 = .ok (.getfield 9, 3) := by decide +kernel
theorem dX8_tellWords_111 : decode cX8_tellWords 111 = .ok (.bipush 8, 2) := by decide +kernel
theorem dX8_tellWords_113 : decode cX8_tellWords 113 = .ok (.aload_n 0, 1) := by decide +kernel
theorem dX8_tellWords_114 : decode cX8_tellWords 114 = .ok (.getfield 23, 3) := by decide +kernel
theorem dX8_tellWords_117 : decode cX8_tellWords 117 = .ok (.getfield 62, 3) := by decide +kernel
theorem dX8_tellWords_120 : decode cX8_tellWords 120 = .ok (.iload_n 3, 1) := by decide +kernel
theorem dX8_tellWords_121 : decode cX8_tellWords 121 = .ok (.iaload, 1) := by decide +kernel
theorem dX8_tellWords_122 : decode cX8_tellWords 122 = .ok (.invokestatic 84, 3) := by decide +kernel
theorem dX8_tellWords_125 : decode cX8_tellWords 125 = .ok (.i2l, 1) := by decide +kernel
theorem dX8_tellWords_126 : decode cX8_tellWords 126 = .ok (.lastore, 1) := by decide +kernel
theorem dX8_tellWords_127 : decode cX8_tellWords 127 = .ok (.aload_n 0, 1) := by decide +kernel
theorem dX8_tellWords_128 : decode cX8_tellWords 128 = .ok (.getfield 9, 3) := by decide +kernel
theorem dX8_tellWords_131 : decode cX8_tellWords 131 = .ok (.bipush 9, 2) := by decide +kernel
theorem dX8_tellWords_133 : decode cX8_tellWords 133 = .ok (.aload_n 1, 1) := by decide +kernel
theorem dX8_tellWords_134 : decode cX8_tellWords 134 = .ok (.bipush 24, 2) := by decide +kernel
theorem dX8_tellWords_136 : decode cX8_tellWords 136 = .ok (.iload_n 3, 1) := by decide +kernel
theorem dX8_tellWords_137 : decode cX8_tellWords 137 = .ok (.iadd, 1) := by decide +kernel
theorem dX8_tellWords_138 : decode cX8_tellWords 138 = .ok (.iaload, 1) := by decide +kernel
theorem dX8_tellWords_139 : decode cX8_tellWords 139 = .ok (.ifCond .ge 9, 3) := by decide +kernel
theorem dX8_tellWords_142 : decode cX8_tellWords 142 = .ok (.ldc2_w 90, 3) := by decide +kernel
theorem dX8_tellWords_145 : decode cX8_tellWords 145 = .ok (.goto 20, 3) := by decide +kernel
theorem dX8_tellWords_148 : decode cX8_tellWords 148 = .ok (.bipush 99, 2) := by decide +kernel
theorem dX8_tellWords_150 : decode cX8_tellWords 150 = .ok (.aload_n 1, 1) := by decide +kernel
theorem dX8_tellWords_151 : decode cX8_tellWords 151 = .ok (.bipush 39, 2) := by decide +kernel
theorem dX8_tellWords_153 : decode cX8_tellWords 153 = .ok (.iaload, 1) := by decide +kernel
theorem dX8_tellWords_154 : decode cX8_tellWords 154 = .ok (.aload_n 1, 1) := by decide +kernel
theorem dX8_tellWords_155 : decode cX8_tellWords 155 = .ok (.bipush 24, 2) := by decide +kernel
theorem dX8_tellWords_157 : decode cX8_tellWords 157 = .ok (.iload_n 3, 1) := by decide +kernel
theorem dX8_tellWords_158 : decode cX8_tellWords 158 = .ok (.iadd, 1) := by decide +kernel
theorem dX8_tellWords_159 : decode cX8_tellWords 159 = .ok (.iaload, 1) := by decide +kernel
theorem dX8_tellWords_160 : decode cX8_tellWords 160 = .ok (.isub, 1) := by decide +kernel
theorem dX8_tellWords_161 : decode cX8_tellWords 161 = .ok (.invokestatic 75, 3) := by decide +kernel
theorem dX8_tellWords_164 : decode cX8_tellWords 164 = .ok (.i2l, 1) := by decide +kernel
theorem dX8_tellWords_165 : decode cX8_tellWords 165 = .ok (.lastore, 1) := by decide +kernel
theorem dX8_tellWords_166 : decode cX8_tellWords 166 = .ok (.aload_n 0, 1) := by decide +kernel
theorem dX8_tellWords_167 : decode cX8_tellWords 167 = .ok (.getfield 9, 3) := by decide +kernel
theorem dX8_tellWords_170 : decode cX8_tellWords 170 = .ok (.bipush 10, 2) := by decide +kernel
theorem dX8_tellWords_172 : decode cX8_tellWords 172 = .ok (.aload_n 1, 1) := by decide +kernel
theorem dX8_tellWords_173 : decode cX8_tellWords 173 = .ok (.bipush 39, 2) := by decide +kernel
theorem dX8_tellWords_175 : decode cX8_tellWords 175 = .ok (.iaload, 1) := by decide +kernel
theorem dX8_tellWords_176 : decode cX8_tellWords 176 = .ok (.i2l, 1) := by decide +kernel
theorem dX8_tellWords_177 : decode cX8_tellWords 177 = .ok (.lastore, 1) := by decide +kernel
theorem dX8_tellWords_178 : decode cX8_tellWords 178 = .ok (.aload_n 0, 1) := by decide +kernel
theorem dX8_tellWords_179 : decode cX8_tellWords 179 = .ok (.getfield 9, 3) := by decide +kernel
theorem dX8_tellWords_182 : decode cX8_tellWords 182 = .ok (.bipush 11, 2) := by decide +kernel
theorem dX8_tellWords_184 : decode cX8_tellWords 184 = .ok (.aload_n 1, 1) := by decide +kernel
theorem dX8_tellWords_185 : decode cX8_tellWords 185 = .ok (.bipush 38, 2) := by decide +kernel
theorem dX8_tellWords_187 : decode cX8_tellWords 187 = .ok (.iaload, 1) := by decide +kernel
theorem dX8_tellWords_188 : decode cX8_tellWords 188 = .ok (.invokestatic 84, 3) := by decide +kernel
theorem dX8_tellWords_191 : decode cX8_tellWords 191 = .ok (.i2l, 1) := by decide +kernel
theorem dX8_tellWords_192 : decode cX8_tellWords 192 = .ok (.lastore, 1) := by decide +kernel
theorem dX8_tellWords_193 : decode cX8_tellWords 193 = .ok (.return_, 1) := by decide +kernel
theorem dX8_choose_0 : decode cX8_choose 0 = .ok (.aload_n 0, 1) := by decide +kernel
theorem dX8_choose_1 : decode cX8_choose 1 = .ok (.getfield 15, 3) := by decide +kernel
theorem dX8_choose_4 : decode cX8_choose 4 = .ok (.ifnonnull 5, 3) := by decide +kernel
theorem dX8_choose_7 : decode cX8_choose 7 = .ok (.iconst (-1), 1) := by decide +kernel
theorem dX8_choose_8 : decode cX8_choose 8 = .ok (.ireturn, 1) := by decide +kernel
theorem dX8_choose_9 : decode cX8_choose 9 = .ok (.iconst (-1), 1) := by decide +kernel
theorem dX8_choose_10 : decode cX8_choose 10 = .ok (.istore_n 3, 1) := by decide +kernel
theorem dX8_choose_11 : decode cX8_choose 11 = .ok (.lconst 0, 1) := by decide +kernel
theorem dX8_choose_12 : decode cX8_choose 12 = .ok (.lstore 4, 2) := by decide +kernel
theorem dX8_choose_14 : decode cX8_choose 14 = .ok (.iconst 0, 1) := by decide +kernel
theorem dX8_choose_15 : decode cX8_choose 15 = .ok (.istore 6, 2) := by decide +kernel
theorem dX8_choose_17 : decode cX8_choose 17 = .ok (.iload 6, 2) := by decide +kernel
theorem dX8_choose_19 : decode cX8_choose 19 = .ok (.aload_n 0, 1) := by decide +kernel
theorem dX8_choose_20 : decode cX8_choose 20 = .ok (.getfield 23, 3) := by decide +kernel
theorem dX8_choose_23 : decode cX8_choose 23 = .ok (.getfield 45, 3) := by decide +kernel
theorem dX8_choose_26 : decode cX8_choose 26 = .ok (.if_icmp .ge 59, 3) := by decide +kernel
theorem dX8_choose_29 : decode cX8_choose 29 = .ok (.aload_n 0, 1) := by decide +kernel
theorem dX8_choose_30 : decode cX8_choose 30 = .ok (.aload_n 1, 1) := by decide +kernel
theorem dX8_choose_31 : decode cX8_choose 31 = .ok (.iload_n 2, 1) := by decide +kernel
theorem dX8_choose_32 : decode cX8_choose 32 = .ok (.iload 6, 2) := by decide +kernel
theorem dX8_choose_34 : decode cX8_choose 34 = .ok (.invokevirtual 48, 3) := by decide +kernel
theorem dX8_choose_37 : decode cX8_choose 37 = .ok (.ifCond .ne 6, 3) := by decide +kernel
theorem dX8_choose_40 : decode cX8_choose 40 = .ok (.goto 39, 3) := by decide +kernel
theorem dX8_choose_43 : decode cX8_choose 43 = .ok (.aload_n 0, 1) := by decide +kernel
theorem dX8_choose_44 : decode cX8_choose 44 = .ok (.aload_n 1, 1) := by decide +kernel
theorem dX8_choose_45 : decode cX8_choose 45 = .ok (.iload_n 2, 1) := by decide +kernel
theorem dX8_choose_46 : decode cX8_choose 46 = .ok (.iload 6, 2) := by decide +kernel
theorem dX8_choose_48 : decode cX8_choose 48 = .ok (.invokevirtual 52, 3) := by decide +kernel
theorem dX8_choose_51 : decode cX8_choose 51 = .ok (.aload_n 0, 1) := by decide +kernel
theorem dX8_choose_52 : decode cX8_choose 52 = .ok (.getfield 15, 3) := by decide +kernel
theorem dX8_choose_55 : decode cX8_choose 55 = .ok (.aload_n 0, 1) := by decide +kernel
theorem dX8_choose_56 : decode cX8_choose 56 = .ok (.getfield 9, 3) := by decide +kernel
theorem dX8_choose_59 : decode cX8_choose 59 = .ok (.invokevirtual 56, 3) := by decide +kernel
theorem dX8_choose_62 : decode cX8_choose 62 = .ok (.lstore 7, 2) := by decide +kernel
theorem dX8_choose_64 : decode cX8_choose 64 = .ok (.lload 7, 2) := by decide +kernel
theorem dX8_choose_66 : decode cX8_choose 66 = .ok (.lload 4, 2) := by decide +kernel
theorem dX8_choose_68 : decode cX8_choose 68 = .ok (.lcmp, 1) := by decide +kernel
theorem dX8_choose_69 : decode cX8_choose 69 = .ok (.ifCond .le 10, 3) := by decide +kernel
theorem dX8_choose_72 : decode cX8_choose 72 = .ok (.lload 7, 2) := by decide +kernel
theorem dX8_choose_74 : decode cX8_choose 74 = .ok (.lstore 4, 2) := by decide +kernel
theorem dX8_choose_76 : decode cX8_choose 76 = .ok (.iload 6, 2) := by decide +kernel
theorem dX8_choose_78 : decode cX8_choose 78 = .ok (.istore_n 3, 1) := by decide +kernel
theorem dX8_choose_79 : decode cX8_choose 79 = .ok (.iinc 6 1, 3) := by decide +kernel
theorem dX8_choose_82 : decode cX8_choose 82 = .ok (.goto (-65), 3) := by decide +kernel
theorem dX8_choose_85 : decode cX8_choose 85 = .ok (.iload_n 3, 1) := by decide +kernel
theorem dX8_choose_86 : decode cX8_choose 86 = .ok (.ireturn, 1) := by decide +kernel
def fX4_join (p1 : Int32) (p2 : Int64) (p3 : Int64) : Option Int64 := if p1 = (18 : Int32) then (some (p2 ||| p3)) else (if p1 = (19 : Int32) then (some (p2 &&& p3)) else (if p1 = (26 : Int32) then (some (p2 + p3)) else (if p1 = (27 : Int32) then (some (p2 - p3)) else (if p1 = (28 : Int32) then (some (p2 * p3)) else (if p1 = (29 : Int32) then (if (lg_cmp p3 (0 : Int64)) = 0 then (some (0 : Int64)) else (gd (nzl p3) (some (p2 / p3)))) else (if p1 = (30 : Int32) then (if (lg_cmp p3 (0 : Int64)) = 0 then (some (0 : Int64)) else (gd (nzl p3) (some (lrm p2 p3)))) else (if p1 = (33 : Int32) then (if 0 ≤ (lg_cmp p2 p3) then (some (0 : Int64)) else (some (1 : Int64))) else (if p1 = (34 : Int32) then (if (lg_cmp p2 p3) = 0 then (some (1 : Int64)) else (some (0 : Int64))) else (if p1 = (35 : Int32) then (if (lg_cmp p2 p3) ≤ 0 then (some (0 : Int64)) else (some (1 : Int64))) else (if p1 = (36 : Int32) then (if 0 < (lg_cmp p2 p3) then (some (0 : Int64)) else (some (1 : Int64))) else (if p1 = (37 : Int32) then (if (lg_cmp p2 p3) < 0 then (some (0 : Int64)) else (some (1 : Int64))) else (some (0 : Int64)))))))))))))
set_option maxRecDepth 100000 in
theorem tX4_join (l : Launch) (E : Ev) (st : St) (sz : Nat) (p1 : Int32) (p2 : Int64) (p3 : Int64) {res : Int64} (hf : fX4_join  p1 p2 p3 = some res) : Met l yX4_join (.code yX4_join cX4_join 5 (some .long) :: uW) (rmk 0) (va_Pc [.int p1, .long p2, .long p3] (Pre E st sz)) (QRl res) 0 0 (NoF) := by
  refine Met_in (by decide) (Nat.le_of_ble_eq_true rfl) ?_
  intro p e s m below meth c X hr hlk hz G ls hl
  have hx := X.1.1
  have hb := X.1.2.1
  have hl : lv_has ls 5 [(0, .int p1), (1, .long p2), (3, .long p3)] := hl
  unfold fX4_join at hf
  refine lv_iload_n hx hb dX4_join_0 rfl (lv_at hl 0 rfl) ?_
  by_cases cs18 : p1 = (18 : Int32)
  · have hf := it_t hf cs18
    refine tbl_in hx hb dX4_join_1 cs18 (by decide) (by decide) rfl (tgt := 200) (by decide) ?_
    refine lv_lload_n hx hb dX4_join_200 rfl (lv_at hl 1 rfl) ?_
    refine lv_lload_n hx hb dX4_join_201 rfl (lv_at hl 2 rfl) ?_
    refine lv_lor hx hb dX4_join_202 ?_
    exact rtRl X hlk hr (so_i hf) dX4_join_203
  have hf := it_f hf cs18
  by_cases cs19 : p1 = (19 : Int32)
  · have hf := it_t hf cs19
    refine tbl_in hx hb dX4_join_1 cs19 (by decide) (by decide) rfl (tgt := 196) (by decide) ?_
    refine lv_lload_n hx hb dX4_join_196 rfl (lv_at hl 1 rfl) ?_
    refine lv_lload_n hx hb dX4_join_197 rfl (lv_at hl 2 rfl) ?_
    refine lv_land hx hb dX4_join_198 ?_
    exact rtRl X hlk hr (so_i hf) dX4_join_199
  have hf := it_f hf cs19
  by_cases cs26 : p1 = (26 : Int32)
  · have hf := it_t hf cs26
    refine tbl_in hx hb dX4_join_1 cs26 (by decide) (by decide) rfl (tgt := 96) (by decide) ?_
    refine lv_lload_n hx hb dX4_join_96 rfl (lv_at hl 1 rfl) ?_
    refine lv_lload_n hx hb dX4_join_97 rfl (lv_at hl 2 rfl) ?_
    refine lv_ladd hx hb dX4_join_98 ?_
    exact rtRl X hlk hr (so_i hf) dX4_join_99
  have hf := it_f hf cs26
  by_cases cs27 : p1 = (27 : Int32)
  · have hf := it_t hf cs27
    refine tbl_in hx hb dX4_join_1 cs27 (by decide) (by decide) rfl (tgt := 100) (by decide) ?_
    refine lv_lload_n hx hb dX4_join_100 rfl (lv_at hl 1 rfl) ?_
    refine lv_lload_n hx hb dX4_join_101 rfl (lv_at hl 2 rfl) ?_
    refine lv_lsub hx hb dX4_join_102 ?_
    exact rtRl X hlk hr (so_i hf) dX4_join_103
  have hf := it_f hf cs27
  by_cases cs28 : p1 = (28 : Int32)
  · have hf := it_t hf cs28
    refine tbl_in hx hb dX4_join_1 cs28 (by decide) (by decide) rfl (tgt := 104) (by decide) ?_
    refine lv_lload_n hx hb dX4_join_104 rfl (lv_at hl 1 rfl) ?_
    refine lv_lload_n hx hb dX4_join_105 rfl (lv_at hl 2 rfl) ?_
    refine lv_lmul hx hb dX4_join_106 ?_
    exact rtRl X hlk hr (so_i hf) dX4_join_107
  have hf := it_f hf cs28
  by_cases cs29 : p1 = (29 : Int32)
  · have hf := it_t hf cs29
    refine tbl_in hx hb dX4_join_1 cs29 (by decide) (by decide) rfl (tgt := 108) (by decide) ?_
    refine lv_lload_n hx hb dX4_join_108 rfl (lv_at hl 2 rfl) ?_
    refine lv_lconst (v := (0 : Int64)) hx hb dX4_join_109 (by decide) ?_
    refine W.lcmp hx hb dX4_join_110 ?_
    refine lv_if_ne (tgt := 118) hx hb dX4_join_111 (by decide) (fun c1 => ?_) (fun c1 => ?_)
    · have hf := it_f hf c1
      refine lv_lload_n hx hb dX4_join_118 rfl (lv_at hl 1 rfl) ?_
      refine lv_lload_n hx hb dX4_join_119 rfl (lv_at hl 2 rfl) ?_
      obtain ⟨h2, hf⟩ := gd_s hf
      refine lv_ldiv hx hb dX4_join_120 (nzl_n h2) ?_
      exact rtRl X hlk hr (so_i hf) dX4_join_121
    · have hf := it_t hf c1
      refine lv_lconst (v := (0 : Int64)) hx hb dX4_join_114 (by decide) ?_
      refine lv_goto (tgt := 121) hx hb dX4_join_115 (by decide) ?_
      exact rtRl X hlk hr (so_i hf) dX4_join_121
  have hf := it_f hf cs29
  by_cases cs30 : p1 = (30 : Int32)
  · have hf := it_t hf cs30
    refine tbl_in hx hb dX4_join_1 cs30 (by decide) (by decide) rfl (tgt := 122) (by decide) ?_
    refine lv_lload_n hx hb dX4_join_122 rfl (lv_at hl 2 rfl) ?_
    refine lv_lconst (v := (0 : Int64)) hx hb dX4_join_123 (by decide) ?_
    refine W.lcmp hx hb dX4_join_124 ?_
    refine lv_if_ne (tgt := 132) hx hb dX4_join_125 (by decide) (fun c1 => ?_) (fun c1 => ?_)
    · have hf := it_f hf c1
      refine lv_lload_n hx hb dX4_join_132 rfl (lv_at hl 1 rfl) ?_
      refine lv_lload_n hx hb dX4_join_133 rfl (lv_at hl 2 rfl) ?_
      obtain ⟨h2, hf⟩ := gd_s hf
      refine lv_lrem hx hb dX4_join_134 (nzl_n h2) ?_
      exact rtRl X hlk hr (so_i hf) dX4_join_135
    · have hf := it_t hf c1
      refine lv_lconst (v := (0 : Int64)) hx hb dX4_join_128 (by decide) ?_
      refine lv_goto (tgt := 135) hx hb dX4_join_129 (by decide) ?_
      exact rtRl X hlk hr (so_i hf) dX4_join_135
  have hf := it_f hf cs30
  by_cases cs33 : p1 = (33 : Int32)
  · have hf := it_t hf cs33
    refine tbl_in hx hb dX4_join_1 cs33 (by decide) (by decide) rfl (tgt := 136) (by decide) ?_
    refine lv_lload_n hx hb dX4_join_136 rfl (lv_at hl 1 rfl) ?_
    refine lv_lload_n hx hb dX4_join_137 rfl (lv_at hl 2 rfl) ?_
    refine W.lcmp hx hb dX4_join_138 ?_
    refine lv_if_ge (tgt := 146) hx hb dX4_join_139 (by decide) (fun c1 => ?_) (fun c1 => ?_)
    · have hf := it_t hf c1
      refine lv_lconst (v := (0 : Int64)) hx hb dX4_join_146 (by decide) ?_
      exact rtRl X hlk hr (so_i hf) dX4_join_147
    · have hf := it_f hf c1
      refine lv_lconst (v := (1 : Int64)) hx hb dX4_join_142 (by decide) ?_
      refine lv_goto (tgt := 147) hx hb dX4_join_143 (by decide) ?_
      exact rtRl X hlk hr (so_i hf) dX4_join_147
  have hf := it_f hf cs33
  by_cases cs34 : p1 = (34 : Int32)
  · have hf := it_t hf cs34
    refine tbl_in hx hb dX4_join_1 cs34 (by decide) (by decide) rfl (tgt := 160) (by decide) ?_
    refine lv_lload_n hx hb dX4_join_160 rfl (lv_at hl 1 rfl) ?_
    refine lv_lload_n hx hb dX4_join_161 rfl (lv_at hl 2 rfl) ?_
    refine W.lcmp hx hb dX4_join_162 ?_
    refine lv_if_ne (tgt := 170) hx hb dX4_join_163 (by decide) (fun c1 => ?_) (fun c1 => ?_)
    · have hf := it_f hf c1
      refine lv_lconst (v := (0 : Int64)) hx hb dX4_join_170 (by decide) ?_
      exact rtRl X hlk hr (so_i hf) dX4_join_171
    · have hf := it_t hf c1
      refine lv_lconst (v := (1 : Int64)) hx hb dX4_join_166 (by decide) ?_
      refine lv_goto (tgt := 171) hx hb dX4_join_167 (by decide) ?_
      exact rtRl X hlk hr (so_i hf) dX4_join_171
  have hf := it_f hf cs34
  by_cases cs35 : p1 = (35 : Int32)
  · have hf := it_t hf cs35
    refine tbl_in hx hb dX4_join_1 cs35 (by decide) (by decide) rfl (tgt := 184) (by decide) ?_
    refine lv_lload_n hx hb dX4_join_184 rfl (lv_at hl 1 rfl) ?_
    refine lv_lload_n hx hb dX4_join_185 rfl (lv_at hl 2 rfl) ?_
    refine W.lcmp hx hb dX4_join_186 ?_
    refine lv_if_le (tgt := 194) hx hb dX4_join_187 (by decide) (fun c1 => ?_) (fun c1 => ?_)
    · have hf := it_t hf c1
      refine lv_lconst (v := (0 : Int64)) hx hb dX4_join_194 (by decide) ?_
      exact rtRl X hlk hr (so_i hf) dX4_join_195
    · have hf := it_f hf c1
      refine lv_lconst (v := (1 : Int64)) hx hb dX4_join_190 (by decide) ?_
      refine lv_goto (tgt := 195) hx hb dX4_join_191 (by decide) ?_
      exact rtRl X hlk hr (so_i hf) dX4_join_195
  have hf := it_f hf cs35
  by_cases cs36 : p1 = (36 : Int32)
  · have hf := it_t hf cs36
    refine tbl_in hx hb dX4_join_1 cs36 (by decide) (by decide) rfl (tgt := 148) (by decide) ?_
    refine lv_lload_n hx hb dX4_join_148 rfl (lv_at hl 1 rfl) ?_
    refine lv_lload_n hx hb dX4_join_149 rfl (lv_at hl 2 rfl) ?_
    refine W.lcmp hx hb dX4_join_150 ?_
    refine lv_if_gt (tgt := 158) hx hb dX4_join_151 (by decide) (fun c1 => ?_) (fun c1 => ?_)
    · have hf := it_t hf c1
      refine lv_lconst (v := (0 : Int64)) hx hb dX4_join_158 (by decide) ?_
      exact rtRl X hlk hr (so_i hf) dX4_join_159
    · have hf := it_f hf c1
      refine lv_lconst (v := (1 : Int64)) hx hb dX4_join_154 (by decide) ?_
      refine lv_goto (tgt := 159) hx hb dX4_join_155 (by decide) ?_
      exact rtRl X hlk hr (so_i hf) dX4_join_159
  have hf := it_f hf cs36
  by_cases cs37 : p1 = (37 : Int32)
  · have hf := it_t hf cs37
    refine tbl_in hx hb dX4_join_1 cs37 (by decide) (by decide) rfl (tgt := 172) (by decide) ?_
    refine lv_lload_n hx hb dX4_join_172 rfl (lv_at hl 1 rfl) ?_
    refine lv_lload_n hx hb dX4_join_173 rfl (lv_at hl 2 rfl) ?_
    refine W.lcmp hx hb dX4_join_174 ?_
    refine lv_if_lt (tgt := 182) hx hb dX4_join_175 (by decide) (fun c1 => ?_) (fun c1 => ?_)
    · have hf := it_t hf c1
      refine lv_lconst (v := (0 : Int64)) hx hb dX4_join_182 (by decide) ?_
      exact rtRl X hlk hr (so_i hf) dX4_join_183
    · have hf := it_f hf c1
      refine lv_lconst (v := (1 : Int64)) hx hb dX4_join_178 (by decide) ?_
      refine lv_goto (tgt := 183) hx hb dX4_join_179 (by decide) ?_
      exact rtRl X hlk hr (so_i hf) dX4_join_183
  have hf := it_f hf cs37
  have kd : W p l e (rmk 0) s m [.int p1, .long p2, .long p3].toArray below meth c s.heap [] 0 0 (MQ below (QRl res) [.int p1, .long p2, .long p3].toArray s 0 0 (NoF)) (F0 m 204 ls []) := by
    refine lv_lconst (v := (0 : Int64)) hx hb dX4_join_204 (by decide) ?_
    exact rtRl X hlk hr (so_i hf) dX4_join_205
  by_cases cs20 : p1 = (20 : Int32)
  · exact tbl_in hx hb dX4_join_1 cs20 (by decide) (by decide) rfl (tgt := 204) (by decide) kd
  by_cases cs21 : p1 = (21 : Int32)
  · exact tbl_in hx hb dX4_join_1 cs21 (by decide) (by decide) rfl (tgt := 204) (by decide) kd
  by_cases cs22 : p1 = (22 : Int32)
  · exact tbl_in hx hb dX4_join_1 cs22 (by decide) (by decide) rfl (tgt := 204) (by decide) kd
  by_cases cs23 : p1 = (23 : Int32)
  · exact tbl_in hx hb dX4_join_1 cs23 (by decide) (by decide) rfl (tgt := 204) (by decide) kd
  by_cases cs24 : p1 = (24 : Int32)
  · exact tbl_in hx hb dX4_join_1 cs24 (by decide) (by decide) rfl (tgt := 204) (by decide) kd
  by_cases cs25 : p1 = (25 : Int32)
  · exact tbl_in hx hb dX4_join_1 cs25 (by decide) (by decide) rfl (tgt := 204) (by decide) kd
  by_cases cs31 : p1 = (31 : Int32)
  · exact tbl_in hx hb dX4_join_1 cs31 (by decide) (by decide) rfl (tgt := 204) (by decide) kd
  by_cases cs32 : p1 = (32 : Int32)
  · exact tbl_in hx hb dX4_join_1 cs32 (by decide) (by decide) rfl (tgt := 204) (by decide) kd
  refine lv_tableOut (tgt := 204) hx hb dX4_join_1 (sw_out (fun v h1 h2 => ?_)) (by decide) kd
  rcases (show v = 18 ∨ v = 19 ∨ v = 20 ∨ v = 21 ∨ v = 22 ∨ v = 23 ∨ v = 24 ∨ v = 25 ∨ v = 26 ∨ v = 27 ∨ v = 28 ∨ v = 29 ∨ v = 30 ∨ v = 31 ∨ v = 32 ∨ v = 33 ∨ v = 34 ∨ v = 35 ∨ v = 36 ∨ v = 37 by omega) with rfl | rfl | rfl | rfl | rfl | rfl | rfl | rfl | rfl | rfl | rfl | rfl | rfl | rfl | rfl | rfl | rfl | rfl | rfl | rfl
  · exact cs18
  · exact cs19
  · exact cs20
  · exact cs21
  · exact cs22
  · exact cs23
  · exact cs24
  · exact cs25
  · exact cs26
  · exact cs27
  · exact cs28
  · exact cs29
  · exact cs30
  · exact cs31
  · exact cs32
  · exact cs33
  · exact cs34
  · exact cs35
  · exact cs36
  · exact cs37
def fX4_run_B156 (b : Nat) (a3 : Nat) (n3 : Nat) (p1 : Int32) (p2 : Int32) (y4 : Int32) (st : St) : Option (Int64 × St) := if y4 ≤ 0 then (some ((0 : Int64), st)) else (gd (ix (y4 - (1 : Int32)) 64) (some ((st.2.1 (b + 7) (y4 - (1 : Int32)).toNatClampNeg), st)))
set_option maxRecDepth 100000 in
theorem wX4_run_B156 {p : Program} {l : Launch} {e : Env} {s : State} {m : MethodId} {args : Array Value} {below : List Frame} {meth : Method} {c : Code} {E : Ev} (hL : ∀ k, fxC k = true → k ∈ eL E) {b : Nat} {a3 : Nat} {n3 : Nat} {p1 : Int32} {p2 : Int32} (hbs : okR E b) (hm3 : a3 ∈ eL E) (ht3 : ty a3 = 40000 + n3) (hn3 : n3 < 10000) {sz : Nat} {res : (Int64 × St)} (X : CX p s m args c E RX4 cX4_run 7 (Af E sz)) (hr : meth.sig.returnType = (some .long)) (hlk : meth.locks = false) : ∀ (y4 : Int32) (st : St) (H : Heap) (locs : List Loc), fX4_run_B156 b a3 n3 p1 p2  y4 st = some res → Gd E st (Af E sz) s H locs → ∀ ls : Array Slot, lv_has ls 7 [(0, .ref (eq E b)), (4, .int y4)] → W p l e (rmk 1) s m args below meth c H locs 0 0 (MQ below (QWl E res.2 sz res.1) args s 0 0 (Af E sz)) (F0 m 156 ls []) := by
  have hx := X.1.1
  have hb := X.1.2.1
  intro y4 st H locs hf G ls hl
  unfold fX4_run_B156 at hf
  refine lv_iload hx hb dX4_run_156 (lv_at hl 1 rfl) ?_
  refine lv_if_le (tgt := 173) hx hb dX4_run_158 (by decide) (fun c1 => ?_) (fun c1 => ?_)
  · have hf := it_t hf c1
    refine lv_lconst (v := (0 : Int64)) hx hb dX4_run_173 (by decide) ?_
    exact rtWl X hlk G hr (so_i hf) dX4_run_174
  · have hf := it_f hf c1
    refine lv_aload_n hx hb dX4_run_161 rfl (lv_at hl 0 rfl) ?_
    refine gf4 X G ((hbs 0 (by decide)).2 (by decide)) (hbs 0 (by decide)).1 6 (by decide) rfl kf_X4_31 iwX4 dX4_run_162 ?_
    refine lv_iload hx hb dX4_run_165 (lv_at hl 1 rfl) ?_
    refine lv_iconst (v := (1 : Int32)) hx hb dX4_run_167 (by decide) ?_
    refine lv_isub hx hb dX4_run_168 ?_
    obtain ⟨h2, hf⟩ := gd_s hf
    refine la_ld (k := (b + 7)) (n := 64) X G ((hbs 7 (by decide)).2 (by decide)) (hbs 7 (by decide)).1 (by decide) (ix_in h2) dX4_run_169 ?_
    refine lv_goto (tgt := 174) hx hb dX4_run_170 (by decide) ?_
    exact rtWl X hlk G hr (so_i hf) dX4_run_174
def fX4_run_B110 (b : Nat) (a3 : Nat) (n3 : Nat) (p1 : Int32) (p2 : Int32) (k6 : Int32 → Int32 → St → Option (Int64 × St)) (y4 : Int32) (y5 : Int32) (y6 : Int32) (st : St) : Option (Int64 × St) := if y4 ≤ (1 : Int32) then (nm (y5 + (1 : Int32)) (fun x2 => k6 y4 x2 st)) else (nm (y4 + (-1 : Int32)) (fun x2 => gd (ix (x2 - (1 : Int32)) 64) (gd (ix x2 64) (br (fX4_join (-y6) (st.2.1 (b + 7) (x2 - (1 : Int32)).toNatClampNeg) (st.2.1 (b + 7) x2.toNatClampNeg)) (fun x6 => gd (ix (x2 - (1 : Int32)) 64) (nm (ul st (b + 7) (x2 - (1 : Int32)).toNatClampNeg x6) (fun s8 => nm (y5 + (1 : Int32)) (fun x9 => k6 x2 x9 s8))))))))
set_option maxRecDepth 100000 in
theorem wX4_run_B110 {p : Program} {l : Launch} {e : Env} {s : State} {m : MethodId} {args : Array Value} {below : List Frame} {meth : Method} {c : Code} {E : Ev} (hL : ∀ k, fxC k = true → k ∈ eL E) {b : Nat} {a3 : Nat} {n3 : Nat} {p1 : Int32} {p2 : Int32} (hbs : okR E b) (hm3 : a3 ∈ eL E) (ht3 : ty a3 = 40000 + n3) (hn3 : n3 < 10000) {sz : Nat} {res : (Int64 × St)} (X : CX p s m args c E RX4 cX4_run 7 (Af E sz)) (hr : meth.sig.returnType = (some .long)) (hlk : meth.locks = false) {k6 : Int32 → Int32 → St → Option (Int64 × St)} (hk6 : ∀ (y4 : Int32) (y5 : Int32) (st : St) (H : Heap) (locs : List Loc), k6 y4 y5 st = some res → Gd E st (Af E sz) s H locs → ∀ ls : Array Slot, lv_has ls 7 [(0, .ref (eq E b)), (2, .int p2), (3, .ref (eq E a3)), (4, .int y4), (5, .int y5)] → W p l e (rmk 1) s m args below meth c H locs 0 0 (MQ below (QWl E res.2 sz res.1) args s 0 0 (Af E sz)) (F0 m 6 ls [])) : ∀ (y4 : Int32) (y5 : Int32) (y6 : Int32) (st : St) (H : Heap) (locs : List Loc), fX4_run_B110 b a3 n3 p1 p2 k6 y4 y5 y6 st = some res → Gd E st (Af E sz) s H locs → ∀ ls : Array Slot, lv_has ls 7 [(0, .ref (eq E b)), (2, .int p2), (3, .ref (eq E a3)), (4, .int y4), (5, .int y5), (6, .int y6)] → W p l e (rmk 1) s m args below meth c H locs 0 0 (MQ below (QWl E res.2 sz res.1) args s 0 0 (Af E sz)) (F0 m 110 ls []) := by
  have hx := X.1.1
  have hb := X.1.2.1
  intro y4 y5 y6 st H locs hf G ls hl
  unfold fX4_run_B110 at hf
  refine lv_iload hx hb dX4_run_110 (lv_at hl 3 rfl) ?_
  refine lv_iconst (v := (1 : Int32)) hx hb dX4_run_112 (by decide) ?_
  refine lv_icmp_le (tgt := 150) hx hb dX4_run_113 (by decide) (fun c1 => ?_) (fun c1 => ?_)
  · have hf := it_t hf c1
    obtain ⟨x2, ex2⟩ : ∃ y : Int32, y = (y5 + (1 : Int32)) := ⟨_, rfl⟩
    have hf := nm_s hf x2 ex2
    refine lv_iinc (k := 4) (v := x2) (lv' := [(5, .int x2), (0, .ref (eq E b)), (2, .int p2), (3, .ref (eq E a3)), (4, .int y4), (6, .int y6)]) hx hb dX4_run_150 hl rfl (by rw [ex2]; rfl) (by decide) rfl (fun ls hl => ?_)
    refine lv_goto (tgt := 6) hx hb dX4_run_153 (by decide) ?_
    exact hk6 y4 x2 st _ _ hf G _ (lv_sub hl [1, 2, 3, 4, 0] rfl)
  · have hf := it_f hf c1
    obtain ⟨x2, ex2⟩ : ∃ y : Int32, y = (y4 + (-1 : Int32)) := ⟨_, rfl⟩
    have hf := nm_s hf x2 ex2
    refine lv_iinc (k := 3) (v := x2) (lv' := [(4, .int x2), (0, .ref (eq E b)), (2, .int p2), (3, .ref (eq E a3)), (5, .int y5), (6, .int y6)]) hx hb dX4_run_116 hl rfl (by rw [ex2]; rfl) (by decide) rfl (fun ls hl => ?_)
    refine lv_aload_n hx hb dX4_run_119 rfl (lv_at hl 1 rfl) ?_
    refine gf4 X G ((hbs 0 (by decide)).2 (by decide)) (hbs 0 (by decide)).1 6 (by decide) rfl kf_X4_31 iwX4 dX4_run_120 ?_
    refine lv_iload hx hb dX4_run_123 (lv_at hl 0 rfl) ?_
    refine lv_iconst (v := (1 : Int32)) hx hb dX4_run_125 (by decide) ?_
    refine lv_isub hx hb dX4_run_126 ?_
    refine lv_iload hx hb dX4_run_127 (lv_at hl 5 rfl) ?_
    refine lv_ineg hx hb dX4_run_129 ?_
    refine lv_aload_n hx hb dX4_run_130 rfl (lv_at hl 1 rfl) ?_
    refine gf4 X G ((hbs 0 (by decide)).2 (by decide)) (hbs 0 (by decide)).1 6 (by decide) rfl kf_X4_31 iwX4 dX4_run_131 ?_
    refine lv_iload hx hb dX4_run_134 (lv_at hl 0 rfl) ?_
    refine lv_iconst (v := (1 : Int32)) hx hb dX4_run_136 (by decide) ?_
    refine lv_isub hx hb dX4_run_137 ?_
    obtain ⟨h3, hf⟩ := gd_s hf
    refine la_ld (k := (b + 7)) (n := 64) X G ((hbs 7 (by decide)).2 (by decide)) (hbs 7 (by decide)).1 (by decide) (ix_in h3) dX4_run_138 ?_
    refine lv_aload_n hx hb dX4_run_139 rfl (lv_at hl 1 rfl) ?_
    refine gf4 X G ((hbs 0 (by decide)).2 (by decide)) (hbs 0 (by decide)).1 6 (by decide) rfl kf_X4_31 iwX4 dX4_run_140 ?_
    refine lv_iload hx hb dX4_run_143 (lv_at hl 0 rfl) ?_
    obtain ⟨h4, hf⟩ := gd_s hf
    refine la_ld (k := (b + 7)) (n := 64) X G ((hbs 7 (by decide)).2 (by decide)) (hbs 7 (by decide)).1 (by decide) (ix_in h4) dX4_run_145 ?_
    obtain ⟨x6, h5, hf⟩ := br_s hf
    refine cSRl (As := [.int (-y6), .long (st.2.1 (b + 7) (x2 - (1 : Int32)).toNatClampNeg), .long (st.2.1 (b + 7) x2.toNatClampNeg)]) (rest := [.int (x2 - (1 : Int32)), .ref (eq E (b + 7))]) X G kc_X4_39 (tX4_join l E st _  (-y6) (st.2.1 (b + 7) (x2 - (1 : Int32)).toNatClampNeg) (st.2.1 (b + 7) x2.toNatClampNeg) h5) rfl rfl (rmk_le (by omega) (by decide)) rfl hl.1 rfl (Nat.le_of_ble_eq_true rfl) dX4_run_146 ⟨Nat.zero_le _, Nat.zero_le _⟩ ?_
    obtain ⟨h7, hf⟩ := gd_s hf
    refine la_st (k := (b + 7)) (n := 64) X G ((hbs 7 (by decide)).2 (by decide)) (hbs 7 (by decide)).1 (by decide) (ix_in h7) dX4_run_149 (fun s8 es8 H locs G => ?_)
    have hf := nm_s hf s8 es8
    obtain ⟨x9, ex9⟩ : ∃ y : Int32, y = (y5 + (1 : Int32)) := ⟨_, rfl⟩
    have hf := nm_s hf x9 ex9
    refine lv_iinc (k := 4) (v := x9) (lv' := [(5, .int x9), (4, .int x2), (0, .ref (eq E b)), (2, .int p2), (3, .ref (eq E a3)), (6, .int y6)]) hx hb dX4_run_150 hl rfl (by rw [ex9]; rfl) (by decide) rfl (fun ls hl => ?_)
    refine lv_goto (tgt := 6) hx hb dX4_run_153 (by decide) ?_
    exact hk6 x2 x9 s8 _ _ hf G _ (lv_sub hl [2, 3, 4, 1, 0] rfl)
def fX4_run_L6 (b : Nat) (a3 : Nat) (n3 : Nat) (p1 : Int32) (p2 : Int32) : Nat → Int32 → Int32 → St → Option (Int64 × St)
  | 0, _, _, _ => none
  | n + 1, y4, y5, st => if p2 ≤ y5 then (fX4_run_B156 b a3 n3 p1 p2 y4 st) else (if (64 : Int32) ≤ y4 then (fX4_run_B156 b a3 n3 p1 p2 y4 st) else (gd (ix y5 400) (nm (st.1 (b + 1) y5.toNatClampNeg) (fun x4 => if x4 < 0 then (if x4 < (-12 : Int32) then (if x4 = (-20 : Int32) then (if y4 ≤ 0 then (fX4_run_B110 b a3 n3 p1 p2 (fX4_run_L6 b a3 n3 p1 p2 n) y4 y5 x4 st) else (gd (ix (y4 - (1 : Int32)) 64) (gd (ix (y4 - (1 : Int32)) 64) (nm (ul st (b + 7) (y4 - (1 : Int32)).toNatClampNeg ((1 : Int64) - (st.2.1 (b + 7) (y4 - (1 : Int32)).toNatClampNeg))) (fun s11 => nm (y5 + (1 : Int32)) (fun x12 => (fX4_run_L6 b a3 n3 p1 p2 n) y4 x12 s11)))))) else (fX4_run_B110 b a3 n3 p1 p2 (fX4_run_L6 b a3 n3 p1 p2 n) y4 y5 x4 st)) else (gd (ix ((-1 : Int32) - x4) n3) (gd (ix y4 64) (nm (ul st (b + 7) y4.toNatClampNeg (st.2.1 a3 ((-1 : Int32) - x4).toNatClampNeg)) (fun s9 => nm (y4 + (1 : Int32)) (fun x10 => nm (y5 + (1 : Int32)) (fun x11 => (fX4_run_L6 b a3 n3 p1 p2 n) x10 x11 s9))))))) else (gd (ix y4 64) (nm (ul st (b + 7) y4.toNatClampNeg (Int32.toInt64 x4)) (fun s7 => nm (y4 + (1 : Int32)) (fun x8 => nm (y5 + (1 : Int32)) (fun x9 => (fX4_run_L6 b a3 n3 p1 p2 n) x8 x9 s7)))))))))
set_option maxRecDepth 100000 in
theorem wX4_run_L6 {p : Program} {l : Launch} {e : Env} {s : State} {m : MethodId} {args : Array Value} {below : List Frame} {meth : Method} {c : Code} {E : Ev} (hL : ∀ k, fxC k = true → k ∈ eL E) {b : Nat} {a3 : Nat} {n3 : Nat} {p1 : Int32} {p2 : Int32} (hbs : okR E b) (hm3 : a3 ∈ eL E) (ht3 : ty a3 = 40000 + n3) (hn3 : n3 < 10000) {sz : Nat} {res : (Int64 × St)} (X : CX p s m args c E RX4 cX4_run 7 (Af E sz)) (hr : meth.sig.returnType = (some .long)) (hlk : meth.locks = false) : ∀ (n : Nat) (y4 : Int32) (y5 : Int32) (st : St) (H : Heap) (locs : List Loc), fX4_run_L6 b a3 n3 p1 p2  n y4 y5 st = some res → Gd E st (Af E sz) s H locs → ∀ ls : Array Slot, lv_has ls 7 [(0, .ref (eq E b)), (2, .int p2), (3, .ref (eq E a3)), (4, .int y4), (5, .int y5)] → W p l e (rmk 1) s m args below meth c H locs 0 0 (MQ below (QWl E res.2 sz res.1) args s 0 0 (Af E sz)) (F0 m 6 ls []) := by
  have hx := X.1.1
  have hb := X.1.2.1
  intro n
  induction n with
  | zero =>
    intro y4 y5 st H locs hf G ls hl
    cases (show (none : Option (Int64 × St)) = some res from hf)
  | succ n ih =>
    intro y4 y5 st H locs hf G ls hl
    rw [fX4_run_L6] at hf
    refine lv_iload hx hb dX4_run_6 (lv_at hl 4 rfl) ?_
    refine lv_iload_n hx hb dX4_run_8 rfl (lv_at hl 1 rfl) ?_
    refine lv_icmp_ge (tgt := 156) hx hb dX4_run_9 (by decide) (fun c1 => ?_) (fun c1 => ?_)
    · have hf := it_t hf c1
      exact wX4_run_B156 hL hbs hm3 ht3 hn3 X hr hlk y4 st _ _ hf G _ (lv_sub hl [0, 3] rfl)
    · have hf := it_f hf c1
      refine lv_iload hx hb dX4_run_12 (lv_at hl 3 rfl) ?_
      refine lv_bipush (v := (64 : Int32)) hx hb dX4_run_14 (by decide) ?_
      refine lv_icmp_ge (tgt := 156) hx hb dX4_run_16 (by decide) (fun c2 => ?_) (fun c2 => ?_)
      · have hf := it_t hf c2
        exact wX4_run_B156 hL hbs hm3 ht3 hn3 X hr hlk y4 st _ _ hf G _ (lv_sub hl [0, 3] rfl)
      · have hf := it_f hf c2
        refine lv_aload_n hx hb dX4_run_19 rfl (lv_at hl 0 rfl) ?_
        refine gf4 X G ((hbs 0 (by decide)).2 (by decide)) (hbs 0 (by decide)).1 0 (by decide) rfl kf_X4_9 iwX4 dX4_run_20 ?_
        refine lv_iload hx hb dX4_run_23 (lv_at hl 4 rfl) ?_
        obtain ⟨h3, hf⟩ := gd_s hf
        refine ia_ld (k := (b + 1)) (n := 400) X G ((hbs 1 (by decide)).2 (by decide)) (hbs 1 (by decide)).1 (by decide) (ix_in h3) dX4_run_25 ?_
        refine lv_topi (fun x4 ex4 => ?_)
        have hf := nm_s hf x4 ex4
        refine lv_istore (lv' := [(6, .int x4), (0, .ref (eq E b)), (2, .int p2), (3, .ref (eq E a3)), (4, .int y4), (5, .int y5)]) hx hb dX4_run_26 hl (by decide) rfl (fun ls hl => ?_)
        refine lv_iload hx hb dX4_run_28 (lv_at hl 0 rfl) ?_
        refine lv_if_lt (tgt := 49) hx hb dX4_run_30 (by decide) (fun c5 => ?_) (fun c5 => ?_)
        · have hf := it_t hf c5
          refine lv_iload hx hb dX4_run_49 (lv_at hl 0 rfl) ?_
          refine lv_bipush (v := (-12 : Int32)) hx hb dX4_run_51 (by decide) ?_
          refine lv_icmp_lt (tgt := 75) hx hb dX4_run_53 (by decide) (fun c6 => ?_) (fun c6 => ?_)
          · have hf := it_t hf c6
            refine lv_iload hx hb dX4_run_75 (lv_at hl 0 rfl) ?_
            refine lv_bipush (v := (-20 : Int32)) hx hb dX4_run_77 (by decide) ?_
            refine lv_icmp_ne (tgt := 110) hx hb dX4_run_79 (by decide) (fun c7 => ?_) (fun c7 => ?_)
            · have hf := it_f hf c7
              exact wX4_run_B110 hL hbs hm3 ht3 hn3 X hr hlk ih y4 y5 x4 st _ _ hf G _ (lv_sub hl [1, 2, 3, 4, 5, 0] rfl)
            · have hf := it_t hf c7
              refine lv_iload hx hb dX4_run_82 (lv_at hl 4 rfl) ?_
              refine lv_if_le (tgt := 110) hx hb dX4_run_84 (by decide) (fun c8 => ?_) (fun c8 => ?_)
              · have hf := it_t hf c8
                exact wX4_run_B110 hL hbs hm3 ht3 hn3 X hr hlk ih y4 y5 x4 st _ _ hf G _ (lv_sub hl [1, 2, 3, 4, 5, 0] rfl)
              · have hf := it_f hf c8
                refine lv_aload_n hx hb dX4_run_87 rfl (lv_at hl 1 rfl) ?_
                refine gf4 X G ((hbs 0 (by decide)).2 (by decide)) (hbs 0 (by decide)).1 6 (by decide) rfl kf_X4_31 iwX4 dX4_run_88 ?_
                refine lv_iload hx hb dX4_run_91 (lv_at hl 4 rfl) ?_
                refine lv_iconst (v := (1 : Int32)) hx hb dX4_run_93 (by decide) ?_
                refine lv_isub hx hb dX4_run_94 ?_
                refine lv_lconst (v := (1 : Int64)) hx hb dX4_run_95 (by decide) ?_
                refine lv_aload_n hx hb dX4_run_96 rfl (lv_at hl 1 rfl) ?_
                refine gf4 X G ((hbs 0 (by decide)).2 (by decide)) (hbs 0 (by decide)).1 6 (by decide) rfl kf_X4_31 iwX4 dX4_run_97 ?_
                refine lv_iload hx hb dX4_run_100 (lv_at hl 4 rfl) ?_
                refine lv_iconst (v := (1 : Int32)) hx hb dX4_run_102 (by decide) ?_
                refine lv_isub hx hb dX4_run_103 ?_
                obtain ⟨h9, hf⟩ := gd_s hf
                refine la_ld (k := (b + 7)) (n := 64) X G ((hbs 7 (by decide)).2 (by decide)) (hbs 7 (by decide)).1 (by decide) (ix_in h9) dX4_run_104 ?_
                refine lv_lsub hx hb dX4_run_105 ?_
                obtain ⟨h10, hf⟩ := gd_s hf
                refine la_st (k := (b + 7)) (n := 64) X G ((hbs 7 (by decide)).2 (by decide)) (hbs 7 (by decide)).1 (by decide) (ix_in h10) dX4_run_106 (fun s11 es11 H locs G => ?_)
                have hf := nm_s hf s11 es11
                refine lv_goto (tgt := 150) hx hb dX4_run_107 (by decide) ?_
                obtain ⟨x12, ex12⟩ : ∃ y : Int32, y = (y5 + (1 : Int32)) := ⟨_, rfl⟩
                have hf := nm_s hf x12 ex12
                refine lv_iinc (k := 5) (v := x12) (lv' := [(5, .int x12), (6, .int x4), (0, .ref (eq E b)), (2, .int p2), (3, .ref (eq E a3)), (4, .int y4)]) hx hb dX4_run_150 hl rfl (by rw [ex12]; rfl) (by decide) rfl (fun ls hl => ?_)
                refine lv_goto (tgt := 6) hx hb dX4_run_153 (by decide) ?_
                exact ih y4 x12 s11 _ _ hf G _ (lv_sub hl [2, 3, 4, 5, 0] rfl)
          · have hf := it_f hf c6
            refine lv_aload_n hx hb dX4_run_56 rfl (lv_at hl 1 rfl) ?_
            refine gf4 X G ((hbs 0 (by decide)).2 (by decide)) (hbs 0 (by decide)).1 6 (by decide) rfl kf_X4_31 iwX4 dX4_run_57 ?_
            refine lv_iload hx hb dX4_run_60 (lv_at hl 4 rfl) ?_
            refine lv_aload_n hx hb dX4_run_62 rfl (lv_at hl 3 rfl) ?_
            refine lv_iconst (v := (-1 : Int32)) hx hb dX4_run_63 (by decide) ?_
            refine lv_iload hx hb dX4_run_64 (lv_at hl 0 rfl) ?_
            refine lv_isub hx hb dX4_run_66 ?_
            obtain ⟨h7, hf⟩ := gd_s hf
            refine la_ld (k := a3) (n := n3) X G hm3 ht3 hn3 (ix_in h7) dX4_run_67 ?_
            obtain ⟨h8, hf⟩ := gd_s hf
            refine la_st (k := (b + 7)) (n := 64) X G ((hbs 7 (by decide)).2 (by decide)) (hbs 7 (by decide)).1 (by decide) (ix_in h8) dX4_run_68 (fun s9 es9 H locs G => ?_)
            have hf := nm_s hf s9 es9
            obtain ⟨x10, ex10⟩ : ∃ y : Int32, y = (y4 + (1 : Int32)) := ⟨_, rfl⟩
            have hf := nm_s hf x10 ex10
            refine lv_iinc (k := 4) (v := x10) (lv' := [(4, .int x10), (6, .int x4), (0, .ref (eq E b)), (2, .int p2), (3, .ref (eq E a3)), (5, .int y5)]) hx hb dX4_run_69 hl rfl (by rw [ex10]; rfl) (by decide) rfl (fun ls hl => ?_)
            refine lv_goto (tgt := 150) hx hb dX4_run_72 (by decide) ?_
            obtain ⟨x11, ex11⟩ : ∃ y : Int32, y = (y5 + (1 : Int32)) := ⟨_, rfl⟩
            have hf := nm_s hf x11 ex11
            refine lv_iinc (k := 5) (v := x11) (lv' := [(5, .int x11), (4, .int x10), (6, .int x4), (0, .ref (eq E b)), (2, .int p2), (3, .ref (eq E a3))]) hx hb dX4_run_150 hl rfl (by rw [ex11]; rfl) (by decide) rfl (fun ls hl => ?_)
            refine lv_goto (tgt := 6) hx hb dX4_run_153 (by decide) ?_
            exact ih x10 x11 s9 _ _ hf G _ (lv_sub hl [3, 4, 5, 1, 0] rfl)
        · have hf := it_f hf c5
          refine lv_aload_n hx hb dX4_run_33 rfl (lv_at hl 1 rfl) ?_
          refine gf4 X G ((hbs 0 (by decide)).2 (by decide)) (hbs 0 (by decide)).1 6 (by decide) rfl kf_X4_31 iwX4 dX4_run_34 ?_
          refine lv_iload hx hb dX4_run_37 (lv_at hl 4 rfl) ?_
          refine lv_iload hx hb dX4_run_39 (lv_at hl 0 rfl) ?_
          refine lv_i2l hx hb dX4_run_41 rfl ?_
          obtain ⟨h6, hf⟩ := gd_s hf
          refine la_st (k := (b + 7)) (n := 64) X G ((hbs 7 (by decide)).2 (by decide)) (hbs 7 (by decide)).1 (by decide) (ix_in h6) dX4_run_42 (fun s7 es7 H locs G => ?_)
          have hf := nm_s hf s7 es7
          obtain ⟨x8, ex8⟩ : ∃ y : Int32, y = (y4 + (1 : Int32)) := ⟨_, rfl⟩
          have hf := nm_s hf x8 ex8
          refine lv_iinc (k := 4) (v := x8) (lv' := [(4, .int x8), (6, .int x4), (0, .ref (eq E b)), (2, .int p2), (3, .ref (eq E a3)), (5, .int y5)]) hx hb dX4_run_43 hl rfl (by rw [ex8]; rfl) (by decide) rfl (fun ls hl => ?_)
          refine lv_goto (tgt := 150) hx hb dX4_run_46 (by decide) ?_
          obtain ⟨x9, ex9⟩ : ∃ y : Int32, y = (y5 + (1 : Int32)) := ⟨_, rfl⟩
          have hf := nm_s hf x9 ex9
          refine lv_iinc (k := 5) (v := x9) (lv' := [(5, .int x9), (4, .int x8), (6, .int x4), (0, .ref (eq E b)), (2, .int p2), (3, .ref (eq E a3))]) hx hb dX4_run_150 hl rfl (by rw [ex9]; rfl) (by decide) rfl (fun ls hl => ?_)
          refine lv_goto (tgt := 6) hx hb dX4_run_153 (by decide) ?_
          exact ih x8 x9 s7 _ _ hf G _ (lv_sub hl [3, 4, 5, 1, 0] rfl)
def fX4_run (b : Nat) (a3 : Nat) (n3 : Nat) (p1 : Int32) (p2 : Int32) (st : St) : Option (Int64 × St) := fX4_run_L6 b a3 n3 p1 p2 10000 (0 : Int32) p1 st
set_option maxRecDepth 100000 in
theorem tX4_run (l : Launch) (E : Ev) (st : St) (sz : Nat) (hL : ∀ k, fxC k = true → k ∈ eL E) {b : Nat} {a3 : Nat} {n3 : Nat} (hbs : okR E b) (hm3 : a3 ∈ eL E) (ht3 : ty a3 = 40000 + n3) (hn3 : n3 < 10000) (p1 : Int32) (p2 : Int32) {res : (Int64 × St)} (hf : fX4_run b a3 n3 p1 p2 st = some res) : Met l yX4_run (.code yX4_run cX4_run 7 (some .long) :: uW) (rmk 1) (va_Pc [.ref (eq E b), .int p1, .int p2, .ref (eq E a3)] (Pre E st sz)) (QWl E res.2 sz res.1) 0 0 (Af E sz) := by
  refine Met_in (by decide) (Nat.le_of_ble_eq_true rfl) ?_
  intro p e s m below meth c X hr hlk hz G ls hl
  have hx := X.1.1
  have hb := X.1.2.1
  have hl : lv_has ls 7 [(0, .ref (eq E b)), (1, .int p1), (2, .int p2), (3, .ref (eq E a3))] := hl
  unfold fX4_run at hf
  refine lv_iconst (v := (0 : Int32)) hx hb dX4_run_0 (by decide) ?_
  refine lv_istore (lv' := [(4, .int (0 : Int32)), (0, .ref (eq E b)), (1, .int p1), (2, .int p2), (3, .ref (eq E a3))]) hx hb dX4_run_1 hl (by decide) rfl (fun ls hl => ?_)
  refine lv_iload_n hx hb dX4_run_3 rfl (lv_at hl 2 rfl) ?_
  refine lv_istore (lv' := [(5, .int p1), (4, .int (0 : Int32)), (0, .ref (eq E b)), (1, .int p1), (2, .int p2), (3, .ref (eq E a3))]) hx hb dX4_run_4 hl (by decide) rfl (fun ls hl => ?_)
  exact wX4_run_L6 hL hbs hm3 ht3 hn3 X hr hlk 10000 (0 : Int32) p1 st _ _ hf G _ (lv_sub hl [2, 4, 5, 1, 0] rfl)
def fX4_worth_B52 (b : Nat) (a1 : Nat) (n1 : Nat) (k2 : Int32 → St → Option (Int64 × St)) (y2 : Int32) (z0 : Int32) (st : St) : Option (Int64 × St) := if z0 = 0 then (nm (y2 + (1 : Int32)) (fun x2 => k2 x2 st)) else (gd (ix y2 12) (gd (ix y2 12) (bw (fX4_run b a1 n1 (st.1 (b + 3) y2.toNatClampNeg) (st.1 (b + 4) y2.toNatClampNeg) st) (fun x6 s5 => some (x6, s5)))))
set_option maxRecDepth 100000 in
theorem wX4_worth_B52 {p : Program} {l : Launch} {e : Env} {s : State} {m : MethodId} {args : Array Value} {below : List Frame} {meth : Method} {c : Code} {E : Ev} (hL : ∀ k, fxC k = true → k ∈ eL E) {b : Nat} {a1 : Nat} {n1 : Nat} (hbs : okR E b) (hm1 : a1 ∈ eL E) (ht1 : ty a1 = 40000 + n1) (hn1 : n1 < 10000) {sz : Nat} {res : (Int64 × St)} (X : CX p s m args c E RX4 cX4_worth 4 (Af E sz)) (hr : meth.sig.returnType = (some .long)) (hlk : meth.locks = false) {k2 : Int32 → St → Option (Int64 × St)} (hk2 : ∀ (y2 : Int32) (st : St) (H : Heap) (locs : List Loc), k2 y2 st = some res → Gd E st (Af E sz) s H locs → ∀ ls : Array Slot, lv_has ls 4 [(0, .ref (eq E b)), (1, .ref (eq E a1)), (2, .int y2)] → W p l e (rmk 2) s m args below meth c H locs 0 0 (MQ below (QWl E res.2 sz res.1) args s 0 0 (Af E sz)) (F0 m 2 ls [])) : ∀ (y2 : Int32) (z0 : Int32) (st : St) (H : Heap) (locs : List Loc), fX4_worth_B52 b a1 n1 k2 y2 z0 st = some res → Gd E st (Af E sz) s H locs → ∀ ls : Array Slot, lv_has ls 4 [(0, .ref (eq E b)), (1, .ref (eq E a1)), (2, .int y2)] → W p l e (rmk 2) s m args below meth c H locs 0 0 (MQ below (QWl E res.2 sz res.1) args s 0 0 (Af E sz)) (F0 m 52 ls [.int z0]) := by
  have hx := X.1.1
  have hb := X.1.2.1
  intro y2 z0 st H locs hf G ls hl
  unfold fX4_worth_B52 at hf
  refine lv_istore_n (lv' := [(3, .int z0), (0, .ref (eq E b)), (1, .ref (eq E a1)), (2, .int y2)]) hx hb dX4_worth_52 rfl hl (by decide) rfl (fun ls hl => ?_)
  refine lv_iload_n hx hb dX4_worth_53 rfl (lv_at hl 0 rfl) ?_
  refine lv_if_eq (tgt := 75) hx hb dX4_worth_54 (by decide) (fun c1 => ?_) (fun c1 => ?_)
  · have hf := it_t hf c1
    obtain ⟨x2, ex2⟩ : ∃ y : Int32, y = (y2 + (1 : Int32)) := ⟨_, rfl⟩
    have hf := nm_s hf x2 ex2
    refine lv_iinc (k := 3) (v := x2) (lv' := [(2, .int x2), (3, .int z0), (0, .ref (eq E b)), (1, .ref (eq E a1))]) hx hb dX4_worth_75 hl rfl (by rw [ex2]; rfl) (by decide) rfl (fun ls hl => ?_)
    refine lv_goto (tgt := 2) hx hb dX4_worth_78 (by decide) ?_
    exact hk2 x2 st _ _ hf G _ (lv_sub hl [2, 3, 0] rfl)
  · have hf := it_f hf c1
    refine lv_aload_n hx hb dX4_worth_57 rfl (lv_at hl 1 rfl) ?_
    refine lv_aload_n hx hb dX4_worth_58 rfl (lv_at hl 1 rfl) ?_
    refine gf4 X G ((hbs 0 (by decide)).2 (by decide)) (hbs 0 (by decide)).1 2 (by decide) rfl kf_X4_19 iwX4 dX4_worth_59 ?_
    refine lv_iload_n hx hb dX4_worth_62 rfl (lv_at hl 3 rfl) ?_
    obtain ⟨h2, hf⟩ := gd_s hf
    refine ia_ld (k := (b + 3)) (n := 12) X G ((hbs 3 (by decide)).2 (by decide)) (hbs 3 (by decide)).1 (by decide) (ix_in h2) dX4_worth_63 ?_
    refine lv_aload_n hx hb dX4_worth_64 rfl (lv_at hl 1 rfl) ?_
    refine gf4 X G ((hbs 0 (by decide)).2 (by decide)) (hbs 0 (by decide)).1 3 (by decide) rfl kf_X4_22 iwX4 dX4_worth_65 ?_
    refine lv_iload_n hx hb dX4_worth_68 rfl (lv_at hl 3 rfl) ?_
    obtain ⟨h3, hf⟩ := gd_s hf
    refine ia_ld (k := (b + 4)) (n := 12) X G ((hbs 4 (by decide)).2 (by decide)) (hbs 4 (by decide)).1 (by decide) (ix_in h3) dX4_worth_69 ?_
    refine lv_aload_n hx hb dX4_worth_70 rfl (lv_at hl 2 rfl) ?_
    obtain ⟨x6, s5, h4, hf⟩ := bw_s hf
    refine cVWl (As := [.int (st.1 (b + 3) y2.toNatClampNeg), .int (st.1 (b + 4) y2.toNatClampNeg), .ref (eq E a1)]) (rest := []) X G kc_X4_35 (tX4_run l E st _ hL hbs hm1 ht1 hn1 (st.1 (b + 3) y2.toNatClampNeg) (st.1 (b + 4) y2.toNatClampNeg) h4) (rcv X G ((hbs 0 (by decide)).2 (by decide)) (cO4 (hbs 0 (by decide)).1) rfl) rfl rfl (rmk_le (by omega) (by decide)) rfl hl.1 rfl (Nat.le_of_ble_eq_true rfl) dX4_worth_71 ⟨Nat.zero_le _, Nat.zero_le _⟩ (fun H locs G => ?_)
    exact rtWl X hlk G hr (so_i hf) dX4_worth_74
def fX4_worth_B47 (b : Nat) (a1 : Nat) (n1 : Nat) (k2 : Int32 → St → Option (Int64 × St)) (y2 : Int32) (st : St) : Option (Int64 × St) := fX4_worth_B52 b a1 n1 k2 y2 (1 : Int32) st
set_option maxRecDepth 100000 in
theorem wX4_worth_B47 {p : Program} {l : Launch} {e : Env} {s : State} {m : MethodId} {args : Array Value} {below : List Frame} {meth : Method} {c : Code} {E : Ev} (hL : ∀ k, fxC k = true → k ∈ eL E) {b : Nat} {a1 : Nat} {n1 : Nat} (hbs : okR E b) (hm1 : a1 ∈ eL E) (ht1 : ty a1 = 40000 + n1) (hn1 : n1 < 10000) {sz : Nat} {res : (Int64 × St)} (X : CX p s m args c E RX4 cX4_worth 4 (Af E sz)) (hr : meth.sig.returnType = (some .long)) (hlk : meth.locks = false) {k2 : Int32 → St → Option (Int64 × St)} (hk2 : ∀ (y2 : Int32) (st : St) (H : Heap) (locs : List Loc), k2 y2 st = some res → Gd E st (Af E sz) s H locs → ∀ ls : Array Slot, lv_has ls 4 [(0, .ref (eq E b)), (1, .ref (eq E a1)), (2, .int y2)] → W p l e (rmk 2) s m args below meth c H locs 0 0 (MQ below (QWl E res.2 sz res.1) args s 0 0 (Af E sz)) (F0 m 2 ls [])) : ∀ (y2 : Int32) (st : St) (H : Heap) (locs : List Loc), fX4_worth_B47 b a1 n1 k2 y2 st = some res → Gd E st (Af E sz) s H locs → ∀ ls : Array Slot, lv_has ls 4 [(0, .ref (eq E b)), (1, .ref (eq E a1)), (2, .int y2)] → W p l e (rmk 2) s m args below meth c H locs 0 0 (MQ below (QWl E res.2 sz res.1) args s 0 0 (Af E sz)) (F0 m 47 ls []) := by
  have hx := X.1.1
  have hb := X.1.2.1
  intro y2 st H locs hf G ls hl
  unfold fX4_worth_B47 at hf
  refine lv_iconst (v := (1 : Int32)) hx hb dX4_worth_47 (by decide) ?_
  refine lv_goto (tgt := 52) hx hb dX4_worth_48 (by decide) ?_
  exact wX4_worth_B52 hL hbs hm1 ht1 hn1 X hr hlk hk2 y2 (1 : Int32) st _ _ hf G _ (lv_sub hl [0, 1, 2] rfl)
def fX4_worth_L2 (b : Nat) (a1 : Nat) (n1 : Nat) : Nat → Int32 → St → Option (Int64 × St)
  | 0, _, _ => none
  | n + 1, y2, st => if (st.1 b 5) ≤ y2 then (some ((0 : Int64), st)) else (gd (ix y2 12) (gd (ix y2 12) (if (st.1 (b + 4) y2.toNatClampNeg) = (st.1 (b + 5) y2.toNatClampNeg) then (fX4_worth_B47 b a1 n1 (fX4_worth_L2 b a1 n1 n) y2 st) else (gd (ix y2 12) (gd (ix y2 12) (bw (fX4_run b a1 n1 (st.1 (b + 4) y2.toNatClampNeg) (st.1 (b + 5) y2.toNatClampNeg) st) (fun x9 s8 => if (lg_cmp x9 (0 : Int64)) = 0 then (fX4_worth_B52 b a1 n1 (fX4_worth_L2 b a1 n1 n) y2 (0 : Int32) s8) else (fX4_worth_B47 b a1 n1 (fX4_worth_L2 b a1 n1 n) y2 s8))))))))
set_option maxRecDepth 100000 in
theorem wX4_worth_L2 {p : Program} {l : Launch} {e : Env} {s : State} {m : MethodId} {args : Array Value} {below : List Frame} {meth : Method} {c : Code} {E : Ev} (hL : ∀ k, fxC k = true → k ∈ eL E) {b : Nat} {a1 : Nat} {n1 : Nat} (hbs : okR E b) (hm1 : a1 ∈ eL E) (ht1 : ty a1 = 40000 + n1) (hn1 : n1 < 10000) {sz : Nat} {res : (Int64 × St)} (X : CX p s m args c E RX4 cX4_worth 4 (Af E sz)) (hr : meth.sig.returnType = (some .long)) (hlk : meth.locks = false) : ∀ (n : Nat) (y2 : Int32) (st : St) (H : Heap) (locs : List Loc), fX4_worth_L2 b a1 n1  n y2 st = some res → Gd E st (Af E sz) s H locs → ∀ ls : Array Slot, lv_has ls 4 [(0, .ref (eq E b)), (1, .ref (eq E a1)), (2, .int y2)] → W p l e (rmk 2) s m args below meth c H locs 0 0 (MQ below (QWl E res.2 sz res.1) args s 0 0 (Af E sz)) (F0 m 2 ls []) := by
  have hx := X.1.1
  have hb := X.1.2.1
  intro n
  induction n with
  | zero =>
    intro y2 st H locs hf G ls hl
    cases (show (none : Option (Int64 × St)) = some res from hf)
  | succ n ih =>
    intro y2 st H locs hf G ls hl
    rw [fX4_worth_L2] at hf
    refine lv_iload_n hx hb dX4_worth_2 rfl (lv_at hl 2 rfl) ?_
    refine lv_aload_n hx hb dX4_worth_3 rfl (lv_at hl 0 rfl) ?_
    refine gf4 X G ((hbs 0 (by decide)).2 (by decide)) (hbs 0 (by decide)).1 5 (by decide) rfl kf_X4_28 iwX4 dX4_worth_4 ?_
    refine lv_icmp_ge (tgt := 81) hx hb dX4_worth_7 (by decide) (fun c1 => ?_) (fun c1 => ?_)
    · have hf := it_t hf c1
      refine lv_lconst (v := (0 : Int64)) hx hb dX4_worth_81 (by decide) ?_
      exact rtWl X hlk G hr (so_i hf) dX4_worth_82
    · have hf := it_f hf c1
      refine lv_aload_n hx hb dX4_worth_10 rfl (lv_at hl 0 rfl) ?_
      refine gf4 X G ((hbs 0 (by decide)).2 (by decide)) (hbs 0 (by decide)).1 3 (by decide) rfl kf_X4_22 iwX4 dX4_worth_11 ?_
      refine lv_iload_n hx hb dX4_worth_14 rfl (lv_at hl 2 rfl) ?_
      obtain ⟨h2, hf⟩ := gd_s hf
      refine ia_ld (k := (b + 4)) (n := 12) X G ((hbs 4 (by decide)).2 (by decide)) (hbs 4 (by decide)).1 (by decide) (ix_in h2) dX4_worth_15 ?_
      refine lv_aload_n hx hb dX4_worth_16 rfl (lv_at hl 0 rfl) ?_
      refine gf4 X G ((hbs 0 (by decide)).2 (by decide)) (hbs 0 (by decide)).1 4 (by decide) rfl kf_X4_25 iwX4 dX4_worth_17 ?_
      refine lv_iload_n hx hb dX4_worth_20 rfl (lv_at hl 2 rfl) ?_
      obtain ⟨h3, hf⟩ := gd_s hf
      refine ia_ld (k := (b + 5)) (n := 12) X G ((hbs 5 (by decide)).2 (by decide)) (hbs 5 (by decide)).1 (by decide) (ix_in h3) dX4_worth_21 ?_
      refine lv_icmp_eq (tgt := 47) hx hb dX4_worth_22 (by decide) (fun c4 => ?_) (fun c4 => ?_)
      · have hf := it_t hf c4
        exact wX4_worth_B47 hL hbs hm1 ht1 hn1 X hr hlk ih y2 st _ _ hf G _ (lv_sub hl [0, 1, 2] rfl)
      · have hf := it_f hf c4
        refine lv_aload_n hx hb dX4_worth_25 rfl (lv_at hl 0 rfl) ?_
        refine lv_aload_n hx hb dX4_worth_26 rfl (lv_at hl 0 rfl) ?_
        refine gf4 X G ((hbs 0 (by decide)).2 (by decide)) (hbs 0 (by decide)).1 3 (by decide) rfl kf_X4_22 iwX4 dX4_worth_27 ?_
        refine lv_iload_n hx hb dX4_worth_30 rfl (lv_at hl 2 rfl) ?_
        obtain ⟨h5, hf⟩ := gd_s hf
        refine ia_ld (k := (b + 4)) (n := 12) X G ((hbs 4 (by decide)).2 (by decide)) (hbs 4 (by decide)).1 (by decide) (ix_in h5) dX4_worth_31 ?_
        refine lv_aload_n hx hb dX4_worth_32 rfl (lv_at hl 0 rfl) ?_
        refine gf4 X G ((hbs 0 (by decide)).2 (by decide)) (hbs 0 (by decide)).1 4 (by decide) rfl kf_X4_25 iwX4 dX4_worth_33 ?_
        refine lv_iload_n hx hb dX4_worth_36 rfl (lv_at hl 2 rfl) ?_
        obtain ⟨h6, hf⟩ := gd_s hf
        refine ia_ld (k := (b + 5)) (n := 12) X G ((hbs 5 (by decide)).2 (by decide)) (hbs 5 (by decide)).1 (by decide) (ix_in h6) dX4_worth_37 ?_
        refine lv_aload_n hx hb dX4_worth_38 rfl (lv_at hl 1 rfl) ?_
        obtain ⟨x9, s8, h7, hf⟩ := bw_s hf
        refine cVWl (As := [.int (st.1 (b + 4) y2.toNatClampNeg), .int (st.1 (b + 5) y2.toNatClampNeg), .ref (eq E a1)]) (rest := []) X G kc_X4_35 (tX4_run l E st _ hL hbs hm1 ht1 hn1 (st.1 (b + 4) y2.toNatClampNeg) (st.1 (b + 5) y2.toNatClampNeg) h7) (rcv X G ((hbs 0 (by decide)).2 (by decide)) (cO4 (hbs 0 (by decide)).1) rfl) rfl rfl (rmk_le (by omega) (by decide)) rfl hl.1 rfl (Nat.le_of_ble_eq_true rfl) dX4_worth_39 ⟨Nat.zero_le _, Nat.zero_le _⟩ (fun H locs G => ?_)
        refine lv_lconst (v := (0 : Int64)) hx hb dX4_worth_42 (by decide) ?_
        refine W.lcmp hx hb dX4_worth_43 ?_
        refine lv_if_eq (tgt := 51) hx hb dX4_worth_44 (by decide) (fun c10 => ?_) (fun c10 => ?_)
        · have hf := it_t hf c10
          refine lv_iconst (v := (0 : Int32)) hx hb dX4_worth_51 (by decide) ?_
          exact wX4_worth_B52 hL hbs hm1 ht1 hn1 X hr hlk ih y2 (0 : Int32) s8 _ _ hf G _ (lv_sub hl [0, 1, 2] rfl)
        · have hf := it_f hf c10
          exact wX4_worth_B47 hL hbs hm1 ht1 hn1 X hr hlk ih y2 s8 _ _ hf G _ (lv_sub hl [0, 1, 2] rfl)
def fX4_worth (b : Nat) (a1 : Nat) (n1 : Nat) (st : St) : Option (Int64 × St) := fX4_worth_L2 b a1 n1 10000 (0 : Int32) st
set_option maxRecDepth 100000 in
theorem tX4_worth (l : Launch) (E : Ev) (st : St) (sz : Nat) (hL : ∀ k, fxC k = true → k ∈ eL E) {b : Nat} {a1 : Nat} {n1 : Nat} (hbs : okR E b) (hm1 : a1 ∈ eL E) (ht1 : ty a1 = 40000 + n1) (hn1 : n1 < 10000)  {res : (Int64 × St)} (hf : fX4_worth b a1 n1  st = some res) : Met l yX4_worth (.code yX4_worth cX4_worth 4 (some .long) :: uW) (rmk 2) (va_Pc [.ref (eq E b), .ref (eq E a1)] (Pre E st sz)) (QWl E res.2 sz res.1) 0 0 (Af E sz) := by
  refine Met_in (by decide) (Nat.le_of_ble_eq_true rfl) ?_
  intro p e s m below meth c X hr hlk hz G ls hl
  have hx := X.1.1
  have hb := X.1.2.1
  have hl : lv_has ls 4 [(0, .ref (eq E b)), (1, .ref (eq E a1))] := hl
  unfold fX4_worth at hf
  refine lv_iconst (v := (0 : Int32)) hx hb dX4_worth_0 (by decide) ?_
  refine lv_istore_n (lv' := [(2, .int (0 : Int32)), (0, .ref (eq E b)), (1, .ref (eq E a1))]) hx hb dX4_worth_1 rfl hl (by decide) rfl (fun ls hl => ?_)
  exact wX4_worth_L2 hL hbs hm1 ht1 hn1 X hr hlk 10000 (0 : Int32) st _ _ hf G _ (lv_sub hl [1, 2, 0] rfl)
def fX5_fail (p1 : Int32) (st : St) : Option (Int32 × St) := nm (ui st 40 3 (((1 : Int32) + ((8 : Int32) * (st.1 20 6))) + p1)) (fun s1 => some ((0 : Int32), s1))
set_option maxRecDepth 100000 in
theorem tX5_fail (l : Launch) (E : Ev) (st : St) (sz : Nat) (hL : ∀ k, fxC k = true → k ∈ eL E) (p1 : Int32) {res : (Int32 × St)} (hf : fX5_fail  p1 st = some res) : Met l yX5_fail (.code yX5_fail cX5_fail 2 (some .boolean) :: uW) (rmk 0) (va_Pc [.ref (eq E 40), .int p1] (Pre E st sz)) (QWi E res.2 sz res.1) 0 0 (Af E sz) := by
  refine Met_in (by decide) (Nat.le_of_ble_eq_true rfl) ?_
  intro p e s m below meth c X hr hlk hz G ls hl
  have hx := X.1.1
  have hb := X.1.2.1
  have hl : lv_has ls 2 [(0, .ref (eq E 40)), (1, .int p1)] := hl
  unfold fX5_fail at hf
  refine lv_aload_n hx hb dX5_fail_0 rfl (lv_at hl 0 rfl) ?_
  refine lv_iconst (v := (1 : Int32)) hx hb dX5_fail_1 (by decide) ?_
  refine lv_bipush (v := (8 : Int32)) hx hb dX5_fail_2 (by decide) ?_
  refine lv_aload_n hx hb dX5_fail_4 rfl (lv_at hl 0 rfl) ?_
  refine gf5 X G (hL 40 rfl) rfl 0 (by decide) rfl kf_X5_25 iwX5 dX5_fail_5 ?_
  refine gf7 X G (hL 20 rfl) rfl 6 (by decide) rfl kf_X5_83 iwX7 dX5_fail_8 ?_
  refine lv_imul hx hb dX5_fail_11 ?_
  refine lv_iadd hx hb dX5_fail_12 ?_
  refine lv_iload_n hx hb dX5_fail_13 rfl (lv_at hl 1 rfl) ?_
  refine lv_iadd hx hb dX5_fail_14 ?_
  refine pf5 X G (hL 40 rfl) rfl 3 (by decide) ps5_3 uio kf_X5_22 iwX5 rfl (ty := .int) (by decide +kernel) rfl rfl dX5_fail_15 (fun s1 es1 H locs G => ?_)
  have hf := nm_s hf s1 es1
  refine lv_iconst (v := (0 : Int32)) hx hb dX5_fail_18 (by decide) ?_
  exact rtWz X hlk G hr rfl (so_i hf) dX5_fail_19
def fX5_readHead (p1 : Int32) (st : St) : Option (Int32 × St) := if (st.1 20 5) = (16 : Int32) then (if p1 < (12 : Int32) then (br (fX7_step st) (fun s4 => some ((1 : Int32), s4))) else (bw (fX5_fail (4 : Int32) st) (fun x5 s4 => gd (bz x5) (some (x5, s4))))) else (bw (fX5_fail (0 : Int32) st) (fun x4 s3 => gd (bz x4) (some (x4, s3))))
set_option maxRecDepth 100000 in
theorem tX5_readHead (l : Launch) (E : Ev) (st : St) (sz : Nat) (hL : ∀ k, fxC k = true → k ∈ eL E) (p1 : Int32) {res : (Int32 × St)} (hf : fX5_readHead  p1 st = some res) : Met l yX5_readHead (.code yX5_readHead cX5_readHead 2 (some .boolean) :: uW) (rmk 1) (va_Pc [.ref (eq E 40), .int p1] (Pre E st sz)) (QWi E res.2 sz res.1) 0 0 (Af E sz) := by
  refine Met_in (by decide) (Nat.le_of_ble_eq_true rfl) ?_
  intro p e s m below meth c X hr hlk hz G ls hl
  have hx := X.1.1
  have hb := X.1.2.1
  have hl : lv_has ls 2 [(0, .ref (eq E 40)), (1, .int p1)] := hl
  unfold fX5_readHead at hf
  refine lv_aload_n hx hb dX5_readHead_0 rfl (lv_at hl 0 rfl) ?_
  refine gf5 X G (hL 40 rfl) rfl 0 (by decide) rfl kf_X5_25 iwX5 dX5_readHead_1 ?_
  refine gf7 X G (hL 20 rfl) rfl 5 (by decide) rfl kf_X5_43 iwX7 dX5_readHead_4 ?_
  refine lv_bipush (v := (16 : Int32)) hx hb dX5_readHead_7 (by decide) ?_
  refine lv_icmp_eq (tgt := 18) hx hb dX5_readHead_9 (by decide) (fun c1 => ?_) (fun c1 => ?_)
  · have hf := it_t hf c1
    refine lv_iload_n hx hb dX5_readHead_18 rfl (lv_at hl 1 rfl) ?_
    refine lv_bipush (v := (12 : Int32)) hx hb dX5_readHead_19 (by decide) ?_
    refine lv_icmp_lt (tgt := 30) hx hb dX5_readHead_21 (by decide) (fun c2 => ?_) (fun c2 => ?_)
    · have hf := it_t hf c2
      refine lv_aload_n hx hb dX5_readHead_30 rfl (lv_at hl 0 rfl) ?_
      refine gf5 X G (hL 40 rfl) rfl 0 (by decide) rfl kf_X5_25 iwX5 dX5_readHead_31 ?_
      obtain ⟨s4, h3, hf⟩ := br_s hf
      refine cVWv (As := []) (rest := []) X G kc_X5_48 (tX7_step l E st _ hL   h3) (rcv X G (hL 20 rfl) (cO7 rfl) rfl) rfl rfl (rmk_le (by omega) (by decide)) rfl hl.1 rfl (Nat.le_of_ble_eq_true rfl) dX5_readHead_34 ⟨Nat.zero_le _, Nat.zero_le _⟩ (fun H locs G => ?_)
      refine lv_iconst (v := (1 : Int32)) hx hb dX5_readHead_37 (by decide) ?_
      exact rtWz X hlk G hr rfl (so_i hf) dX5_readHead_38
    · have hf := it_f hf c2
      refine lv_aload_n hx hb dX5_readHead_24 rfl (lv_at hl 0 rfl) ?_
      refine lv_iconst (v := (4 : Int32)) hx hb dX5_readHead_25 (by decide) ?_
      obtain ⟨x5, s4, h3, hf⟩ := bw_s hf
      refine cVWi (As := [.int (4 : Int32)]) (rest := []) X G kc_X5_57 (tX5_fail l E st _ hL  (4 : Int32) h3) (rcv X G (hL 40 rfl) (cO5 rfl) rfl) rfl rfl (rmk_le (by omega) (by decide)) rfl hl.1 rfl (Nat.le_of_ble_eq_true rfl) dX5_readHead_26 ⟨Nat.zero_le _, Nat.zero_le _⟩ (fun H locs G => ?_)
      obtain ⟨h6, hf⟩ := gd_s hf
      exact rtWz X hlk G hr (bz_n h6) (so_i hf) dX5_readHead_29
  · have hf := it_f hf c1
    refine lv_aload_n hx hb dX5_readHead_12 rfl (lv_at hl 0 rfl) ?_
    refine lv_iconst (v := (0 : Int32)) hx hb dX5_readHead_13 (by decide) ?_
    obtain ⟨x4, s3, h2, hf⟩ := bw_s hf
    refine cVWi (As := [.int (0 : Int32)]) (rest := []) X G kc_X5_57 (tX5_fail l E st _ hL  (0 : Int32) h2) (rcv X G (hL 40 rfl) (cO5 rfl) rfl) rfl rfl (rmk_le (by omega) (by decide)) rfl hl.1 rfl (Nat.le_of_ble_eq_true rfl) dX5_readHead_14 ⟨Nat.zero_le _, Nat.zero_le _⟩ (fun H locs G => ?_)
    obtain ⟨h5, hf⟩ := gd_s hf
    exact rtWz X hlk G hr (bz_n h5) (so_i hf) dX5_readHead_17
def fX5_readSign (st : St) : Option (Int32 × St) := if (st.1 20 5) = (33 : Int32) then (if (st.1 40 2) < (60 : Int32) then (nm (ui st 40 2 ((st.1 40 2) + (1 : Int32))) (fun s2 => br (fX7_step s2) (fun s4 => some ((1 : Int32), s4)))) else (bw (fX5_fail (3 : Int32) st) (fun x4 s3 => gd (bz x4) (some (x4, s3))))) else (if (st.1 20 5) = (34 : Int32) then (if (st.1 40 2) < (60 : Int32) then (nm (ui st 40 2 ((st.1 40 2) + (1 : Int32))) (fun s2 => br (fX7_step s2) (fun s4 => some ((1 : Int32), s4)))) else (bw (fX5_fail (3 : Int32) st) (fun x4 s3 => gd (bz x4) (some (x4, s3))))) else (if (st.1 20 5) = (35 : Int32) then (if (st.1 40 2) < (60 : Int32) then (nm (ui st 40 2 ((st.1 40 2) + (1 : Int32))) (fun s2 => br (fX7_step s2) (fun s4 => some ((1 : Int32), s4)))) else (bw (fX5_fail (3 : Int32) st) (fun x4 s3 => gd (bz x4) (some (x4, s3))))) else (if (st.1 20 5) = (36 : Int32) then (if (st.1 40 2) < (60 : Int32) then (nm (ui st 40 2 ((st.1 40 2) + (1 : Int32))) (fun s2 => br (fX7_step s2) (fun s4 => some ((1 : Int32), s4)))) else (bw (fX5_fail (3 : Int32) st) (fun x4 s3 => gd (bz x4) (some (x4, s3))))) else (if (st.1 20 5) = (37 : Int32) then (if (st.1 40 2) < (60 : Int32) then (nm (ui st 40 2 ((st.1 40 2) + (1 : Int32))) (fun s2 => br (fX7_step s2) (fun s4 => some ((1 : Int32), s4)))) else (bw (fX5_fail (3 : Int32) st) (fun x4 s3 => gd (bz x4) (some (x4, s3))))) else (bw (fX5_fail (0 : Int32) st) (fun x3 s2 => gd (bz x3) (some (x3, s2))))))))
set_option maxRecDepth 100000 in
theorem tX5_readSign (l : Launch) (E : Ev) (st : St) (sz : Nat) (hL : ∀ k, fxC k = true → k ∈ eL E)  {res : (Int32 × St)} (hf : fX5_readSign   st = some res) : Met l yX5_readSign (.code yX5_readSign cX5_readSign 1 (some .boolean) :: uW) (rmk 1) (va_Pc [.ref (eq E 40)] (Pre E st sz)) (QWi E res.2 sz res.1) 0 0 (Af E sz) := by
  refine Met_in (by decide) (Nat.le_of_ble_eq_true rfl) ?_
  intro p e s m below meth c X hr hlk hz G ls hl
  have hx := X.1.1
  have hb := X.1.2.1
  have hl : lv_has ls 1 [(0, .ref (eq E 40))] := hl
  unfold fX5_readSign at hf
  refine lv_aload_n hx hb dX5_readSign_0 rfl (lv_at hl 0 rfl) ?_
  refine gf5 X G (hL 40 rfl) rfl 0 (by decide) rfl kf_X5_25 iwX5 dX5_readSign_1 ?_
  refine gf7 X G (hL 20 rfl) rfl 5 (by decide) rfl kf_X5_43 iwX7 dX5_readSign_4 ?_
  by_cases cs33 : (st.1 20 5) = (33 : Int32)
  · have hf := it_t hf cs33
    refine tbl_in hx hb dX5_readSign_7 cs33 (by decide) (by decide) rfl (tgt := 40) (by decide) ?_
    refine lv_goto (tgt := 49) hx hb dX5_readSign_40 (by decide) ?_
    refine lv_aload_n hx hb dX5_readSign_49 rfl (lv_at hl 0 rfl) ?_
    refine gf5 X G (hL 40 rfl) rfl 2 (by decide) rfl kf_X5_18 iwX5 dX5_readSign_50 ?_
    refine lv_bipush (v := (60 : Int32)) hx hb dX5_readSign_53 (by decide) ?_
    refine lv_icmp_lt (tgt := 64) hx hb dX5_readSign_55 (by decide) (fun c1 => ?_) (fun c1 => ?_)
    · have hf := it_t hf c1
      refine lv_aload_n hx hb dX5_readSign_64 rfl (lv_at hl 0 rfl) ?_
      refine lv_dup hx hb dX5_readSign_65 rfl ?_
      refine gf5 X G (hL 40 rfl) rfl 2 (by decide) rfl kf_X5_18 iwX5 dX5_readSign_66 ?_
      refine lv_iconst (v := (1 : Int32)) hx hb dX5_readSign_69 (by decide) ?_
      refine lv_iadd hx hb dX5_readSign_70 ?_
      refine pf5 X G (hL 40 rfl) rfl 2 (by decide) ps5_2 uio kf_X5_18 iwX5 rfl (ty := .int) (by decide +kernel) rfl rfl dX5_readSign_71 (fun s2 es2 H locs G => ?_)
      have hf := nm_s hf s2 es2
      refine lv_aload_n hx hb dX5_readSign_74 rfl (lv_at hl 0 rfl) ?_
      refine gf5 X G (hL 40 rfl) rfl 0 (by decide) rfl kf_X5_25 iwX5 dX5_readSign_75 ?_
      obtain ⟨s4, h3, hf⟩ := br_s hf
      refine cVWv (As := []) (rest := []) X G kc_X5_48 (tX7_step l E s2 _ hL   h3) (rcv X G (hL 20 rfl) (cO7 rfl) rfl) rfl rfl (rmk_le (by omega) (by decide)) rfl hl.1 rfl (Nat.le_of_ble_eq_true rfl) dX5_readSign_78 ⟨Nat.zero_le _, Nat.zero_le _⟩ (fun H locs G => ?_)
      refine lv_iconst (v := (1 : Int32)) hx hb dX5_readSign_81 (by decide) ?_
      exact rtWz X hlk G hr rfl (so_i hf) dX5_readSign_82
    · have hf := it_f hf c1
      refine lv_aload_n hx hb dX5_readSign_58 rfl (lv_at hl 0 rfl) ?_
      refine lv_iconst (v := (3 : Int32)) hx hb dX5_readSign_59 (by decide) ?_
      obtain ⟨x4, s3, h2, hf⟩ := bw_s hf
      refine cVWi (As := [.int (3 : Int32)]) (rest := []) X G kc_X5_57 (tX5_fail l E st _ hL  (3 : Int32) h2) (rcv X G (hL 40 rfl) (cO5 rfl) rfl) rfl rfl (rmk_le (by omega) (by decide)) rfl hl.1 rfl (Nat.le_of_ble_eq_true rfl) dX5_readSign_60 ⟨Nat.zero_le _, Nat.zero_le _⟩ (fun H locs G => ?_)
      obtain ⟨h5, hf⟩ := gd_s hf
      exact rtWz X hlk G hr (bz_n h5) (so_i hf) dX5_readSign_63
  have hf := it_f hf cs33
  by_cases cs34 : (st.1 20 5) = (34 : Int32)
  · have hf := it_t hf cs34
    refine tbl_in hx hb dX5_readSign_7 cs34 (by decide) (by decide) rfl (tgt := 40) (by decide) ?_
    refine lv_goto (tgt := 49) hx hb dX5_readSign_40 (by decide) ?_
    refine lv_aload_n hx hb dX5_readSign_49 rfl (lv_at hl 0 rfl) ?_
    refine gf5 X G (hL 40 rfl) rfl 2 (by decide) rfl kf_X5_18 iwX5 dX5_readSign_50 ?_
    refine lv_bipush (v := (60 : Int32)) hx hb dX5_readSign_53 (by decide) ?_
    refine lv_icmp_lt (tgt := 64) hx hb dX5_readSign_55 (by decide) (fun c1 => ?_) (fun c1 => ?_)
    · have hf := it_t hf c1
      refine lv_aload_n hx hb dX5_readSign_64 rfl (lv_at hl 0 rfl) ?_
      refine lv_dup hx hb dX5_readSign_65 rfl ?_
      refine gf5 X G (hL 40 rfl) rfl 2 (by decide) rfl kf_X5_18 iwX5 dX5_readSign_66 ?_
      refine lv_iconst (v := (1 : Int32)) hx hb dX5_readSign_69 (by decide) ?_
      refine lv_iadd hx hb dX5_readSign_70 ?_
      refine pf5 X G (hL 40 rfl) rfl 2 (by decide) ps5_2 uio kf_X5_18 iwX5 rfl (ty := .int) (by decide +kernel) rfl rfl dX5_readSign_71 (fun s2 es2 H locs G => ?_)
      have hf := nm_s hf s2 es2
      refine lv_aload_n hx hb dX5_readSign_74 rfl (lv_at hl 0 rfl) ?_
      refine gf5 X G (hL 40 rfl) rfl 0 (by decide) rfl kf_X5_25 iwX5 dX5_readSign_75 ?_
      obtain ⟨s4, h3, hf⟩ := br_s hf
      refine cVWv (As := []) (rest := []) X G kc_X5_48 (tX7_step l E s2 _ hL   h3) (rcv X G (hL 20 rfl) (cO7 rfl) rfl) rfl rfl (rmk_le (by omega) (by decide)) rfl hl.1 rfl (Nat.le_of_ble_eq_true rfl) dX5_readSign_78 ⟨Nat.zero_le _, Nat.zero_le _⟩ (fun H locs G => ?_)
      refine lv_iconst (v := (1 : Int32)) hx hb dX5_readSign_81 (by decide) ?_
      exact rtWz X hlk G hr rfl (so_i hf) dX5_readSign_82
    · have hf := it_f hf c1
      refine lv_aload_n hx hb dX5_readSign_58 rfl (lv_at hl 0 rfl) ?_
      refine lv_iconst (v := (3 : Int32)) hx hb dX5_readSign_59 (by decide) ?_
      obtain ⟨x4, s3, h2, hf⟩ := bw_s hf
      refine cVWi (As := [.int (3 : Int32)]) (rest := []) X G kc_X5_57 (tX5_fail l E st _ hL  (3 : Int32) h2) (rcv X G (hL 40 rfl) (cO5 rfl) rfl) rfl rfl (rmk_le (by omega) (by decide)) rfl hl.1 rfl (Nat.le_of_ble_eq_true rfl) dX5_readSign_60 ⟨Nat.zero_le _, Nat.zero_le _⟩ (fun H locs G => ?_)
      obtain ⟨h5, hf⟩ := gd_s hf
      exact rtWz X hlk G hr (bz_n h5) (so_i hf) dX5_readSign_63
  have hf := it_f hf cs34
  by_cases cs35 : (st.1 20 5) = (35 : Int32)
  · have hf := it_t hf cs35
    refine tbl_in hx hb dX5_readSign_7 cs35 (by decide) (by decide) rfl (tgt := 40) (by decide) ?_
    refine lv_goto (tgt := 49) hx hb dX5_readSign_40 (by decide) ?_
    refine lv_aload_n hx hb dX5_readSign_49 rfl (lv_at hl 0 rfl) ?_
    refine gf5 X G (hL 40 rfl) rfl 2 (by decide) rfl kf_X5_18 iwX5 dX5_readSign_50 ?_
    refine lv_bipush (v := (60 : Int32)) hx hb dX5_readSign_53 (by decide) ?_
    refine lv_icmp_lt (tgt := 64) hx hb dX5_readSign_55 (by decide) (fun c1 => ?_) (fun c1 => ?_)
    · have hf := it_t hf c1
      refine lv_aload_n hx hb dX5_readSign_64 rfl (lv_at hl 0 rfl) ?_
      refine lv_dup hx hb dX5_readSign_65 rfl ?_
      refine gf5 X G (hL 40 rfl) rfl 2 (by decide) rfl kf_X5_18 iwX5 dX5_readSign_66 ?_
      refine lv_iconst (v := (1 : Int32)) hx hb dX5_readSign_69 (by decide) ?_
      refine lv_iadd hx hb dX5_readSign_70 ?_
      refine pf5 X G (hL 40 rfl) rfl 2 (by decide) ps5_2 uio kf_X5_18 iwX5 rfl (ty := .int) (by decide +kernel) rfl rfl dX5_readSign_71 (fun s2 es2 H locs G => ?_)
      have hf := nm_s hf s2 es2
      refine lv_aload_n hx hb dX5_readSign_74 rfl (lv_at hl 0 rfl) ?_
      refine gf5 X G (hL 40 rfl) rfl 0 (by decide) rfl kf_X5_25 iwX5 dX5_readSign_75 ?_
      obtain ⟨s4, h3, hf⟩ := br_s hf
      refine cVWv (As := []) (rest := []) X G kc_X5_48 (tX7_step l E s2 _ hL   h3) (rcv X G (hL 20 rfl) (cO7 rfl) rfl) rfl rfl (rmk_le (by omega) (by decide)) rfl hl.1 rfl (Nat.le_of_ble_eq_true rfl) dX5_readSign_78 ⟨Nat.zero_le _, Nat.zero_le _⟩ (fun H locs G => ?_)
      refine lv_iconst (v := (1 : Int32)) hx hb dX5_readSign_81 (by decide) ?_
      exact rtWz X hlk G hr rfl (so_i hf) dX5_readSign_82
    · have hf := it_f hf c1
      refine lv_aload_n hx hb dX5_readSign_58 rfl (lv_at hl 0 rfl) ?_
      refine lv_iconst (v := (3 : Int32)) hx hb dX5_readSign_59 (by decide) ?_
      obtain ⟨x4, s3, h2, hf⟩ := bw_s hf
      refine cVWi (As := [.int (3 : Int32)]) (rest := []) X G kc_X5_57 (tX5_fail l E st _ hL  (3 : Int32) h2) (rcv X G (hL 40 rfl) (cO5 rfl) rfl) rfl rfl (rmk_le (by omega) (by decide)) rfl hl.1 rfl (Nat.le_of_ble_eq_true rfl) dX5_readSign_60 ⟨Nat.zero_le _, Nat.zero_le _⟩ (fun H locs G => ?_)
      obtain ⟨h5, hf⟩ := gd_s hf
      exact rtWz X hlk G hr (bz_n h5) (so_i hf) dX5_readSign_63
  have hf := it_f hf cs35
  by_cases cs36 : (st.1 20 5) = (36 : Int32)
  · have hf := it_t hf cs36
    refine tbl_in hx hb dX5_readSign_7 cs36 (by decide) (by decide) rfl (tgt := 40) (by decide) ?_
    refine lv_goto (tgt := 49) hx hb dX5_readSign_40 (by decide) ?_
    refine lv_aload_n hx hb dX5_readSign_49 rfl (lv_at hl 0 rfl) ?_
    refine gf5 X G (hL 40 rfl) rfl 2 (by decide) rfl kf_X5_18 iwX5 dX5_readSign_50 ?_
    refine lv_bipush (v := (60 : Int32)) hx hb dX5_readSign_53 (by decide) ?_
    refine lv_icmp_lt (tgt := 64) hx hb dX5_readSign_55 (by decide) (fun c1 => ?_) (fun c1 => ?_)
    · have hf := it_t hf c1
      refine lv_aload_n hx hb dX5_readSign_64 rfl (lv_at hl 0 rfl) ?_
      refine lv_dup hx hb dX5_readSign_65 rfl ?_
      refine gf5 X G (hL 40 rfl) rfl 2 (by decide) rfl kf_X5_18 iwX5 dX5_readSign_66 ?_
      refine lv_iconst (v := (1 : Int32)) hx hb dX5_readSign_69 (by decide) ?_
      refine lv_iadd hx hb dX5_readSign_70 ?_
      refine pf5 X G (hL 40 rfl) rfl 2 (by decide) ps5_2 uio kf_X5_18 iwX5 rfl (ty := .int) (by decide +kernel) rfl rfl dX5_readSign_71 (fun s2 es2 H locs G => ?_)
      have hf := nm_s hf s2 es2
      refine lv_aload_n hx hb dX5_readSign_74 rfl (lv_at hl 0 rfl) ?_
      refine gf5 X G (hL 40 rfl) rfl 0 (by decide) rfl kf_X5_25 iwX5 dX5_readSign_75 ?_
      obtain ⟨s4, h3, hf⟩ := br_s hf
      refine cVWv (As := []) (rest := []) X G kc_X5_48 (tX7_step l E s2 _ hL   h3) (rcv X G (hL 20 rfl) (cO7 rfl) rfl) rfl rfl (rmk_le (by omega) (by decide)) rfl hl.1 rfl (Nat.le_of_ble_eq_true rfl) dX5_readSign_78 ⟨Nat.zero_le _, Nat.zero_le _⟩ (fun H locs G => ?_)
      refine lv_iconst (v := (1 : Int32)) hx hb dX5_readSign_81 (by decide) ?_
      exact rtWz X hlk G hr rfl (so_i hf) dX5_readSign_82
    · have hf := it_f hf c1
      refine lv_aload_n hx hb dX5_readSign_58 rfl (lv_at hl 0 rfl) ?_
      refine lv_iconst (v := (3 : Int32)) hx hb dX5_readSign_59 (by decide) ?_
      obtain ⟨x4, s3, h2, hf⟩ := bw_s hf
      refine cVWi (As := [.int (3 : Int32)]) (rest := []) X G kc_X5_57 (tX5_fail l E st _ hL  (3 : Int32) h2) (rcv X G (hL 40 rfl) (cO5 rfl) rfl) rfl rfl (rmk_le (by omega) (by decide)) rfl hl.1 rfl (Nat.le_of_ble_eq_true rfl) dX5_readSign_60 ⟨Nat.zero_le _, Nat.zero_le _⟩ (fun H locs G => ?_)
      obtain ⟨h5, hf⟩ := gd_s hf
      exact rtWz X hlk G hr (bz_n h5) (so_i hf) dX5_readSign_63
  have hf := it_f hf cs36
  by_cases cs37 : (st.1 20 5) = (37 : Int32)
  · have hf := it_t hf cs37
    refine tbl_in hx hb dX5_readSign_7 cs37 (by decide) (by decide) rfl (tgt := 40) (by decide) ?_
    refine lv_goto (tgt := 49) hx hb dX5_readSign_40 (by decide) ?_
    refine lv_aload_n hx hb dX5_readSign_49 rfl (lv_at hl 0 rfl) ?_
    refine gf5 X G (hL 40 rfl) rfl 2 (by decide) rfl kf_X5_18 iwX5 dX5_readSign_50 ?_
    refine lv_bipush (v := (60 : Int32)) hx hb dX5_readSign_53 (by decide) ?_
    refine lv_icmp_lt (tgt := 64) hx hb dX5_readSign_55 (by decide) (fun c1 => ?_) (fun c1 => ?_)
    · have hf := it_t hf c1
      refine lv_aload_n hx hb dX5_readSign_64 rfl (lv_at hl 0 rfl) ?_
      refine lv_dup hx hb dX5_readSign_65 rfl ?_
      refine gf5 X G (hL 40 rfl) rfl 2 (by decide) rfl kf_X5_18 iwX5 dX5_readSign_66 ?_
      refine lv_iconst (v := (1 : Int32)) hx hb dX5_readSign_69 (by decide) ?_
      refine lv_iadd hx hb dX5_readSign_70 ?_
      refine pf5 X G (hL 40 rfl) rfl 2 (by decide) ps5_2 uio kf_X5_18 iwX5 rfl (ty := .int) (by decide +kernel) rfl rfl dX5_readSign_71 (fun s2 es2 H locs G => ?_)
      have hf := nm_s hf s2 es2
      refine lv_aload_n hx hb dX5_readSign_74 rfl (lv_at hl 0 rfl) ?_
      refine gf5 X G (hL 40 rfl) rfl 0 (by decide) rfl kf_X5_25 iwX5 dX5_readSign_75 ?_
      obtain ⟨s4, h3, hf⟩ := br_s hf
      refine cVWv (As := []) (rest := []) X G kc_X5_48 (tX7_step l E s2 _ hL   h3) (rcv X G (hL 20 rfl) (cO7 rfl) rfl) rfl rfl (rmk_le (by omega) (by decide)) rfl hl.1 rfl (Nat.le_of_ble_eq_true rfl) dX5_readSign_78 ⟨Nat.zero_le _, Nat.zero_le _⟩ (fun H locs G => ?_)
      refine lv_iconst (v := (1 : Int32)) hx hb dX5_readSign_81 (by decide) ?_
      exact rtWz X hlk G hr rfl (so_i hf) dX5_readSign_82
    · have hf := it_f hf c1
      refine lv_aload_n hx hb dX5_readSign_58 rfl (lv_at hl 0 rfl) ?_
      refine lv_iconst (v := (3 : Int32)) hx hb dX5_readSign_59 (by decide) ?_
      obtain ⟨x4, s3, h2, hf⟩ := bw_s hf
      refine cVWi (As := [.int (3 : Int32)]) (rest := []) X G kc_X5_57 (tX5_fail l E st _ hL  (3 : Int32) h2) (rcv X G (hL 40 rfl) (cO5 rfl) rfl) rfl rfl (rmk_le (by omega) (by decide)) rfl hl.1 rfl (Nat.le_of_ble_eq_true rfl) dX5_readSign_60 ⟨Nat.zero_le _, Nat.zero_le _⟩ (fun H locs G => ?_)
      obtain ⟨h5, hf⟩ := gd_s hf
      exact rtWz X hlk G hr (bz_n h5) (so_i hf) dX5_readSign_63
  have hf := it_f hf cs37
  have kd : W p l e (rmk 1) s m [.ref (eq E 40)].toArray below meth c s.heap [] 0 0 (MQ below (QWi E res.2 sz res.1) [.ref (eq E 40)].toArray s 0 0 (Af E sz)) (F0 m 43 ls []) := by
    refine lv_aload_n hx hb dX5_readSign_43 rfl (lv_at hl 0 rfl) ?_
    refine lv_iconst (v := (0 : Int32)) hx hb dX5_readSign_44 (by decide) ?_
    obtain ⟨x3, s2, h1, hf⟩ := bw_s hf
    refine cVWi (As := [.int (0 : Int32)]) (rest := []) X G kc_X5_57 (tX5_fail l E st _ hL  (0 : Int32) h1) (rcv X G (hL 40 rfl) (cO5 rfl) rfl) rfl rfl (rmk_le (by omega) (by decide)) rfl hl.1 rfl (Nat.le_of_ble_eq_true rfl) dX5_readSign_45 ⟨Nat.zero_le _, Nat.zero_le _⟩ (fun H locs G => ?_)
    obtain ⟨h4, hf⟩ := gd_s hf
    exact rtWz X hlk G hr (bz_n h4) (so_i hf) dX5_readSign_48
  refine lv_tableOut (tgt := 43) hx hb dX5_readSign_7 (sw_out (fun v h1 h2 => ?_)) (by decide) kd
  rcases (show v = 33 ∨ v = 34 ∨ v = 35 ∨ v = 36 ∨ v = 37 by omega) with rfl | rfl | rfl | rfl | rfl
  · exact cs33
  · exact cs34
  · exact cs35
  · exact cs36
  · exact cs37
def fX5_readValue_B122 (L : List Nat) (z0 : Int32) (st : St) : Option (Int32 × St) := br (st.2.2 40 1) (fun r1 => gd (okRb L r1) (br (fX4_put r1 z0 st) (fun s5 => br (fX7_step s5) (fun s7 => some ((1 : Int32), s7)))))
set_option maxRecDepth 100000 in
theorem wX5_readValue_B122 {p : Program} {l : Launch} {e : Env} {s : State} {m : MethodId} {args : Array Value} {below : List Frame} {meth : Method} {c : Code} {E : Ev} (hL : ∀ k, fxC k = true → k ∈ eL E) {L : List Nat} (hLL : L = eL E) {sz : Nat} {res : (Int32 × St)} (X : CX p s m args c E RX5 cX5_readValue 2 (Af E sz)) (hr : meth.sig.returnType = (some .boolean)) (hlk : meth.locks = false) : ∀ (z0 : Int32) (st : St) (H : Heap) (locs : List Loc), fX5_readValue_B122 L  z0 st = some res → Gd E st (Af E sz) s H locs → ∀ ls : Array Slot, lv_has ls 2 [(0, .ref (eq E 40))] → W p l e (rmk 1) s m args below meth c H locs 0 0 (MQ below (QWi E res.2 sz res.1) args s 0 0 (Af E sz)) (F0 m 122 ls [.int z0, va_rf ((st.2.2 40 1).map E.2.2.2.1)]) := by
  have hx := X.1.1
  have hb := X.1.2.1
  intro z0 st H locs hf G ls hl
  unfold fX5_readValue_B122 at hf
  obtain ⟨r1, h2, hf⟩ := br_s hf
  obtain ⟨h3, hf⟩ := gd_s hf
  rw [h2]
  obtain ⟨s5, h4, hf⟩ := br_s hf
  refine cVWv (As := [.int z0]) (rest := []) X G kc_X5_63 (tX4_put l E st _ hL (okRb_s hLL h3) z0 h4) (rcv X G (((okRb_s hLL h3) 0 (by decide)).2 (by decide)) (cO4 ((okRb_s hLL h3) 0 (by decide)).1) rfl) rfl rfl (rmk_le (by omega) (by decide)) rfl hl.1 rfl (Nat.le_of_ble_eq_true rfl) dX5_readValue_122 ⟨Nat.zero_le _, Nat.zero_le _⟩ (fun H locs G => ?_)
  refine lv_aload_n hx hb dX5_readValue_125 rfl (lv_at hl 0 rfl) ?_
  refine gf5 X G (hL 40 rfl) rfl 0 (by decide) rfl kf_X5_25 iwX5 dX5_readValue_126 ?_
  obtain ⟨s7, h6, hf⟩ := br_s hf
  refine cVWv (As := []) (rest := []) X G kc_X5_48 (tX7_step l E s5 _ hL   h6) (rcv X G (hL 20 rfl) (cO7 rfl) rfl) rfl rfl (rmk_le (by omega) (by decide)) rfl hl.1 rfl (Nat.le_of_ble_eq_true rfl) dX5_readValue_129 ⟨Nat.zero_le _, Nat.zero_le _⟩ (fun H locs G => ?_)
  refine lv_iconst (v := (1 : Int32)) hx hb dX5_readValue_132 (by decide) ?_
  exact rtWz X hlk G hr rfl (so_i hf) dX5_readValue_133
def fX5_readValue_B52 (L : List Nat) (y1 : Int32) (st : St) : Option (Int32 × St) := if (st.1 20 5) = (22 : Int32) then (bw (fX5_fail (1 : Int32) st) (fun x4 s3 => gd (bz x4) (some (x4, s3)))) else (if (st.1 40 2) < (60 : Int32) then (nm (ui st 40 2 ((st.1 40 2) + (1 : Int32))) (fun s3 => if y1 = 0 then (fX5_readValue_B122 L (s3.1 20 7) s3) else (fX5_readValue_B122 L ((-1 : Int32) - (s3.1 20 5)) s3))) else (bw (fX5_fail (3 : Int32) st) (fun x5 s4 => gd (bz x5) (some (x5, s4)))))
set_option maxRecDepth 100000 in
theorem wX5_readValue_B52 {p : Program} {l : Launch} {e : Env} {s : State} {m : MethodId} {args : Array Value} {below : List Frame} {meth : Method} {c : Code} {E : Ev} (hL : ∀ k, fxC k = true → k ∈ eL E) {L : List Nat} (hLL : L = eL E) {sz : Nat} {res : (Int32 × St)} (X : CX p s m args c E RX5 cX5_readValue 2 (Af E sz)) (hr : meth.sig.returnType = (some .boolean)) (hlk : meth.locks = false) : ∀ (y1 : Int32) (st : St) (H : Heap) (locs : List Loc), fX5_readValue_B52 L  y1 st = some res → Gd E st (Af E sz) s H locs → ∀ ls : Array Slot, lv_has ls 2 [(0, .ref (eq E 40)), (1, .int y1)] → W p l e (rmk 1) s m args below meth c H locs 0 0 (MQ below (QWi E res.2 sz res.1) args s 0 0 (Af E sz)) (F0 m 52 ls []) := by
  have hx := X.1.1
  have hb := X.1.2.1
  intro y1 st H locs hf G ls hl
  unfold fX5_readValue_B52 at hf
  refine lv_aload_n hx hb dX5_readValue_52 rfl (lv_at hl 0 rfl) ?_
  refine gf5 X G (hL 40 rfl) rfl 0 (by decide) rfl kf_X5_25 iwX5 dX5_readValue_53 ?_
  refine gf7 X G (hL 20 rfl) rfl 5 (by decide) rfl kf_X5_43 iwX7 dX5_readValue_56 ?_
  refine lv_bipush (v := (22 : Int32)) hx hb dX5_readValue_59 (by decide) ?_
  refine lv_icmp_ne (tgt := 70) hx hb dX5_readValue_61 (by decide) (fun c1 => ?_) (fun c1 => ?_)
  · have hf := it_f hf c1
    refine lv_aload_n hx hb dX5_readValue_70 rfl (lv_at hl 0 rfl) ?_
    refine gf5 X G (hL 40 rfl) rfl 2 (by decide) rfl kf_X5_18 iwX5 dX5_readValue_71 ?_
    refine lv_bipush (v := (60 : Int32)) hx hb dX5_readValue_74 (by decide) ?_
    refine lv_icmp_lt (tgt := 85) hx hb dX5_readValue_76 (by decide) (fun c2 => ?_) (fun c2 => ?_)
    · have hf := it_t hf c2
      refine lv_aload_n hx hb dX5_readValue_85 rfl (lv_at hl 0 rfl) ?_
      refine lv_dup hx hb dX5_readValue_86 rfl ?_
      refine gf5 X G (hL 40 rfl) rfl 2 (by decide) rfl kf_X5_18 iwX5 dX5_readValue_87 ?_
      refine lv_iconst (v := (1 : Int32)) hx hb dX5_readValue_90 (by decide) ?_
      refine lv_iadd hx hb dX5_readValue_91 ?_
      refine pf5 X G (hL 40 rfl) rfl 2 (by decide) ps5_2 uio kf_X5_18 iwX5 rfl (ty := .int) (by decide +kernel) rfl rfl dX5_readValue_92 (fun s3 es3 H locs G => ?_)
      have hf := nm_s hf s3 es3
      refine lv_aload_n hx hb dX5_readValue_95 rfl (lv_at hl 0 rfl) ?_
      refine gf5 X G (hL 40 rfl) rfl 1 (by decide) rfl kf_X5_12 iwX5 dX5_readValue_96 ?_
      refine lv_iload_n hx hb dX5_readValue_99 rfl (lv_at hl 1 rfl) ?_
      refine lv_if_eq (tgt := 115) hx hb dX5_readValue_100 (by decide) (fun c4 => ?_) (fun c4 => ?_)
      · have hf := it_t hf c4
        refine lv_aload_n hx hb dX5_readValue_115 rfl (lv_at hl 0 rfl) ?_
        refine gf5 X G (hL 40 rfl) rfl 0 (by decide) rfl kf_X5_25 iwX5 dX5_readValue_116 ?_
        refine gf7 X G (hL 20 rfl) rfl 7 (by decide) rfl kf_X5_80 iwX7 dX5_readValue_119 ?_
        exact wX5_readValue_B122 hL hLL X hr hlk (s3.1 20 7) s3 _ _ hf G _ (lv_sub hl [0] rfl)
      · have hf := it_f hf c4
        refine lv_iconst (v := (-1 : Int32)) hx hb dX5_readValue_103 (by decide) ?_
        refine lv_aload_n hx hb dX5_readValue_104 rfl (lv_at hl 0 rfl) ?_
        refine gf5 X G (hL 40 rfl) rfl 0 (by decide) rfl kf_X5_25 iwX5 dX5_readValue_105 ?_
        refine gf7 X G (hL 20 rfl) rfl 5 (by decide) rfl kf_X5_43 iwX7 dX5_readValue_108 ?_
        refine lv_isub hx hb dX5_readValue_111 ?_
        refine lv_goto (tgt := 122) hx hb dX5_readValue_112 (by decide) ?_
        exact wX5_readValue_B122 hL hLL X hr hlk ((-1 : Int32) - (s3.1 20 5)) s3 _ _ hf G _ (lv_sub hl [0] rfl)
    · have hf := it_f hf c2
      refine lv_aload_n hx hb dX5_readValue_79 rfl (lv_at hl 0 rfl) ?_
      refine lv_iconst (v := (3 : Int32)) hx hb dX5_readValue_80 (by decide) ?_
      obtain ⟨x5, s4, h3, hf⟩ := bw_s hf
      refine cVWi (As := [.int (3 : Int32)]) (rest := []) X G kc_X5_57 (tX5_fail l E st _ hL  (3 : Int32) h3) (rcv X G (hL 40 rfl) (cO5 rfl) rfl) rfl rfl (rmk_le (by omega) (by decide)) rfl hl.1 rfl (Nat.le_of_ble_eq_true rfl) dX5_readValue_81 ⟨Nat.zero_le _, Nat.zero_le _⟩ (fun H locs G => ?_)
      obtain ⟨h6, hf⟩ := gd_s hf
      exact rtWz X hlk G hr (bz_n h6) (so_i hf) dX5_readValue_84
  · have hf := it_t hf c1
    refine lv_aload_n hx hb dX5_readValue_64 rfl (lv_at hl 0 rfl) ?_
    refine lv_iconst (v := (1 : Int32)) hx hb dX5_readValue_65 (by decide) ?_
    obtain ⟨x4, s3, h2, hf⟩ := bw_s hf
    refine cVWi (As := [.int (1 : Int32)]) (rest := []) X G kc_X5_57 (tX5_fail l E st _ hL  (1 : Int32) h2) (rcv X G (hL 40 rfl) (cO5 rfl) rfl) rfl rfl (rmk_le (by omega) (by decide)) rfl hl.1 rfl (Nat.le_of_ble_eq_true rfl) dX5_readValue_66 ⟨Nat.zero_le _, Nat.zero_le _⟩ (fun H locs G => ?_)
    obtain ⟨h5, hf⟩ := gd_s hf
    exact rtWz X hlk G hr (bz_n h5) (so_i hf) dX5_readValue_69
def fX5_readValue_B17 (L : List Nat) (z0 : Int32) (st : St) : Option (Int32 × St) := if z0 = 0 then (if (st.1 20 5) = (21 : Int32) then (fX5_readValue_B52 L z0 st) else (if (st.1 20 5) = (22 : Int32) then (fX5_readValue_B52 L z0 st) else (bw (fX5_fail (0 : Int32) st) (fun x6 s5 => gd (bz x6) (some (x6, s5)))))) else (fX5_readValue_B52 L z0 st)
set_option maxRecDepth 100000 in
theorem wX5_readValue_B17 {p : Program} {l : Launch} {e : Env} {s : State} {m : MethodId} {args : Array Value} {below : List Frame} {meth : Method} {c : Code} {E : Ev} (hL : ∀ k, fxC k = true → k ∈ eL E) {L : List Nat} (hLL : L = eL E) {sz : Nat} {res : (Int32 × St)} (X : CX p s m args c E RX5 cX5_readValue 2 (Af E sz)) (hr : meth.sig.returnType = (some .boolean)) (hlk : meth.locks = false) : ∀ (z0 : Int32) (st : St) (H : Heap) (locs : List Loc), fX5_readValue_B17 L  z0 st = some res → Gd E st (Af E sz) s H locs → ∀ ls : Array Slot, lv_has ls 2 [(0, .ref (eq E 40))] → W p l e (rmk 1) s m args below meth c H locs 0 0 (MQ below (QWi E res.2 sz res.1) args s 0 0 (Af E sz)) (F0 m 17 ls [.int z0]) := by
  have hx := X.1.1
  have hb := X.1.2.1
  intro z0 st H locs hf G ls hl
  unfold fX5_readValue_B17 at hf
  refine lv_istore_n (lv' := [(1, .int z0), (0, .ref (eq E 40))]) hx hb dX5_readValue_17 rfl hl (by decide) rfl (fun ls hl => ?_)
  refine lv_iload_n hx hb dX5_readValue_18 rfl (lv_at hl 0 rfl) ?_
  refine lv_if_ne (tgt := 52) hx hb dX5_readValue_19 (by decide) (fun c1 => ?_) (fun c1 => ?_)
  · have hf := it_f hf c1
    exact wX5_readValue_B52 hL hLL X hr hlk z0 st _ _ hf G _ (lv_sub hl [1, 0] rfl)
  · have hf := it_t hf c1
    refine lv_aload_n hx hb dX5_readValue_22 rfl (lv_at hl 1 rfl) ?_
    refine gf5 X G (hL 40 rfl) rfl 0 (by decide) rfl kf_X5_25 iwX5 dX5_readValue_23 ?_
    refine gf7 X G (hL 20 rfl) rfl 5 (by decide) rfl kf_X5_43 iwX7 dX5_readValue_26 ?_
    refine lv_bipush (v := (21 : Int32)) hx hb dX5_readValue_29 (by decide) ?_
    refine lv_icmp_eq (tgt := 52) hx hb dX5_readValue_31 (by decide) (fun c2 => ?_) (fun c2 => ?_)
    · have hf := it_t hf c2
      exact wX5_readValue_B52 hL hLL X hr hlk z0 st _ _ hf G _ (lv_sub hl [1, 0] rfl)
    · have hf := it_f hf c2
      refine lv_aload_n hx hb dX5_readValue_34 rfl (lv_at hl 1 rfl) ?_
      refine gf5 X G (hL 40 rfl) rfl 0 (by decide) rfl kf_X5_25 iwX5 dX5_readValue_35 ?_
      refine gf7 X G (hL 20 rfl) rfl 5 (by decide) rfl kf_X5_43 iwX7 dX5_readValue_38 ?_
      refine lv_bipush (v := (22 : Int32)) hx hb dX5_readValue_41 (by decide) ?_
      refine lv_icmp_eq (tgt := 52) hx hb dX5_readValue_43 (by decide) (fun c3 => ?_) (fun c3 => ?_)
      · have hf := it_t hf c3
        exact wX5_readValue_B52 hL hLL X hr hlk z0 st _ _ hf G _ (lv_sub hl [1, 0] rfl)
      · have hf := it_f hf c3
        refine lv_aload_n hx hb dX5_readValue_46 rfl (lv_at hl 1 rfl) ?_
        refine lv_iconst (v := (0 : Int32)) hx hb dX5_readValue_47 (by decide) ?_
        obtain ⟨x6, s5, h4, hf⟩ := bw_s hf
        refine cVWi (As := [.int (0 : Int32)]) (rest := []) X G kc_X5_57 (tX5_fail l E st _ hL  (0 : Int32) h4) (rcv X G (hL 40 rfl) (cO5 rfl) rfl) rfl rfl (rmk_le (by omega) (by decide)) rfl hl.1 rfl (Nat.le_of_ble_eq_true rfl) dX5_readValue_48 ⟨Nat.zero_le _, Nat.zero_le _⟩ (fun H locs G => ?_)
        obtain ⟨h7, hf⟩ := gd_s hf
        exact rtWz X hlk G hr (bz_n h7) (so_i hf) dX5_readValue_51
def fX5_readValue (L : List Nat) (st : St) : Option (Int32 × St) := if (12 : Int32) ≤ (st.1 20 5) then (fX5_readValue_B17 L (0 : Int32) st) else (fX5_readValue_B17 L (1 : Int32) st)
set_option maxRecDepth 100000 in
theorem tX5_readValue (l : Launch) (E : Ev) (st : St) (sz : Nat) (hL : ∀ k, fxC k = true → k ∈ eL E) {L : List Nat} (hLL : L = eL E)  {res : (Int32 × St)} (hf : fX5_readValue L  st = some res) : Met l yX5_readValue (.code yX5_readValue cX5_readValue 2 (some .boolean) :: uW) (rmk 1) (va_Pc [.ref (eq E 40)] (Pre E st sz)) (QWi E res.2 sz res.1) 0 0 (Af E sz) := by
  refine Met_in (by decide) (Nat.le_of_ble_eq_true rfl) ?_
  intro p e s m below meth c X hr hlk hz G ls hl
  have hx := X.1.1
  have hb := X.1.2.1
  have hl : lv_has ls 2 [(0, .ref (eq E 40))] := hl
  unfold fX5_readValue at hf
  refine lv_aload_n hx hb dX5_readValue_0 rfl (lv_at hl 0 rfl) ?_
  refine gf5 X G (hL 40 rfl) rfl 0 (by decide) rfl kf_X5_25 iwX5 dX5_readValue_1 ?_
  refine gf7 X G (hL 20 rfl) rfl 5 (by decide) rfl kf_X5_43 iwX7 dX5_readValue_4 ?_
  refine lv_bipush (v := (12 : Int32)) hx hb dX5_readValue_7 (by decide) ?_
  refine lv_icmp_ge (tgt := 16) hx hb dX5_readValue_9 (by decide) (fun c1 => ?_) (fun c1 => ?_)
  · have hf := it_t hf c1
    refine lv_iconst (v := (0 : Int32)) hx hb dX5_readValue_16 (by decide) ?_
    exact wX5_readValue_B17 hL hLL X hr hlk (0 : Int32) st _ _ hf G _ (lv_sub hl [0] rfl)
  · have hf := it_f hf c1
    refine lv_iconst (v := (1 : Int32)) hx hb dX5_readValue_12 (by decide) ?_
    refine lv_goto (tgt := 17) hx hb dX5_readValue_13 (by decide) ?_
    exact wX5_readValue_B17 hL hLL X hr hlk (1 : Int32) st _ _ hf G _ (lv_sub hl [0] rfl)
def fX5_readSum_B91 (L : List Nat) (k13 : Int32 → Int32 → St → Option (Int32 × St)) (y1 : Int32) (y2 : Int32) (y3 : Int32) (y4 : Int32) (st : St) : Option (Int32 × St) := br (fX7_step st) (fun s2 => bw (fX5_readValue L s2) (fun x5 s4 => if x5 = 0 then (some ((0 : Int32), s4)) else (if y4 = 0 then (nm (y2 + (1 : Int32)) (fun x8 => k13 y3 x8 s4)) else (br (s4.2.2 40 1) (fun r8 => gd (okRb L r8) (br (fX4_put r8 (-y3) s4) (fun s12 => nm (y2 + (1 : Int32)) (fun x13 => k13 y1 x13 s12))))))))
set_option maxRecDepth 100000 in
theorem wX5_readSum_B91 {p : Program} {l : Launch} {e : Env} {s : State} {m : MethodId} {args : Array Value} {below : List Frame} {meth : Method} {c : Code} {E : Ev} (hL : ∀ k, fxC k = true → k ∈ eL E) {L : List Nat} (hLL : L = eL E) {sz : Nat} {res : (Int32 × St)} (X : CX p s m args c E RX5 cX5_readSum 5 (Af E sz)) (hr : meth.sig.returnType = (some .boolean)) (hlk : meth.locks = false) {k13 : Int32 → Int32 → St → Option (Int32 × St)} (hk13 : ∀ (y1 : Int32) (y2 : Int32) (st : St) (H : Heap) (locs : List Loc), k13 y1 y2 st = some res → Gd E st (Af E sz) s H locs → ∀ ls : Array Slot, lv_has ls 5 [(0, .ref (eq E 40)), (1, .int y1), (2, .int y2)] → W p l e (rmk 2) s m args below meth c H locs 0 0 (MQ below (QWi E res.2 sz res.1) args s 0 0 (Af E sz)) (F0 m 13 ls [])) : ∀ (y1 : Int32) (y2 : Int32) (y3 : Int32) (y4 : Int32) (st : St) (H : Heap) (locs : List Loc), fX5_readSum_B91 L k13 y1 y2 y3 y4 st = some res → Gd E st (Af E sz) s H locs → ∀ ls : Array Slot, lv_has ls 5 [(0, .ref (eq E 40)), (1, .int y1), (2, .int y2), (3, .int y3), (4, .int y4)] → W p l e (rmk 2) s m args below meth c H locs 0 0 (MQ below (QWi E res.2 sz res.1) args s 0 0 (Af E sz)) (F0 m 91 ls []) := by
  have hx := X.1.1
  have hb := X.1.2.1
  intro y1 y2 y3 y4 st H locs hf G ls hl
  unfold fX5_readSum_B91 at hf
  refine lv_aload_n hx hb dX5_readSum_91 rfl (lv_at hl 0 rfl) ?_
  refine gf5 X G (hL 40 rfl) rfl 0 (by decide) rfl kf_X5_25 iwX5 dX5_readSum_92 ?_
  obtain ⟨s2, h1, hf⟩ := br_s hf
  refine cVWv (As := []) (rest := []) X G kc_X5_48 (tX7_step l E st _ hL   h1) (rcv X G (hL 20 rfl) (cO7 rfl) rfl) rfl rfl (rmk_le (by omega) (by decide)) rfl hl.1 rfl (Nat.le_of_ble_eq_true rfl) dX5_readSum_95 ⟨Nat.zero_le _, Nat.zero_le _⟩ (fun H locs G => ?_)
  refine lv_aload_n hx hb dX5_readSum_98 rfl (lv_at hl 0 rfl) ?_
  obtain ⟨x5, s4, h3, hf⟩ := bw_s hf
  refine cVWi (As := []) (rest := []) X G kc_X5_77 (tX5_readValue l E s2 _ hL hLL  h3) (rcv X G (hL 40 rfl) (cO5 rfl) rfl) rfl rfl (rmk_le (by omega) (by decide)) rfl hl.1 rfl (Nat.le_of_ble_eq_true rfl) dX5_readSum_99 ⟨Nat.zero_le _, Nat.zero_le _⟩ (fun H locs G => ?_)
  refine lv_if_ne (tgt := 107) hx hb dX5_readSum_102 (by decide) (fun c6 => ?_) (fun c6 => ?_)
  · have hf := it_f hf c6
    refine lv_iload hx hb dX5_readSum_107 (lv_at hl 4 rfl) ?_
    refine lv_if_eq (tgt := 124) hx hb dX5_readSum_109 (by decide) (fun c7 => ?_) (fun c7 => ?_)
    · have hf := it_t hf c7
      refine lv_iload_n hx hb dX5_readSum_124 rfl (lv_at hl 3 rfl) ?_
      refine lv_istore_n (lv' := [(1, .int y3), (0, .ref (eq E 40)), (2, .int y2), (3, .int y3), (4, .int y4)]) hx hb dX5_readSum_125 rfl hl (by decide) rfl (fun ls hl => ?_)
      obtain ⟨x8, ex8⟩ : ∃ y : Int32, y = (y2 + (1 : Int32)) := ⟨_, rfl⟩
      have hf := nm_s hf x8 ex8
      refine lv_iinc (k := 2) (v := x8) (lv' := [(2, .int x8), (1, .int y3), (0, .ref (eq E 40)), (3, .int y3), (4, .int y4)]) hx hb dX5_readSum_126 hl rfl (by rw [ex8]; rfl) (by decide) rfl (fun ls hl => ?_)
      refine lv_goto (tgt := 13) hx hb dX5_readSum_129 (by decide) ?_
      exact hk13 y3 x8 s4 _ _ hf G _ (lv_sub hl [2, 1, 0] rfl)
    · have hf := it_f hf c7
      refine lv_aload_n hx hb dX5_readSum_112 rfl (lv_at hl 0 rfl) ?_
      refine gf5 X G (hL 40 rfl) rfl 1 (by decide) rfl kf_X5_12 iwX5 dX5_readSum_113 ?_
      obtain ⟨r8, h9, hf⟩ := br_s hf
      obtain ⟨h10, hf⟩ := gd_s hf
      rw [h9]
      refine lv_iload_n hx hb dX5_readSum_116 rfl (lv_at hl 3 rfl) ?_
      refine lv_ineg hx hb dX5_readSum_117 ?_
      obtain ⟨s12, h11, hf⟩ := br_s hf
      refine cVWv (As := [.int (-y3)]) (rest := []) X G kc_X5_63 (tX4_put l E s4 _ hL (okRb_s hLL h10) (-y3) h11) (rcv X G (((okRb_s hLL h10) 0 (by decide)).2 (by decide)) (cO4 ((okRb_s hLL h10) 0 (by decide)).1) rfl) rfl rfl (rmk_le (by omega) (by decide)) rfl hl.1 rfl (Nat.le_of_ble_eq_true rfl) dX5_readSum_118 ⟨Nat.zero_le _, Nat.zero_le _⟩ (fun H locs G => ?_)
      refine lv_goto (tgt := 126) hx hb dX5_readSum_121 (by decide) ?_
      obtain ⟨x13, ex13⟩ : ∃ y : Int32, y = (y2 + (1 : Int32)) := ⟨_, rfl⟩
      have hf := nm_s hf x13 ex13
      refine lv_iinc (k := 2) (v := x13) (lv' := [(2, .int x13), (0, .ref (eq E 40)), (1, .int y1), (3, .int y3), (4, .int y4)]) hx hb dX5_readSum_126 hl rfl (by rw [ex13]; rfl) (by decide) rfl (fun ls hl => ?_)
      refine lv_goto (tgt := 13) hx hb dX5_readSum_129 (by decide) ?_
      exact hk13 y1 x13 s12 _ _ hf G _ (lv_sub hl [1, 2, 0] rfl)
  · have hf := it_t hf c6
    refine lv_iconst (v := (0 : Int32)) hx hb dX5_readSum_105 (by decide) ?_
    exact rtWz X hlk G hr rfl (so_i hf) dX5_readSum_106
def fX5_readSum_B72 (L : List Nat) (k13 : Int32 → Int32 → St → Option (Int32 × St)) (y1 : Int32) (y2 : Int32) (y3 : Int32) (y4 : Int32) (st : St) : Option (Int32 × St) := if y4 = 0 then (if y3 = (26 : Int32) then (fX5_readSum_B91 L k13 y1 y2 y3 y4 st) else (if y3 = (27 : Int32) then (fX5_readSum_B91 L k13 y1 y2 y3 y4 st) else (some ((1 : Int32), st)))) else (fX5_readSum_B91 L k13 y1 y2 y3 y4 st)
set_option maxRecDepth 100000 in
theorem wX5_readSum_B72 {p : Program} {l : Launch} {e : Env} {s : State} {m : MethodId} {args : Array Value} {below : List Frame} {meth : Method} {c : Code} {E : Ev} (hL : ∀ k, fxC k = true → k ∈ eL E) {L : List Nat} (hLL : L = eL E) {sz : Nat} {res : (Int32 × St)} (X : CX p s m args c E RX5 cX5_readSum 5 (Af E sz)) (hr : meth.sig.returnType = (some .boolean)) (hlk : meth.locks = false) {k13 : Int32 → Int32 → St → Option (Int32 × St)} (hk13 : ∀ (y1 : Int32) (y2 : Int32) (st : St) (H : Heap) (locs : List Loc), k13 y1 y2 st = some res → Gd E st (Af E sz) s H locs → ∀ ls : Array Slot, lv_has ls 5 [(0, .ref (eq E 40)), (1, .int y1), (2, .int y2)] → W p l e (rmk 2) s m args below meth c H locs 0 0 (MQ below (QWi E res.2 sz res.1) args s 0 0 (Af E sz)) (F0 m 13 ls [])) : ∀ (y1 : Int32) (y2 : Int32) (y3 : Int32) (y4 : Int32) (st : St) (H : Heap) (locs : List Loc), fX5_readSum_B72 L k13 y1 y2 y3 y4 st = some res → Gd E st (Af E sz) s H locs → ∀ ls : Array Slot, lv_has ls 5 [(0, .ref (eq E 40)), (1, .int y1), (2, .int y2), (3, .int y3), (4, .int y4)] → W p l e (rmk 2) s m args below meth c H locs 0 0 (MQ below (QWi E res.2 sz res.1) args s 0 0 (Af E sz)) (F0 m 72 ls []) := by
  have hx := X.1.1
  have hb := X.1.2.1
  intro y1 y2 y3 y4 st H locs hf G ls hl
  unfold fX5_readSum_B72 at hf
  refine lv_iload hx hb dX5_readSum_72 (lv_at hl 4 rfl) ?_
  refine lv_if_ne (tgt := 91) hx hb dX5_readSum_74 (by decide) (fun c1 => ?_) (fun c1 => ?_)
  · have hf := it_f hf c1
    exact wX5_readSum_B91 hL hLL X hr hlk hk13 y1 y2 y3 y4 st _ _ hf G _ (lv_sub hl [0, 1, 2, 3, 4] rfl)
  · have hf := it_t hf c1
    refine lv_iload_n hx hb dX5_readSum_77 rfl (lv_at hl 3 rfl) ?_
    refine lv_bipush (v := (26 : Int32)) hx hb dX5_readSum_78 (by decide) ?_
    refine lv_icmp_eq (tgt := 91) hx hb dX5_readSum_80 (by decide) (fun c2 => ?_) (fun c2 => ?_)
    · have hf := it_t hf c2
      exact wX5_readSum_B91 hL hLL X hr hlk hk13 y1 y2 y3 y4 st _ _ hf G _ (lv_sub hl [0, 1, 2, 3, 4] rfl)
    · have hf := it_f hf c2
      refine lv_iload_n hx hb dX5_readSum_83 rfl (lv_at hl 3 rfl) ?_
      refine lv_bipush (v := (27 : Int32)) hx hb dX5_readSum_84 (by decide) ?_
      refine lv_icmp_eq (tgt := 91) hx hb dX5_readSum_86 (by decide) (fun c3 => ?_) (fun c3 => ?_)
      · have hf := it_t hf c3
        exact wX5_readSum_B91 hL hLL X hr hlk hk13 y1 y2 y3 y4 st _ _ hf G _ (lv_sub hl [0, 1, 2, 3, 4] rfl)
      · have hf := it_f hf c3
        refine lv_iconst (v := (1 : Int32)) hx hb dX5_readSum_89 (by decide) ?_
        exact rtWz X hlk G hr rfl (so_i hf) dX5_readSum_90
def fX5_readSum_B51 (L : List Nat) (k13 : Int32 → Int32 → St → Option (Int32 × St)) (y1 : Int32) (y2 : Int32) (y3 : Int32) (z0 : Int32) (st : St) : Option (Int32 × St) := if z0 = 0 then (if y1 = (-1 : Int32) then (fX5_readSum_B72 L k13 y1 y2 y3 z0 st) else (br (st.2.2 40 1) (fun r3 => gd (okRb L r3) (br (fX4_put r3 (-y1) st) (fun s7 => fX5_readSum_B72 L k13 y1 y2 y3 z0 s7))))) else (fX5_readSum_B72 L k13 y1 y2 y3 z0 st)
set_option maxRecDepth 100000 in
theorem wX5_readSum_B51 {p : Program} {l : Launch} {e : Env} {s : State} {m : MethodId} {args : Array Value} {below : List Frame} {meth : Method} {c : Code} {E : Ev} (hL : ∀ k, fxC k = true → k ∈ eL E) {L : List Nat} (hLL : L = eL E) {sz : Nat} {res : (Int32 × St)} (X : CX p s m args c E RX5 cX5_readSum 5 (Af E sz)) (hr : meth.sig.returnType = (some .boolean)) (hlk : meth.locks = false) {k13 : Int32 → Int32 → St → Option (Int32 × St)} (hk13 : ∀ (y1 : Int32) (y2 : Int32) (st : St) (H : Heap) (locs : List Loc), k13 y1 y2 st = some res → Gd E st (Af E sz) s H locs → ∀ ls : Array Slot, lv_has ls 5 [(0, .ref (eq E 40)), (1, .int y1), (2, .int y2)] → W p l e (rmk 2) s m args below meth c H locs 0 0 (MQ below (QWi E res.2 sz res.1) args s 0 0 (Af E sz)) (F0 m 13 ls [])) : ∀ (y1 : Int32) (y2 : Int32) (y3 : Int32) (z0 : Int32) (st : St) (H : Heap) (locs : List Loc), fX5_readSum_B51 L k13 y1 y2 y3 z0 st = some res → Gd E st (Af E sz) s H locs → ∀ ls : Array Slot, lv_has ls 5 [(0, .ref (eq E 40)), (1, .int y1), (2, .int y2), (3, .int y3)] → W p l e (rmk 2) s m args below meth c H locs 0 0 (MQ below (QWi E res.2 sz res.1) args s 0 0 (Af E sz)) (F0 m 51 ls [.int z0]) := by
  have hx := X.1.1
  have hb := X.1.2.1
  intro y1 y2 y3 z0 st H locs hf G ls hl
  unfold fX5_readSum_B51 at hf
  refine lv_istore (lv' := [(4, .int z0), (0, .ref (eq E 40)), (1, .int y1), (2, .int y2), (3, .int y3)]) hx hb dX5_readSum_51 hl (by decide) rfl (fun ls hl => ?_)
  refine lv_iload hx hb dX5_readSum_53 (lv_at hl 0 rfl) ?_
  refine lv_if_ne (tgt := 72) hx hb dX5_readSum_55 (by decide) (fun c1 => ?_) (fun c1 => ?_)
  · have hf := it_f hf c1
    exact wX5_readSum_B72 hL hLL X hr hlk hk13 y1 y2 y3 z0 st _ _ hf G _ (lv_sub hl [1, 2, 3, 4, 0] rfl)
  · have hf := it_t hf c1
    refine lv_iload_n hx hb dX5_readSum_58 rfl (lv_at hl 2 rfl) ?_
    refine lv_iconst (v := (-1 : Int32)) hx hb dX5_readSum_59 (by decide) ?_
    refine lv_icmp_eq (tgt := 72) hx hb dX5_readSum_60 (by decide) (fun c2 => ?_) (fun c2 => ?_)
    · have hf := it_t hf c2
      exact wX5_readSum_B72 hL hLL X hr hlk hk13 y1 y2 y3 z0 st _ _ hf G _ (lv_sub hl [1, 2, 3, 4, 0] rfl)
    · have hf := it_f hf c2
      refine lv_aload_n hx hb dX5_readSum_63 rfl (lv_at hl 1 rfl) ?_
      refine gf5 X G (hL 40 rfl) rfl 1 (by decide) rfl kf_X5_12 iwX5 dX5_readSum_64 ?_
      obtain ⟨r3, h4, hf⟩ := br_s hf
      obtain ⟨h5, hf⟩ := gd_s hf
      rw [h4]
      refine lv_iload_n hx hb dX5_readSum_67 rfl (lv_at hl 2 rfl) ?_
      refine lv_ineg hx hb dX5_readSum_68 ?_
      obtain ⟨s7, h6, hf⟩ := br_s hf
      refine cVWv (As := [.int (-y1)]) (rest := []) X G kc_X5_63 (tX4_put l E st _ hL (okRb_s hLL h5) (-y1) h6) (rcv X G (((okRb_s hLL h5) 0 (by decide)).2 (by decide)) (cO4 ((okRb_s hLL h5) 0 (by decide)).1) rfl) rfl rfl (rmk_le (by omega) (by decide)) rfl hl.1 rfl (Nat.le_of_ble_eq_true rfl) dX5_readSum_69 ⟨Nat.zero_le _, Nat.zero_le _⟩ (fun H locs G => ?_)
      exact wX5_readSum_B72 hL hLL X hr hlk hk13 y1 y2 y3 z0 s7 _ _ hf G _ (lv_sub hl [1, 2, 3, 4, 0] rfl)
def fX5_readSum_B46 (L : List Nat) (k13 : Int32 → Int32 → St → Option (Int32 × St)) (y1 : Int32) (y2 : Int32) (y3 : Int32) (st : St) : Option (Int32 × St) := fX5_readSum_B51 L k13 y1 y2 y3 (1 : Int32) st
set_option maxRecDepth 100000 in
theorem wX5_readSum_B46 {p : Program} {l : Launch} {e : Env} {s : State} {m : MethodId} {args : Array Value} {below : List Frame} {meth : Method} {c : Code} {E : Ev} (hL : ∀ k, fxC k = true → k ∈ eL E) {L : List Nat} (hLL : L = eL E) {sz : Nat} {res : (Int32 × St)} (X : CX p s m args c E RX5 cX5_readSum 5 (Af E sz)) (hr : meth.sig.returnType = (some .boolean)) (hlk : meth.locks = false) {k13 : Int32 → Int32 → St → Option (Int32 × St)} (hk13 : ∀ (y1 : Int32) (y2 : Int32) (st : St) (H : Heap) (locs : List Loc), k13 y1 y2 st = some res → Gd E st (Af E sz) s H locs → ∀ ls : Array Slot, lv_has ls 5 [(0, .ref (eq E 40)), (1, .int y1), (2, .int y2)] → W p l e (rmk 2) s m args below meth c H locs 0 0 (MQ below (QWi E res.2 sz res.1) args s 0 0 (Af E sz)) (F0 m 13 ls [])) : ∀ (y1 : Int32) (y2 : Int32) (y3 : Int32) (st : St) (H : Heap) (locs : List Loc), fX5_readSum_B46 L k13 y1 y2 y3 st = some res → Gd E st (Af E sz) s H locs → ∀ ls : Array Slot, lv_has ls 5 [(0, .ref (eq E 40)), (1, .int y1), (2, .int y2), (3, .int y3)] → W p l e (rmk 2) s m args below meth c H locs 0 0 (MQ below (QWi E res.2 sz res.1) args s 0 0 (Af E sz)) (F0 m 46 ls []) := by
  have hx := X.1.1
  have hb := X.1.2.1
  intro y1 y2 y3 st H locs hf G ls hl
  unfold fX5_readSum_B46 at hf
  refine lv_iconst (v := (1 : Int32)) hx hb dX5_readSum_46 (by decide) ?_
  refine lv_goto (tgt := 51) hx hb dX5_readSum_47 (by decide) ?_
  exact wX5_readSum_B51 hL hLL X hr hlk hk13 y1 y2 y3 (1 : Int32) st _ _ hf G _ (lv_sub hl [0, 1, 2, 3] rfl)
def fX5_readSum_L13 (L : List Nat) : Nat → Int32 → Int32 → St → Option (Int32 × St)
  | 0, _, _, _ => none
  | n + 1, y1, y2, st => if (400 : Int32) ≤ y2 then (some ((1 : Int32), st)) else (nm (st.1 20 5) (fun x2 => if x2 = (28 : Int32) then (fX5_readSum_B46 L (fX5_readSum_L13 L n) y1 y2 x2 st) else (if x2 = (29 : Int32) then (fX5_readSum_B46 L (fX5_readSum_L13 L n) y1 y2 x2 st) else (if x2 = (30 : Int32) then (fX5_readSum_B46 L (fX5_readSum_L13 L n) y1 y2 x2 st) else (fX5_readSum_B51 L (fX5_readSum_L13 L n) y1 y2 x2 (0 : Int32) st)))))
set_option maxRecDepth 100000 in
theorem wX5_readSum_L13 {p : Program} {l : Launch} {e : Env} {s : State} {m : MethodId} {args : Array Value} {below : List Frame} {meth : Method} {c : Code} {E : Ev} (hL : ∀ k, fxC k = true → k ∈ eL E) {L : List Nat} (hLL : L = eL E) {sz : Nat} {res : (Int32 × St)} (X : CX p s m args c E RX5 cX5_readSum 5 (Af E sz)) (hr : meth.sig.returnType = (some .boolean)) (hlk : meth.locks = false) : ∀ (n : Nat) (y1 : Int32) (y2 : Int32) (st : St) (H : Heap) (locs : List Loc), fX5_readSum_L13 L  n y1 y2 st = some res → Gd E st (Af E sz) s H locs → ∀ ls : Array Slot, lv_has ls 5 [(0, .ref (eq E 40)), (1, .int y1), (2, .int y2)] → W p l e (rmk 2) s m args below meth c H locs 0 0 (MQ below (QWi E res.2 sz res.1) args s 0 0 (Af E sz)) (F0 m 13 ls []) := by
  have hx := X.1.1
  have hb := X.1.2.1
  intro n
  induction n with
  | zero =>
    intro y1 y2 st H locs hf G ls hl
    cases (show (none : Option (Int32 × St)) = some res from hf)
  | succ n ih =>
    intro y1 y2 st H locs hf G ls hl
    rw [fX5_readSum_L13] at hf
    refine lv_iload_n hx hb dX5_readSum_13 rfl (lv_at hl 2 rfl) ?_
    refine lv_sipush (v := (400 : Int32)) hx hb dX5_readSum_14 (by decide) ?_
    refine lv_icmp_ge (tgt := 132) hx hb dX5_readSum_17 (by decide) (fun c1 => ?_) (fun c1 => ?_)
    · have hf := it_t hf c1
      refine lv_iconst (v := (1 : Int32)) hx hb dX5_readSum_132 (by decide) ?_
      exact rtWz X hlk G hr rfl (so_i hf) dX5_readSum_133
    · have hf := it_f hf c1
      refine lv_aload_n hx hb dX5_readSum_20 rfl (lv_at hl 0 rfl) ?_
      refine gf5 X G (hL 40 rfl) rfl 0 (by decide) rfl kf_X5_25 iwX5 dX5_readSum_21 ?_
      refine gf7 X G (hL 20 rfl) rfl 5 (by decide) rfl kf_X5_43 iwX7 dX5_readSum_24 ?_
      refine lv_topi (fun x2 ex2 => ?_)
      have hf := nm_s hf x2 ex2
      refine lv_istore_n (lv' := [(3, .int x2), (0, .ref (eq E 40)), (1, .int y1), (2, .int y2)]) hx hb dX5_readSum_27 rfl hl (by decide) rfl (fun ls hl => ?_)
      refine lv_iload_n hx hb dX5_readSum_28 rfl (lv_at hl 0 rfl) ?_
      refine lv_bipush (v := (28 : Int32)) hx hb dX5_readSum_29 (by decide) ?_
      refine lv_icmp_eq (tgt := 46) hx hb dX5_readSum_31 (by decide) (fun c3 => ?_) (fun c3 => ?_)
      · have hf := it_t hf c3
        exact wX5_readSum_B46 hL hLL X hr hlk ih y1 y2 x2 st _ _ hf G _ (lv_sub hl [1, 2, 3, 0] rfl)
      · have hf := it_f hf c3
        refine lv_iload_n hx hb dX5_readSum_34 rfl (lv_at hl 0 rfl) ?_
        refine lv_bipush (v := (29 : Int32)) hx hb dX5_readSum_35 (by decide) ?_
        refine lv_icmp_eq (tgt := 46) hx hb dX5_readSum_37 (by decide) (fun c4 => ?_) (fun c4 => ?_)
        · have hf := it_t hf c4
          exact wX5_readSum_B46 hL hLL X hr hlk ih y1 y2 x2 st _ _ hf G _ (lv_sub hl [1, 2, 3, 0] rfl)
        · have hf := it_f hf c4
          refine lv_iload_n hx hb dX5_readSum_40 rfl (lv_at hl 0 rfl) ?_
          refine lv_bipush (v := (30 : Int32)) hx hb dX5_readSum_41 (by decide) ?_
          refine lv_icmp_ne (tgt := 50) hx hb dX5_readSum_43 (by decide) (fun c5 => ?_) (fun c5 => ?_)
          · have hf := it_f hf c5
            refine lv_iconst (v := (0 : Int32)) hx hb dX5_readSum_50 (by decide) ?_
            exact wX5_readSum_B51 hL hLL X hr hlk ih y1 y2 x2 (0 : Int32) st _ _ hf G _ (lv_sub hl [1, 2, 3, 0] rfl)
          · have hf := it_t hf c5
            exact wX5_readSum_B46 hL hLL X hr hlk ih y1 y2 x2 st _ _ hf G _ (lv_sub hl [1, 2, 3, 0] rfl)
def fX5_readSum (L : List Nat) (st : St) : Option (Int32 × St) := bw (fX5_readValue L st) (fun x3 s2 => if x3 = 0 then (some ((0 : Int32), s2)) else (fX5_readSum_L13 L 10000 (-1 : Int32) (0 : Int32) s2))
set_option maxRecDepth 100000 in
theorem tX5_readSum (l : Launch) (E : Ev) (st : St) (sz : Nat) (hL : ∀ k, fxC k = true → k ∈ eL E) {L : List Nat} (hLL : L = eL E)  {res : (Int32 × St)} (hf : fX5_readSum L  st = some res) : Met l yX5_readSum (.code yX5_readSum cX5_readSum 5 (some .boolean) :: uW) (rmk 2) (va_Pc [.ref (eq E 40)] (Pre E st sz)) (QWi E res.2 sz res.1) 0 0 (Af E sz) := by
  refine Met_in (by decide) (Nat.le_of_ble_eq_true rfl) ?_
  intro p e s m below meth c X hr hlk hz G ls hl
  have hx := X.1.1
  have hb := X.1.2.1
  have hl : lv_has ls 5 [(0, .ref (eq E 40))] := hl
  unfold fX5_readSum at hf
  refine lv_iconst (v := (-1 : Int32)) hx hb dX5_readSum_0 (by decide) ?_
  refine lv_istore_n (lv' := [(1, .int (-1 : Int32)), (0, .ref (eq E 40))]) hx hb dX5_readSum_1 rfl hl (by decide) rfl (fun ls hl => ?_)
  refine lv_aload_n hx hb dX5_readSum_2 rfl (lv_at hl 1 rfl) ?_
  obtain ⟨x3, s2, h1, hf⟩ := bw_s hf
  refine cVWi (As := []) (rest := []) X G kc_X5_77 (tX5_readValue l E st _ hL hLL  h1) (rcv X G (hL 40 rfl) (cO5 rfl) rfl) rfl rfl (rmk_le (by omega) (by decide)) rfl hl.1 rfl (Nat.le_of_ble_eq_true rfl) dX5_readSum_3 ⟨Nat.zero_le _, Nat.zero_le _⟩ (fun H locs G => ?_)
  refine lv_if_ne (tgt := 11) hx hb dX5_readSum_6 (by decide) (fun c4 => ?_) (fun c4 => ?_)
  · have hf := it_f hf c4
    refine lv_iconst (v := (0 : Int32)) hx hb dX5_readSum_11 (by decide) ?_
    refine lv_istore_n (lv' := [(2, .int (0 : Int32)), (1, .int (-1 : Int32)), (0, .ref (eq E 40))]) hx hb dX5_readSum_12 rfl hl (by decide) rfl (fun ls hl => ?_)
    exact wX5_readSum_L13 hL hLL X hr hlk 10000 (-1 : Int32) (0 : Int32) s2 _ _ hf G _ (lv_sub hl [2, 1, 0] rfl)
  · have hf := it_t hf c4
    refine lv_iconst (v := (0 : Int32)) hx hb dX5_readSum_9 (by decide) ?_
    exact rtWz X hlk G hr rfl (so_i hf) dX5_readSum_10
def fX6_clear (st : St) : Option St := nm (ui st 80 4 (0 : Int32)) (fun s1 => some s1)
set_option maxRecDepth 100000 in
theorem tX6_clear (l : Launch) (E : Ev) (st : St) (sz : Nat) (hL : ∀ k, fxC k = true → k ∈ eL E)  {res : St} (hf : fX6_clear   st = some res) : Met l yX6_clear (.code yX6_clear cX6_clear 1 none :: uW) (rmk 0) (va_Pc [.ref (eq E 80)] (Pre E st sz)) (QWv E res sz) 0 0 (Af E sz) := by
  refine Met_in (by decide) (Nat.le_of_ble_eq_true rfl) ?_
  intro p e s m below meth c X hr hlk hz G ls hl
  have hx := X.1.1
  have hb := X.1.2.1
  have hl : lv_has ls 1 [(0, .ref (eq E 80))] := hl
  unfold fX6_clear at hf
  refine lv_aload_n hx hb dX6_clear_0 rfl (lv_at hl 0 rfl) ?_
  refine lv_iconst (v := (0 : Int32)) hx hb dX6_clear_1 (by decide) ?_
  refine pf6 X G (hL 80 rfl) rfl 4 (by decide) ps6_4 uio kf_X6_18 iwX6 rfl (ty := .int) (by decide +kernel) rfl rfl dX6_clear_2 (fun s1 es1 H locs G => ?_)
  have hf := nm_s hf s1 es1
  exact rtWv X hlk G hr (so_i hf) dX6_clear_5
def fX6_begin (o1 : Option Nat) (st : St) : Option St := nm (ur st 83 (va_cpy (st.1 147) (st.1 83) 0 0 41)) (fun s1 => br (fX8_follow o1 s1) (fun s3 => some s3))
set_option maxRecDepth 100000 in
theorem tX6_begin (l : Launch) (E : Ev) (st : St) (sz : Nat) (hL : ∀ k, fxC k = true → k ∈ eL E) {o1 : Option Nat}  {res : St} (hf : fX6_begin o1  st = some res) : Met l yX6_begin (.code yX6_begin cX6_begin 2 none :: uW) (rmk 1) (va_Pc [.ref (eq E 80), va_rf (o1.map E.2.2.2.1)] (Pre E st sz)) (QWv E res sz) 0 0 (Af E sz) := by
  refine Met_in (by decide) (by cases o1 <;> exact Nat.le_of_ble_eq_true rfl) ?_
  intro p e s m below meth c X hr hlk hz G ls hl
  have hx := X.1.1
  have hb := X.1.2.1
  have hl : lv_has ls 2 [(0, .ref (eq E 80)), (1, va_rf (o1.map E.2.2.2.1))] := by cases o1 <;> exact hl
  unfold fX6_begin at hf
  refine lv_aload_n hx hb dX6_begin_0 rfl (lv_at hl 0 rfl) ?_
  refine gf6 X G (hL 80 rfl) rfl 0 (by decide) rfl kf_X6_22 iwX6 dX6_begin_1 ?_
  refine gf2 X G (hL 120 rfl) rfl 0 (by decide) rfl kf_X6_48 iwX2 dX6_begin_4 ?_
  refine gf1 X G (hL 134 rfl) rfl 12 (by decide) rfl kf_X6_54 iwX1 dX6_begin_7 ?_
  refine lv_iconst (v := (0 : Int32)) hx hb dX6_begin_10 (by decide) ?_
  refine lv_aload_n hx hb dX6_begin_11 rfl (lv_at hl 0 rfl) ?_
  refine gf6 X G (hL 80 rfl) rfl 2 (by decide) rfl kf_X6_9 iwX6 dX6_begin_12 ?_
  refine lv_iconst (v := (0 : Int32)) hx hb dX6_begin_15 (by decide) ?_
  refine lv_bipush (v := (41 : Int32)) hx hb dX6_begin_16 (by decide) ?_
  refine a_copyc (k0 := 147) (n0 := 41) (k1 := 83) (n1 := 41) X G hl.1 (hL 147 rfl) (hL 83 rfl) rfl (by decide) rfl (by decide) km_X6_58 kn_acopy ks_acopy ki_System 0 0 41 (by decide) (rmk_1 (by omega)) (rmk_l (by omega) (Nat.le_of_ble_eq_true rfl)) dX6_begin_18 (fun s1 es1 H locs G => ?_)
  have hf := nm_s hf s1 es1
  refine lv_aload_n hx hb dX6_begin_21 rfl (lv_at hl 0 rfl) ?_
  refine gf6 X G (hL 80 rfl) rfl 1 (by decide) rfl kf_X6_26 iwX6 dX6_begin_22 ?_
  refine lv_aload_q hx hb dX6_begin_25 rfl (lv_at hl 1 rfl) ?_
  obtain ⟨s3, h2, hf⟩ := br_s hf
  refine cVWv (As := [va_rf (o1.map E.2.2.2.1)]) (rest := []) X G kc_X6_64 (tX8_follow l E s1 _ hL   h2) (rcv X G (hL 50 rfl) (cO8 rfl) rfl) rfl rfl (rmk_le (by omega) (by decide)) rfl hl.1 rfl (Nat.le_of_ble_eq_true rfl) dX6_begin_26 ⟨Nat.zero_le _, Nat.zero_le _⟩ (fun H locs G => ?_)
  exact rtWv X hlk G hr (so_i hf) dX6_begin_29
def fX6_lastBookNight_L4 (st : St) : Nat → Int32 → Int32 → Option Int32
  | 0, _, _ => none
  | n + 1, y1, y2 => if (st.1 120 7) ≤ y2 then (some y1) else (gd (ix y2 10) (nm (if y1 < (st.1 125 y2.toNatClampNeg) then (st.1 125 y2.toNatClampNeg) else y1) (fun x3 => nm (y2 + (1 : Int32)) (fun x4 => (fX6_lastBookNight_L4 st n) x3 x4))))
set_option maxRecDepth 100000 in
theorem wX6_lastBookNight_L4 {p : Program} {l : Launch} {e : Env} {s : State} {m : MethodId} {args : Array Value} {below : List Frame} {meth : Method} {c : Code} {E : Ev} (hL : ∀ k, fxC k = true → k ∈ eL E) {st : St} {sz : Nat} {res : Int32} (X : CX p s m args c E RX6 cX6_lastBookNight 3 (Af E sz)) (hr : meth.sig.returnType = (some .int)) (hlk : meth.locks = false) (G : Gd E st (Af E sz) s s.heap []) : ∀ (n : Nat) (y1 : Int32) (y2 : Int32), fX6_lastBookNight_L4 st  n y1 y2 = some res → ∀ ls : Array Slot, lv_has ls 3 [(0, .ref (eq E 80)), (1, .int y1), (2, .int y2)] → W p l e (rmk 1) s m args below meth c s.heap [] 0 0 (MQ below (QRi res) args s 0 0 (NoF)) (F0 m 4 ls []) := by
  have hx := X.1.1
  have hb := X.1.2.1
  intro n
  induction n with
  | zero =>
    intro y1 y2 hf ls hl
    cases (show (none : Option Int32) = some res from hf)
  | succ n ih =>
    intro y1 y2 hf ls hl
    rw [fX6_lastBookNight_L4] at hf
    refine lv_iload_n hx hb dX6_lastBookNight_4 rfl (lv_at hl 2 rfl) ?_
    refine lv_aload_n hx hb dX6_lastBookNight_5 rfl (lv_at hl 0 rfl) ?_
    refine gf6 X G (hL 80 rfl) rfl 0 (by decide) rfl kf_X6_22 iwX6 dX6_lastBookNight_6 ?_
    refine gf2 X G (hL 120 rfl) rfl 7 (by decide) rfl kf_X6_67 iwX2 dX6_lastBookNight_9 ?_
    refine lv_icmp_ge (tgt := 35) hx hb dX6_lastBookNight_12 (by decide) (fun c1 => ?_) (fun c1 => ?_)
    · have hf := it_t hf c1
      refine lv_iload_n hx hb dX6_lastBookNight_35 rfl (lv_at hl 1 rfl) ?_
      exact rtRi X hlk hr (so_i hf) dX6_lastBookNight_36
    · have hf := it_f hf c1
      refine lv_iload_n hx hb dX6_lastBookNight_15 rfl (lv_at hl 1 rfl) ?_
      refine lv_aload_n hx hb dX6_lastBookNight_16 rfl (lv_at hl 0 rfl) ?_
      refine gf6 X G (hL 80 rfl) rfl 0 (by decide) rfl kf_X6_22 iwX6 dX6_lastBookNight_17 ?_
      refine gf2 X G (hL 120 rfl) rfl 4 (by decide) rfl kf_X6_70 iwX2 dX6_lastBookNight_20 ?_
      refine lv_iload_n hx hb dX6_lastBookNight_23 rfl (lv_at hl 2 rfl) ?_
      obtain ⟨h2, hf⟩ := gd_s hf
      refine ia_ld (k := 125) (n := 10) X G (hL 125 rfl) rfl (by decide) (ix_in h2) dX6_lastBookNight_24 ?_
      refine va_mmax hx hb (X.1.2.2.1.trans hl.1.symm) X.1.2.2.2.1 (X.1.2.2.2.2 _ km_X6_73) (X.1.2.2.2.2 _ ks_Math_max) (X.1.2.2.2.2 _ ki_Math) (X.1.2.2.2.2 _ kd_Math_max) (rmk_1 (by omega)) (rmk_l (by omega) (Nat.le_of_ble_eq_true rfl)) (Nat.zero_le _) (Nat.zero_le _) dX6_lastBookNight_25 ?_
      refine lv_topi (fun x3 ex3 => ?_)
      have hf := nm_s hf x3 ex3
      refine lv_istore_n (lv' := [(1, .int x3), (0, .ref (eq E 80)), (2, .int y2)]) hx hb dX6_lastBookNight_28 rfl hl (by decide) rfl (fun ls hl => ?_)
      obtain ⟨x4, ex4⟩ : ∃ y : Int32, y = (y2 + (1 : Int32)) := ⟨_, rfl⟩
      have hf := nm_s hf x4 ex4
      refine lv_iinc (k := 2) (v := x4) (lv' := [(2, .int x4), (1, .int x3), (0, .ref (eq E 80))]) hx hb dX6_lastBookNight_29 hl rfl (by rw [ex4]; rfl) (by decide) rfl (fun ls hl => ?_)
      refine lv_goto (tgt := 4) hx hb dX6_lastBookNight_32 (by decide) ?_
      exact ih x3 x4 hf _ (lv_sub hl [2, 1, 0] rfl)
def fX6_lastBookNight (st : St) : Option Int32 := fX6_lastBookNight_L4 st 10000 (-1 : Int32) (0 : Int32)
set_option maxRecDepth 100000 in
theorem tX6_lastBookNight (l : Launch) (E : Ev) (st : St) (sz : Nat) (hL : ∀ k, fxC k = true → k ∈ eL E)  {res : Int32} (hf : fX6_lastBookNight st  = some res) : Met l yX6_lastBookNight (.code yX6_lastBookNight cX6_lastBookNight 3 (some .int) :: uW) (rmk 1) (va_Pc [.ref (eq E 80)] (Pre E st sz)) (QRi res) 0 0 (NoF) := by
  refine Met_in (by decide) (Nat.le_of_ble_eq_true rfl) ?_
  intro p e s m below meth c X hr hlk hz G ls hl
  have hx := X.1.1
  have hb := X.1.2.1
  have hl : lv_has ls 3 [(0, .ref (eq E 80))] := hl
  unfold fX6_lastBookNight at hf
  refine lv_iconst (v := (-1 : Int32)) hx hb dX6_lastBookNight_0 (by decide) ?_
  refine lv_istore_n (lv' := [(1, .int (-1 : Int32)), (0, .ref (eq E 80))]) hx hb dX6_lastBookNight_1 rfl hl (by decide) rfl (fun ls hl => ?_)
  refine lv_iconst (v := (0 : Int32)) hx hb dX6_lastBookNight_2 (by decide) ?_
  refine lv_istore_n (lv' := [(2, .int (0 : Int32)), (1, .int (-1 : Int32)), (0, .ref (eq E 80))]) hx hb dX6_lastBookNight_3 rfl hl (by decide) rfl (fun ls hl => ?_)
  exact wX6_lastBookNight_L4 hL X hr hlk G 10000 (-1 : Int32) (0 : Int32) hf _ (lv_sub hl [2, 1, 0] rfl)
def fJ6_bitCount_0f7a4 (p1 : Int32) : Option Int32 := nm (p1 - ((((Int32.toUInt32 p1) >>> ((Int32.toUInt32 (1 : Int32)) &&& Int32.toUInt32 31)).toInt32) &&& (1431655765 : Int32))) (fun x1 => nm ((x1 &&& (858993459 : Int32)) + ((((Int32.toUInt32 x1) >>> ((Int32.toUInt32 (2 : Int32)) &&& Int32.toUInt32 31)).toInt32) &&& (858993459 : Int32))) (fun x2 => nm ((x2 + (((Int32.toUInt32 x2) >>> ((Int32.toUInt32 (4 : Int32)) &&& Int32.toUInt32 31)).toInt32)) &&& (252645135 : Int32)) (fun x3 => nm (x3 + (((Int32.toUInt32 x3) >>> ((Int32.toUInt32 (8 : Int32)) &&& Int32.toUInt32 31)).toInt32)) (fun x4 => nm (x4 + (((Int32.toUInt32 x4) >>> ((Int32.toUInt32 (16 : Int32)) &&& Int32.toUInt32 31)).toInt32)) (fun x5 => some (x5 &&& (63 : Int32)))))))
set_option maxRecDepth 100000 in
theorem tJ6_bitCount_0f7a4 (l : Launch) (E : Ev) (st : St) (sz : Nat) (p1 : Int32) {res : Int32} (hf : fJ6_bitCount_0f7a4  p1 = some res) : Met l yJ6_bitCount_0f7a4 (.code yJ6_bitCount_0f7a4 cJ6_bitCount_0f7a4 1 (some .int) :: uW) (rmk 0) (va_Pc [.int p1] (Pre E st sz)) (QRi res) 0 0 (NoF) := by
  refine Met_in (by decide) (Nat.le_of_ble_eq_true rfl) ?_
  intro p e s m below meth c X hr hlk hz G ls hl
  have hx := X.1.1
  have hb := X.1.2.1
  have hl : lv_has ls 1 [(0, .int p1)] := hl
  unfold fJ6_bitCount_0f7a4 at hf
  refine lv_iload_n hx hb dJ6_bitCount_0f7a4_0 rfl (lv_at hl 0 rfl) ?_
  refine lv_iload_n hx hb dJ6_bitCount_0f7a4_1 rfl (lv_at hl 0 rfl) ?_
  refine lv_iconst (v := (1 : Int32)) hx hb dJ6_bitCount_0f7a4_2 (by decide) ?_
  refine lv_iushr hx hb dJ6_bitCount_0f7a4_3 rfl ?_
  refine lv_ldcw (v := (1431655765 : Int32)) hx hb X.1.2.2.2.1 (X.1.2.2.2.2 _ kk_J6_265) dJ6_bitCount_0f7a4_4 ?_
  refine lv_iand hx hb dJ6_bitCount_0f7a4_7 ?_
  refine lv_isub hx hb dJ6_bitCount_0f7a4_8 ?_
  refine lv_topi (fun x1 ex1 => ?_)
  have hf := nm_s hf x1 ex1
  refine lv_istore_n (lv' := [(0, .int x1)]) hx hb dJ6_bitCount_0f7a4_9 rfl hl (by decide) rfl (fun ls hl => ?_)
  refine lv_iload_n hx hb dJ6_bitCount_0f7a4_10 rfl (lv_at hl 0 rfl) ?_
  refine lv_ldcw (v := (858993459 : Int32)) hx hb X.1.2.2.2.1 (X.1.2.2.2.2 _ kk_J6_266) dJ6_bitCount_0f7a4_11 ?_
  refine lv_iand hx hb dJ6_bitCount_0f7a4_14 ?_
  refine lv_iload_n hx hb dJ6_bitCount_0f7a4_15 rfl (lv_at hl 0 rfl) ?_
  refine lv_iconst (v := (2 : Int32)) hx hb dJ6_bitCount_0f7a4_16 (by decide) ?_
  refine lv_iushr hx hb dJ6_bitCount_0f7a4_17 rfl ?_
  refine lv_ldcw (v := (858993459 : Int32)) hx hb X.1.2.2.2.1 (X.1.2.2.2.2 _ kk_J6_266) dJ6_bitCount_0f7a4_18 ?_
  refine lv_iand hx hb dJ6_bitCount_0f7a4_21 ?_
  refine lv_iadd hx hb dJ6_bitCount_0f7a4_22 ?_
  refine lv_topi (fun x2 ex2 => ?_)
  have hf := nm_s hf x2 ex2
  refine lv_istore_n (lv' := [(0, .int x2)]) hx hb dJ6_bitCount_0f7a4_23 rfl hl (by decide) rfl (fun ls hl => ?_)
  refine lv_iload_n hx hb dJ6_bitCount_0f7a4_24 rfl (lv_at hl 0 rfl) ?_
  refine lv_iload_n hx hb dJ6_bitCount_0f7a4_25 rfl (lv_at hl 0 rfl) ?_
  refine lv_iconst (v := (4 : Int32)) hx hb dJ6_bitCount_0f7a4_26 (by decide) ?_
  refine lv_iushr hx hb dJ6_bitCount_0f7a4_27 rfl ?_
  refine lv_iadd hx hb dJ6_bitCount_0f7a4_28 ?_
  refine lv_ldcw (v := (252645135 : Int32)) hx hb X.1.2.2.2.1 (X.1.2.2.2.2 _ kk_J6_267) dJ6_bitCount_0f7a4_29 ?_
  refine lv_iand hx hb dJ6_bitCount_0f7a4_32 ?_
  refine lv_topi (fun x3 ex3 => ?_)
  have hf := nm_s hf x3 ex3
  refine lv_istore_n (lv' := [(0, .int x3)]) hx hb dJ6_bitCount_0f7a4_33 rfl hl (by decide) rfl (fun ls hl => ?_)
  refine lv_iload_n hx hb dJ6_bitCount_0f7a4_34 rfl (lv_at hl 0 rfl) ?_
  refine lv_iload_n hx hb dJ6_bitCount_0f7a4_35 rfl (lv_at hl 0 rfl) ?_
  refine lv_bipush (v := (8 : Int32)) hx hb dJ6_bitCount_0f7a4_36 (by decide) ?_
  refine lv_iushr hx hb dJ6_bitCount_0f7a4_38 rfl ?_
  refine lv_iadd hx hb dJ6_bitCount_0f7a4_39 ?_
  refine lv_topi (fun x4 ex4 => ?_)
  have hf := nm_s hf x4 ex4
  refine lv_istore_n (lv' := [(0, .int x4)]) hx hb dJ6_bitCount_0f7a4_40 rfl hl (by decide) rfl (fun ls hl => ?_)
  refine lv_iload_n hx hb dJ6_bitCount_0f7a4_41 rfl (lv_at hl 0 rfl) ?_
  refine lv_iload_n hx hb dJ6_bitCount_0f7a4_42 rfl (lv_at hl 0 rfl) ?_
  refine lv_bipush (v := (16 : Int32)) hx hb dJ6_bitCount_0f7a4_43 (by decide) ?_
  refine lv_iushr hx hb dJ6_bitCount_0f7a4_45 rfl ?_
  refine lv_iadd hx hb dJ6_bitCount_0f7a4_46 ?_
  refine lv_topi (fun x5 ex5 => ?_)
  have hf := nm_s hf x5 ex5
  refine lv_istore_n (lv' := [(0, .int x5)]) hx hb dJ6_bitCount_0f7a4_47 rfl hl (by decide) rfl (fun ls hl => ?_)
  refine lv_iload_n hx hb dJ6_bitCount_0f7a4_48 rfl (lv_at hl 0 rfl) ?_
  refine lv_bipush (v := (63 : Int32)) hx hb dJ6_bitCount_0f7a4_49 (by decide) ?_
  refine lv_iand hx hb dJ6_bitCount_0f7a4_51 ?_
  exact rtRi X hlk hr (so_i hf) dJ6_bitCount_0f7a4_52
def fX8_tellWords_B165 (a1 : Nat) (n1 : Nat) (p2 : Int32) (p3 : Int32) (z0 : Int64) (z1 : Int32) (st : St) : Option St := gd (ix z1 12) (nm (ul st 52 z1.toNatClampNeg z0) (fun s2 => gd (ix (39 : Int32) n1) (nm (ul s2 52 10 (Int32.toInt64 (s2.1 a1 (39 : Int32).toNatClampNeg))) (fun s5 => gd (ix (38 : Int32) n1) (br (fJ6_bitCount_0f7a4 (s5.1 a1 (38 : Int32).toNatClampNeg)) (fun x8 => nm (ul s5 52 11 (Int32.toInt64 x8)) (fun s10 => some s10)))))))
set_option maxRecDepth 100000 in
theorem wX8_tellWords_B165 {p : Program} {l : Launch} {e : Env} {s : State} {m : MethodId} {args : Array Value} {below : List Frame} {meth : Method} {c : Code} {E : Ev} (hL : ∀ k, fxC k = true → k ∈ eL E) {a1 : Nat} {n1 : Nat} {p2 : Int32} {p3 : Int32} (hm1 : a1 ∈ eL E) (ht1 : ty a1 = 10000 + n1) (hn1 : n1 < 10000) {sz : Nat} {res : St} (X : CX p s m args c E RX8 cX8_tellWords 4 (Af E sz)) (hr : meth.sig.returnType = none) (hlk : meth.locks = false) : ∀ (z0 : Int64) (z1 : Int32) (st : St) (H : Heap) (locs : List Loc), fX8_tellWords_B165 a1 n1 p2 p3  z0 z1 st = some res → Gd E st (Af E sz) s H locs → ∀ ls : Array Slot, lv_has ls 4 [(0, .ref (eq E 50)), (1, .ref (eq E a1))] → W p l e (rmk 2) s m args below meth c H locs 0 0 (MQ below (QWv E res sz) args s 0 0 (Af E sz)) (F0 m 165 ls [.long z0, .int z1, .ref (eq E 52)]) := by
  have hx := X.1.1
  have hb := X.1.2.1
  intro z0 z1 st H locs hf G ls hl
  unfold fX8_tellWords_B165 at hf
  obtain ⟨h1, hf⟩ := gd_s hf
  refine la_st (k := 52) (n := 12) X G (hL 52 rfl) rfl (by decide) (ix_in h1) dX8_tellWords_165 (fun s2 es2 H locs G => ?_)
  have hf := nm_s hf s2 es2
  refine lv_aload_n hx hb dX8_tellWords_166 rfl (lv_at hl 0 rfl) ?_
  refine gf8 X G (hL 50 rfl) rfl 1 (by decide) rfl kf_X8_9 iwX8 dX8_tellWords_167 ?_
  refine lv_bipush (v := (10 : Int32)) hx hb dX8_tellWords_170 (by decide) ?_
  refine lv_aload_n hx hb dX8_tellWords_172 rfl (lv_at hl 1 rfl) ?_
  refine lv_bipush (v := (39 : Int32)) hx hb dX8_tellWords_173 (by decide) ?_
  obtain ⟨h3, hf⟩ := gd_s hf
  refine ia_ld (k := a1) (n := n1) X G hm1 ht1 hn1 (ix_in h3) dX8_tellWords_175 ?_
  refine lv_i2l hx hb dX8_tellWords_176 rfl ?_
  refine la_stc (k := 52) (n := 12) X G (hL 52 rfl) rfl (by decide) 10 (by decide) dX8_tellWords_177 (fun s5 es5 H locs G => ?_)
  have hf := nm_s hf s5 es5
  refine lv_aload_n hx hb dX8_tellWords_178 rfl (lv_at hl 0 rfl) ?_
  refine gf8 X G (hL 50 rfl) rfl 1 (by decide) rfl kf_X8_9 iwX8 dX8_tellWords_179 ?_
  refine lv_bipush (v := (11 : Int32)) hx hb dX8_tellWords_182 (by decide) ?_
  refine lv_aload_n hx hb dX8_tellWords_184 rfl (lv_at hl 1 rfl) ?_
  refine lv_bipush (v := (38 : Int32)) hx hb dX8_tellWords_185 (by decide) ?_
  obtain ⟨h6, hf⟩ := gd_s hf
  refine ia_ld (k := a1) (n := n1) X G hm1 ht1 hn1 (ix_in h6) dX8_tellWords_187 ?_
  obtain ⟨x8, h7, hf⟩ := br_s hf
  refine cSRi (As := [.int (s5.1 a1 (38 : Int32).toNatClampNeg)]) (rest := [.int (11 : Int32), .ref (eq E 52)]) X G kc_X8_84 (tJ6_bitCount_0f7a4 l E s5 _  (s5.1 a1 (38 : Int32).toNatClampNeg) h7) rfl rfl (rmk_le (by omega) (by decide)) rfl hl.1 rfl (Nat.le_of_ble_eq_true rfl) dX8_tellWords_188 ⟨Nat.zero_le _, Nat.zero_le _⟩ ?_
  refine lv_i2l hx hb dX8_tellWords_191 rfl ?_
  refine la_stc (k := 52) (n := 12) X G (hL 52 rfl) rfl (by decide) 11 (by decide) dX8_tellWords_192 (fun s10 es10 H locs G => ?_)
  have hf := nm_s hf s10 es10
  exact rtWv X hlk G hr (so_i hf) dX8_tellWords_193
def fX8_tellWords_B106 (a1 : Nat) (n1 : Nat) (p2 : Int32) (p3 : Int32) (z0 : Int64) (z1 : Int32) (st : St) : Option St := gd (ix z1 12) (nm (ul st 52 z1.toNatClampNeg z0) (fun s2 => gd (ix p3 8) (br (fJ6_bitCount_0f7a4 (s2.1 144 p3.toNatClampNeg)) (fun x5 => nm (ul s2 52 8 (Int32.toInt64 x5)) (fun s7 => gd (ix ((24 : Int32) + p3) n1) (if 0 ≤ (s7.1 a1 ((24 : Int32) + p3).toNatClampNeg) then (gd (ix (39 : Int32) n1) (gd (ix ((24 : Int32) + p3) n1) (fX8_tellWords_B165 a1 n1 p2 p3 (Int32.toInt64 (if ((s7.1 a1 (39 : Int32).toNatClampNeg) - (s7.1 a1 ((24 : Int32) + p3).toNatClampNeg)) < (99 : Int32) then ((s7.1 a1 (39 : Int32).toNatClampNeg) - (s7.1 a1 ((24 : Int32) + p3).toNatClampNeg)) else (99 : Int32))) (9 : Int32) s7))) else (fX8_tellWords_B165 a1 n1 p2 p3 (99 : Int64) (9 : Int32) s7)))))))
set_option maxRecDepth 100000 in
theorem wX8_tellWords_B106 {p : Program} {l : Launch} {e : Env} {s : State} {m : MethodId} {args : Array Value} {below : List Frame} {meth : Method} {c : Code} {E : Ev} (hL : ∀ k, fxC k = true → k ∈ eL E) {a1 : Nat} {n1 : Nat} {p2 : Int32} {p3 : Int32} (hm1 : a1 ∈ eL E) (ht1 : ty a1 = 10000 + n1) (hn1 : n1 < 10000) {sz : Nat} {res : St} (X : CX p s m args c E RX8 cX8_tellWords 4 (Af E sz)) (hr : meth.sig.returnType = none) (hlk : meth.locks = false) : ∀ (z0 : Int64) (z1 : Int32) (st : St) (H : Heap) (locs : List Loc), fX8_tellWords_B106 a1 n1 p2 p3  z0 z1 st = some res → Gd E st (Af E sz) s H locs → ∀ ls : Array Slot, lv_has ls 4 [(0, .ref (eq E 50)), (1, .ref (eq E a1)), (3, .int p3)] → W p l e (rmk 2) s m args below meth c H locs 0 0 (MQ below (QWv E res sz) args s 0 0 (Af E sz)) (F0 m 106 ls [.long z0, .int z1, .ref (eq E 52)]) := by
  have hx := X.1.1
  have hb := X.1.2.1
  intro z0 z1 st H locs hf G ls hl
  unfold fX8_tellWords_B106 at hf
  obtain ⟨h1, hf⟩ := gd_s hf
  refine la_st (k := 52) (n := 12) X G (hL 52 rfl) rfl (by decide) (ix_in h1) dX8_tellWords_106 (fun s2 es2 H locs G => ?_)
  have hf := nm_s hf s2 es2
  refine lv_aload_n hx hb dX8_tellWords_107 rfl (lv_at hl 0 rfl) ?_
  refine gf8 X G (hL 50 rfl) rfl 1 (by decide) rfl kf_X8_9 iwX8 dX8_tellWords_108 ?_
  refine lv_bipush (v := (8 : Int32)) hx hb dX8_tellWords_111 (by decide) ?_
  refine lv_aload_n hx hb dX8_tellWords_113 rfl (lv_at hl 0 rfl) ?_
  refine gf8 X G (hL 50 rfl) rfl 0 (by decide) rfl kf_X8_23 iwX8 dX8_tellWords_114 ?_
  refine gf1 X G (hL 134 rfl) rfl 9 (by decide) rfl kf_X8_62 iwX1 dX8_tellWords_117 ?_
  refine lv_iload_n hx hb dX8_tellWords_120 rfl (lv_at hl 2 rfl) ?_
  obtain ⟨h3, hf⟩ := gd_s hf
  refine ia_ld (k := 144) (n := 8) X G (hL 144 rfl) rfl (by decide) (ix_in h3) dX8_tellWords_121 ?_
  obtain ⟨x5, h4, hf⟩ := br_s hf
  refine cSRi (As := [.int (s2.1 144 p3.toNatClampNeg)]) (rest := [.int (8 : Int32), .ref (eq E 52)]) X G kc_X8_84 (tJ6_bitCount_0f7a4 l E s2 _  (s2.1 144 p3.toNatClampNeg) h4) rfl rfl (rmk_le (by omega) (by decide)) rfl hl.1 rfl (Nat.le_of_ble_eq_true rfl) dX8_tellWords_122 ⟨Nat.zero_le _, Nat.zero_le _⟩ ?_
  refine lv_i2l hx hb dX8_tellWords_125 rfl ?_
  refine la_stc (k := 52) (n := 12) X G (hL 52 rfl) rfl (by decide) 8 (by decide) dX8_tellWords_126 (fun s7 es7 H locs G => ?_)
  have hf := nm_s hf s7 es7
  refine lv_aload_n hx hb dX8_tellWords_127 rfl (lv_at hl 0 rfl) ?_
  refine gf8 X G (hL 50 rfl) rfl 1 (by decide) rfl kf_X8_9 iwX8 dX8_tellWords_128 ?_
  refine lv_bipush (v := (9 : Int32)) hx hb dX8_tellWords_131 (by decide) ?_
  refine lv_aload_n hx hb dX8_tellWords_133 rfl (lv_at hl 1 rfl) ?_
  refine lv_bipush (v := (24 : Int32)) hx hb dX8_tellWords_134 (by decide) ?_
  refine lv_iload_n hx hb dX8_tellWords_136 rfl (lv_at hl 2 rfl) ?_
  refine lv_iadd hx hb dX8_tellWords_137 ?_
  obtain ⟨h8, hf⟩ := gd_s hf
  refine ia_ld (k := a1) (n := n1) X G hm1 ht1 hn1 (ix_in h8) dX8_tellWords_138 ?_
  refine lv_if_ge (tgt := 148) hx hb dX8_tellWords_139 (by decide) (fun c9 => ?_) (fun c9 => ?_)
  · have hf := it_t hf c9
    refine lv_bipush (v := (99 : Int32)) hx hb dX8_tellWords_148 (by decide) ?_
    refine lv_aload_n hx hb dX8_tellWords_150 rfl (lv_at hl 1 rfl) ?_
    refine lv_bipush (v := (39 : Int32)) hx hb dX8_tellWords_151 (by decide) ?_
    obtain ⟨h10, hf⟩ := gd_s hf
    refine ia_ld (k := a1) (n := n1) X G hm1 ht1 hn1 (ix_in h10) dX8_tellWords_153 ?_
    refine lv_aload_n hx hb dX8_tellWords_154 rfl (lv_at hl 1 rfl) ?_
    refine lv_bipush (v := (24 : Int32)) hx hb dX8_tellWords_155 (by decide) ?_
    refine lv_iload_n hx hb dX8_tellWords_157 rfl (lv_at hl 2 rfl) ?_
    refine lv_iadd hx hb dX8_tellWords_158 ?_
    obtain ⟨h11, hf⟩ := gd_s hf
    refine ia_ld (k := a1) (n := n1) X G hm1 ht1 hn1 (ix_in h11) dX8_tellWords_159 ?_
    refine lv_isub hx hb dX8_tellWords_160 ?_
    refine va_mmin hx hb (X.1.2.2.1.trans hl.1.symm) X.1.2.2.2.1 (X.1.2.2.2.2 _ km_X8_75) (X.1.2.2.2.2 _ ks_Math_min) (X.1.2.2.2.2 _ ki_Math) (X.1.2.2.2.2 _ kd_Math_min) (rmk_1 (by omega)) (rmk_l (by omega) (Nat.le_of_ble_eq_true rfl)) (Nat.zero_le _) (Nat.zero_le _) dX8_tellWords_161 ?_
    refine lv_i2l hx hb dX8_tellWords_164 rfl ?_
    exact wX8_tellWords_B165 hL hm1 ht1 hn1 X hr hlk (Int32.toInt64 (if ((s7.1 a1 (39 : Int32).toNatClampNeg) - (s7.1 a1 ((24 : Int32) + p3).toNatClampNeg)) < (99 : Int32) then ((s7.1 a1 (39 : Int32).toNatClampNeg) - (s7.1 a1 ((24 : Int32) + p3).toNatClampNeg)) else (99 : Int32))) (9 : Int32) s7 _ _ hf G _ (lv_sub hl [0, 1] rfl)
  · have hf := it_f hf c9
    refine lv_ldc2 (v := (99 : Int64)) hx hb X.1.2.2.2.1 (X.1.2.2.2.2 _ kk_X8_90) dX8_tellWords_142 ?_
    refine lv_goto (tgt := 165) hx hb dX8_tellWords_145 (by decide) ?_
    exact wX8_tellWords_B165 hL hm1 ht1 hn1 X hr hlk (99 : Int64) (9 : Int32) s7 _ _ hf G _ (lv_sub hl [0, 1] rfl)
def fX8_tellWords (a1 : Nat) (n1 : Nat) (p2 : Int32) (p3 : Int32) (st : St) : Option St := nm (ul st 52 0 (Int32.toInt64 p2)) (fun s2 => nm (ul s2 52 1 (Int32.toInt64 p3)) (fun s4 => gd (ix ((0 : Int32) + p3) n1) (nm (ul s4 52 2 (Int32.toInt64 (s4.1 a1 ((0 : Int32) + p3).toNatClampNeg))) (fun s7 => gd (ix ((8 : Int32) + p3) n1) (nm (ul s7 52 3 (Int32.toInt64 (s7.1 a1 ((8 : Int32) + p3).toNatClampNeg))) (fun s10 => gd (ix p3 8) (nm (ul s10 52 4 (Int32.toInt64 (s10.1 143 p3.toNatClampNeg))) (fun s13 => br (fX8_share a1 n1 s13 p2 p3) (fun x15 => nm (ul s13 52 5 (Int32.toInt64 x15)) (fun s17 => br (fX8_room a1 n1 s17 p2) (fun x19 => nm (ul s17 52 6 (Int32.toInt64 x19)) (fun s21 => gd (ix ((32 : Int32) + p2) n1) (if (s21.1 a1 ((32 : Int32) + p2).toNatClampNeg) = p3 then (fX8_tellWords_B106 a1 n1 p2 p3 (1 : Int64) (7 : Int32) s21) else (fX8_tellWords_B106 a1 n1 p2 p3 (0 : Int64) (7 : Int32) s21))))))))))))))
set_option maxRecDepth 100000 in
theorem tX8_tellWords (l : Launch) (E : Ev) (st : St) (sz : Nat) (hL : ∀ k, fxC k = true → k ∈ eL E) {a1 : Nat} {n1 : Nat} (hm1 : a1 ∈ eL E) (ht1 : ty a1 = 10000 + n1) (hn1 : n1 < 10000) (p2 : Int32) (p3 : Int32) {res : St} (hf : fX8_tellWords a1 n1 p2 p3 st = some res) : Met l yX8_tellWords (.code yX8_tellWords cX8_tellWords 4 none :: uW) (rmk 2) (va_Pc [.ref (eq E 50), .ref (eq E a1), .int p2, .int p3] (Pre E st sz)) (QWv E res sz) 0 0 (Af E sz) := by
  refine Met_in (by decide) (Nat.le_of_ble_eq_true rfl) ?_
  intro p e s m below meth c X hr hlk hz G ls hl
  have hx := X.1.1
  have hb := X.1.2.1
  have hl : lv_has ls 4 [(0, .ref (eq E 50)), (1, .ref (eq E a1)), (2, .int p2), (3, .int p3)] := hl
  unfold fX8_tellWords at hf
  refine lv_aload_n hx hb dX8_tellWords_0 rfl (lv_at hl 0 rfl) ?_
  refine gf8 X G (hL 50 rfl) rfl 1 (by decide) rfl kf_X8_9 iwX8 dX8_tellWords_1 ?_
  refine lv_iconst (v := (0 : Int32)) hx hb dX8_tellWords_4 (by decide) ?_
  refine lv_iload_n hx hb dX8_tellWords_5 rfl (lv_at hl 2 rfl) ?_
  refine lv_i2l hx hb dX8_tellWords_6 rfl ?_
  refine la_stc (k := 52) (n := 12) X G (hL 52 rfl) rfl (by decide) 0 (by decide) dX8_tellWords_7 (fun s2 es2 H locs G => ?_)
  have hf := nm_s hf s2 es2
  refine lv_aload_n hx hb dX8_tellWords_8 rfl (lv_at hl 0 rfl) ?_
  refine gf8 X G (hL 50 rfl) rfl 1 (by decide) rfl kf_X8_9 iwX8 dX8_tellWords_9 ?_
  refine lv_iconst (v := (1 : Int32)) hx hb dX8_tellWords_12 (by decide) ?_
  refine lv_iload_n hx hb dX8_tellWords_13 rfl (lv_at hl 3 rfl) ?_
  refine lv_i2l hx hb dX8_tellWords_14 rfl ?_
  refine la_stc (k := 52) (n := 12) X G (hL 52 rfl) rfl (by decide) 1 (by decide) dX8_tellWords_15 (fun s4 es4 H locs G => ?_)
  have hf := nm_s hf s4 es4
  refine lv_aload_n hx hb dX8_tellWords_16 rfl (lv_at hl 0 rfl) ?_
  refine gf8 X G (hL 50 rfl) rfl 1 (by decide) rfl kf_X8_9 iwX8 dX8_tellWords_17 ?_
  refine lv_iconst (v := (2 : Int32)) hx hb dX8_tellWords_20 (by decide) ?_
  refine lv_aload_n hx hb dX8_tellWords_21 rfl (lv_at hl 1 rfl) ?_
  refine lv_iconst (v := (0 : Int32)) hx hb dX8_tellWords_22 (by decide) ?_
  refine lv_iload_n hx hb dX8_tellWords_23 rfl (lv_at hl 3 rfl) ?_
  refine lv_iadd hx hb dX8_tellWords_24 ?_
  obtain ⟨h5, hf⟩ := gd_s hf
  refine ia_ld (k := a1) (n := n1) X G hm1 ht1 hn1 (ix_in h5) dX8_tellWords_25 ?_
  refine lv_i2l hx hb dX8_tellWords_26 rfl ?_
  refine la_stc (k := 52) (n := 12) X G (hL 52 rfl) rfl (by decide) 2 (by decide) dX8_tellWords_27 (fun s7 es7 H locs G => ?_)
  have hf := nm_s hf s7 es7
  refine lv_aload_n hx hb dX8_tellWords_28 rfl (lv_at hl 0 rfl) ?_
  refine gf8 X G (hL 50 rfl) rfl 1 (by decide) rfl kf_X8_9 iwX8 dX8_tellWords_29 ?_
  refine lv_iconst (v := (3 : Int32)) hx hb dX8_tellWords_32 (by decide) ?_
  refine lv_aload_n hx hb dX8_tellWords_33 rfl (lv_at hl 1 rfl) ?_
  refine lv_bipush (v := (8 : Int32)) hx hb dX8_tellWords_34 (by decide) ?_
  refine lv_iload_n hx hb dX8_tellWords_36 rfl (lv_at hl 3 rfl) ?_
  refine lv_iadd hx hb dX8_tellWords_37 ?_
  obtain ⟨h8, hf⟩ := gd_s hf
  refine ia_ld (k := a1) (n := n1) X G hm1 ht1 hn1 (ix_in h8) dX8_tellWords_38 ?_
  refine lv_i2l hx hb dX8_tellWords_39 rfl ?_
  refine la_stc (k := 52) (n := 12) X G (hL 52 rfl) rfl (by decide) 3 (by decide) dX8_tellWords_40 (fun s10 es10 H locs G => ?_)
  have hf := nm_s hf s10 es10
  refine lv_aload_n hx hb dX8_tellWords_41 rfl (lv_at hl 0 rfl) ?_
  refine gf8 X G (hL 50 rfl) rfl 1 (by decide) rfl kf_X8_9 iwX8 dX8_tellWords_42 ?_
  refine lv_iconst (v := (4 : Int32)) hx hb dX8_tellWords_45 (by decide) ?_
  refine lv_aload_n hx hb dX8_tellWords_46 rfl (lv_at hl 0 rfl) ?_
  refine gf8 X G (hL 50 rfl) rfl 0 (by decide) rfl kf_X8_23 iwX8 dX8_tellWords_47 ?_
  refine gf1 X G (hL 134 rfl) rfl 8 (by decide) rfl kf_X8_81 iwX1 dX8_tellWords_50 ?_
  refine lv_iload_n hx hb dX8_tellWords_53 rfl (lv_at hl 3 rfl) ?_
  obtain ⟨h11, hf⟩ := gd_s hf
  refine ia_ld (k := 143) (n := 8) X G (hL 143 rfl) rfl (by decide) (ix_in h11) dX8_tellWords_54 ?_
  refine lv_i2l hx hb dX8_tellWords_55 rfl ?_
  refine la_stc (k := 52) (n := 12) X G (hL 52 rfl) rfl (by decide) 4 (by decide) dX8_tellWords_56 (fun s13 es13 H locs G => ?_)
  have hf := nm_s hf s13 es13
  refine lv_aload_n hx hb dX8_tellWords_57 rfl (lv_at hl 0 rfl) ?_
  refine gf8 X G (hL 50 rfl) rfl 1 (by decide) rfl kf_X8_9 iwX8 dX8_tellWords_58 ?_
  refine lv_iconst (v := (5 : Int32)) hx hb dX8_tellWords_61 (by decide) ?_
  refine lv_aload_n hx hb dX8_tellWords_62 rfl (lv_at hl 0 rfl) ?_
  refine lv_aload_n hx hb dX8_tellWords_63 rfl (lv_at hl 1 rfl) ?_
  refine lv_iload_n hx hb dX8_tellWords_64 rfl (lv_at hl 2 rfl) ?_
  refine lv_iload_n hx hb dX8_tellWords_65 rfl (lv_at hl 3 rfl) ?_
  obtain ⟨x15, h14, hf⟩ := br_s hf
  refine cVRi (As := [.ref (eq E a1), .int p2, .int p3]) (rest := [.int (5 : Int32), .ref (eq E 52)]) X G kc_X8_66 (tX8_share l E s13 _ hL hm1 ht1 hn1 p2 p3 h14) (rcv X G (hL 50 rfl) (cO8 rfl) rfl) rfl rfl (rmk_le (by omega) (by decide)) rfl hl.1 rfl (Nat.le_of_ble_eq_true rfl) dX8_tellWords_66 ⟨Nat.zero_le _, Nat.zero_le _⟩ ?_
  refine lv_i2l hx hb dX8_tellWords_69 rfl ?_
  refine la_stc (k := 52) (n := 12) X G (hL 52 rfl) rfl (by decide) 5 (by decide) dX8_tellWords_70 (fun s17 es17 H locs G => ?_)
  have hf := nm_s hf s17 es17
  refine lv_aload_n hx hb dX8_tellWords_71 rfl (lv_at hl 0 rfl) ?_
  refine gf8 X G (hL 50 rfl) rfl 1 (by decide) rfl kf_X8_9 iwX8 dX8_tellWords_72 ?_
  refine lv_bipush (v := (6 : Int32)) hx hb dX8_tellWords_75 (by decide) ?_
  refine lv_aload_n hx hb dX8_tellWords_77 rfl (lv_at hl 0 rfl) ?_
  refine lv_aload_n hx hb dX8_tellWords_78 rfl (lv_at hl 1 rfl) ?_
  refine lv_iload_n hx hb dX8_tellWords_79 rfl (lv_at hl 2 rfl) ?_
  obtain ⟨x19, h18, hf⟩ := br_s hf
  refine cVRi (As := [.ref (eq E a1), .int p2]) (rest := [.int (6 : Int32), .ref (eq E 52)]) X G kc_X8_72 (tX8_room l E s17 _ hL hm1 ht1 hn1 p2 h18) (rcv X G (hL 50 rfl) (cO8 rfl) rfl) rfl rfl (rmk_le (by omega) (by decide)) rfl hl.1 rfl (Nat.le_of_ble_eq_true rfl) dX8_tellWords_80 ⟨Nat.zero_le _, Nat.zero_le _⟩ ?_
  refine lv_i2l hx hb dX8_tellWords_83 rfl ?_
  refine la_stc (k := 52) (n := 12) X G (hL 52 rfl) rfl (by decide) 6 (by decide) dX8_tellWords_84 (fun s21 es21 H locs G => ?_)
  have hf := nm_s hf s21 es21
  refine lv_aload_n hx hb dX8_tellWords_85 rfl (lv_at hl 0 rfl) ?_
  refine gf8 X G (hL 50 rfl) rfl 1 (by decide) rfl kf_X8_9 iwX8 dX8_tellWords_86 ?_
  refine lv_bipush (v := (7 : Int32)) hx hb dX8_tellWords_89 (by decide) ?_
  refine lv_aload_n hx hb dX8_tellWords_91 rfl (lv_at hl 1 rfl) ?_
  refine lv_bipush (v := (32 : Int32)) hx hb dX8_tellWords_92 (by decide) ?_
  refine lv_iload_n hx hb dX8_tellWords_94 rfl (lv_at hl 2 rfl) ?_
  refine lv_iadd hx hb dX8_tellWords_95 ?_
  obtain ⟨h22, hf⟩ := gd_s hf
  refine ia_ld (k := a1) (n := n1) X G hm1 ht1 hn1 (ix_in h22) dX8_tellWords_96 ?_
  refine lv_iload_n hx hb dX8_tellWords_97 rfl (lv_at hl 3 rfl) ?_
  refine lv_icmp_ne (tgt := 105) hx hb dX8_tellWords_98 (by decide) (fun c23 => ?_) (fun c23 => ?_)
  · have hf := it_f hf c23
    refine lv_lconst (v := (0 : Int64)) hx hb dX8_tellWords_105 (by decide) ?_
    exact wX8_tellWords_B106 hL hm1 ht1 hn1 X hr hlk (0 : Int64) (7 : Int32) s21 _ _ hf G _ (lv_sub hl [0, 1, 3] rfl)
  · have hf := it_t hf c23
    refine lv_lconst (v := (1 : Int64)) hx hb dX8_tellWords_101 (by decide) ?_
    refine lv_goto (tgt := 106) hx hb dX8_tellWords_102 (by decide) ?_
    exact wX8_tellWords_B106 hL hm1 ht1 hn1 X hr hlk (1 : Int64) (7 : Int32) s21 _ _ hf G _ (lv_sub hl [0, 1, 3] rfl)
def fX8_choose_L17 (L : List Nat) (a1 : Nat) (n1 : Nat) (p2 : Int32) : Nat → Int32 → Int64 → Int32 → St → Option (Int32 × St)
  | 0, _, _, _, _ => none
  | n + 1, y3, y4, y6, st => if (st.1 134 4) ≤ y6 then (some (y3, st)) else (br (fX8_canCall a1 n1 st p2 y6) (fun x3 => if x3 = 0 then (nm (y6 + (1 : Int32)) (fun x5 => (fX8_choose_L17 L a1 n1 p2 n) y3 y4 x5 st)) else (br (fX8_tellWords a1 n1 p2 y6 st) (fun s6 => br (s6.2.2 50 2) (fun r7 => gd (okRb L r7) (bw (fX4_worth r7 52 12 s6) (fun x12 s11 => if (lg_cmp x12 y4) ≤ 0 then (nm (y6 + (1 : Int32)) (fun x14 => (fX8_choose_L17 L a1 n1 p2 n) y3 y4 x14 s11)) else (nm (y6 + (1 : Int32)) (fun x14 => (fX8_choose_L17 L a1 n1 p2 n) y6 x12 x14 s11)))))))))
set_option maxRecDepth 100000 in
theorem wX8_choose_L17 {p : Program} {l : Launch} {e : Env} {s : State} {m : MethodId} {args : Array Value} {below : List Frame} {meth : Method} {c : Code} {E : Ev} (hL : ∀ k, fxC k = true → k ∈ eL E) {L : List Nat} {a1 : Nat} {n1 : Nat} {p2 : Int32} (hLL : L = eL E) (hm1 : a1 ∈ eL E) (ht1 : ty a1 = 10000 + n1) (hn1 : n1 < 10000) {sz : Nat} {res : (Int32 × St)} (X : CX p s m args c E RX8 cX8_choose 9 (Af E sz)) (hr : meth.sig.returnType = (some .int)) (hlk : meth.locks = false) : ∀ (n : Nat) (y3 : Int32) (y4 : Int64) (y6 : Int32) (st : St) (H : Heap) (locs : List Loc), fX8_choose_L17 L a1 n1 p2  n y3 y4 y6 st = some res → Gd E st (Af E sz) s H locs → ∀ ls : Array Slot, lv_has ls 9 [(0, .ref (eq E 50)), (1, .ref (eq E a1)), (2, .int p2), (3, .int y3), (4, .long y4), (6, .int y6)] → W p l e (rmk 3) s m args below meth c H locs 0 0 (MQ below (QWi E res.2 sz res.1) args s 0 0 (Af E sz)) (F0 m 17 ls []) := by
  have hx := X.1.1
  have hb := X.1.2.1
  intro n
  induction n with
  | zero =>
    intro y3 y4 y6 st H locs hf G ls hl
    cases (show (none : Option (Int32 × St)) = some res from hf)
  | succ n ih =>
    intro y3 y4 y6 st H locs hf G ls hl
    rw [fX8_choose_L17] at hf
    refine lv_iload hx hb dX8_choose_17 (lv_at hl 5 rfl) ?_
    refine lv_aload_n hx hb dX8_choose_19 rfl (lv_at hl 0 rfl) ?_
    refine gf8 X G (hL 50 rfl) rfl 0 (by decide) rfl kf_X8_23 iwX8 dX8_choose_20 ?_
    refine gf1 X G (hL 134 rfl) rfl 4 (by decide) rfl kf_X8_45 iwX1 dX8_choose_23 ?_
    refine lv_icmp_ge (tgt := 85) hx hb dX8_choose_26 (by decide) (fun c1 => ?_) (fun c1 => ?_)
    · have hf := it_t hf c1
      refine lv_iload_n hx hb dX8_choose_85 rfl (lv_at hl 3 rfl) ?_
      exact rtWi X hlk G hr (so_i hf) dX8_choose_86
    · have hf := it_f hf c1
      refine lv_aload_n hx hb dX8_choose_29 rfl (lv_at hl 0 rfl) ?_
      refine lv_aload_n hx hb dX8_choose_30 rfl (lv_at hl 1 rfl) ?_
      refine lv_iload_n hx hb dX8_choose_31 rfl (lv_at hl 2 rfl) ?_
      refine lv_iload hx hb dX8_choose_32 (lv_at hl 5 rfl) ?_
      obtain ⟨x3, h2, hf⟩ := br_s hf
      refine cVRi (As := [.ref (eq E a1), .int p2, .int y6]) (rest := []) X G kc_X8_48 (tX8_canCall l E st _ hL hm1 ht1 hn1 p2 y6 h2) (rcv X G (hL 50 rfl) (cO8 rfl) rfl) rfl rfl (rmk_le (by omega) (by decide)) rfl hl.1 rfl (Nat.le_of_ble_eq_true rfl) dX8_choose_34 ⟨Nat.zero_le _, Nat.zero_le _⟩ ?_
      refine lv_if_ne (tgt := 43) hx hb dX8_choose_37 (by decide) (fun c4 => ?_) (fun c4 => ?_)
      · have hf := it_f hf c4
        refine lv_aload_n hx hb dX8_choose_43 rfl (lv_at hl 0 rfl) ?_
        refine lv_aload_n hx hb dX8_choose_44 rfl (lv_at hl 1 rfl) ?_
        refine lv_iload_n hx hb dX8_choose_45 rfl (lv_at hl 2 rfl) ?_
        refine lv_iload hx hb dX8_choose_46 (lv_at hl 5 rfl) ?_
        obtain ⟨s6, h5, hf⟩ := br_s hf
        refine cVWv (As := [.ref (eq E a1), .int p2, .int y6]) (rest := []) X G kc_X8_52 (tX8_tellWords l E st _ hL hm1 ht1 hn1 p2 y6 h5) (rcv X G (hL 50 rfl) (cO8 rfl) rfl) rfl rfl (rmk_le (by omega) (by decide)) rfl hl.1 rfl (Nat.le_of_ble_eq_true rfl) dX8_choose_48 ⟨Nat.zero_le _, Nat.zero_le _⟩ (fun H locs G => ?_)
        refine lv_aload_n hx hb dX8_choose_51 rfl (lv_at hl 0 rfl) ?_
        refine gf8 X G (hL 50 rfl) rfl 2 (by decide) rfl kf_X8_15 iwX8 dX8_choose_52 ?_
        obtain ⟨r7, h8, hf⟩ := br_s hf
        obtain ⟨h9, hf⟩ := gd_s hf
        rw [h8]
        refine lv_aload_n hx hb dX8_choose_55 rfl (lv_at hl 0 rfl) ?_
        refine gf8 X G (hL 50 rfl) rfl 1 (by decide) rfl kf_X8_9 iwX8 dX8_choose_56 ?_
        obtain ⟨x12, s11, h10, hf⟩ := bw_s hf
        refine cVWl (As := [.ref (eq E 52)]) (rest := []) X G kc_X8_56 (tX4_worth l E s6 _ hL (okRb_s hLL h9) (hL 52 rfl) rfl (by decide)  h10) (rcv X G (((okRb_s hLL h9) 0 (by decide)).2 (by decide)) (cO4 ((okRb_s hLL h9) 0 (by decide)).1) rfl) rfl rfl (rmk_le (by omega) (by decide)) rfl hl.1 rfl (Nat.le_of_ble_eq_true rfl) dX8_choose_59 ⟨Nat.zero_le _, Nat.zero_le _⟩ (fun H locs G => ?_)
        refine lv_lstore (lv' := [(7, .long x12), (0, .ref (eq E 50)), (1, .ref (eq E a1)), (2, .int p2), (3, .int y3), (4, .long y4), (6, .int y6)]) hx hb dX8_choose_62 hl (by decide) rfl (fun ls hl => ?_)
        refine lv_lload hx hb dX8_choose_64 (lv_at hl 0 rfl) ?_
        refine lv_lload hx hb dX8_choose_66 (lv_at hl 5 rfl) ?_
        refine W.lcmp hx hb dX8_choose_68 ?_
        refine lv_if_le (tgt := 79) hx hb dX8_choose_69 (by decide) (fun c13 => ?_) (fun c13 => ?_)
        · have hf := it_t hf c13
          obtain ⟨x14, ex14⟩ : ∃ y : Int32, y = (y6 + (1 : Int32)) := ⟨_, rfl⟩
          have hf := nm_s hf x14 ex14
          refine lv_iinc (k := 6) (v := x14) (lv' := [(6, .int x14), (7, .long x12), (0, .ref (eq E 50)), (1, .ref (eq E a1)), (2, .int p2), (3, .int y3), (4, .long y4)]) hx hb dX8_choose_79 hl rfl (by rw [ex14]; rfl) (by decide) rfl (fun ls hl => ?_)
          refine lv_goto (tgt := 17) hx hb dX8_choose_82 (by decide) ?_
          exact ih y3 y4 x14 s11 _ _ hf G _ (lv_sub hl [2, 3, 4, 5, 6, 0] rfl)
        · have hf := it_f hf c13
          refine lv_lload hx hb dX8_choose_72 (lv_at hl 0 rfl) ?_
          refine lv_lstore (lv' := [(4, .long x12), (7, .long x12), (0, .ref (eq E 50)), (1, .ref (eq E a1)), (2, .int p2), (3, .int y3), (6, .int y6)]) hx hb dX8_choose_74 hl (by decide) rfl (fun ls hl => ?_)
          refine lv_iload hx hb dX8_choose_76 (lv_at hl 6 rfl) ?_
          refine lv_istore_n (lv' := [(3, .int y6), (4, .long x12), (7, .long x12), (0, .ref (eq E 50)), (1, .ref (eq E a1)), (2, .int p2), (6, .int y6)]) hx hb dX8_choose_78 rfl hl (by decide) rfl (fun ls hl => ?_)
          obtain ⟨x14, ex14⟩ : ∃ y : Int32, y = (y6 + (1 : Int32)) := ⟨_, rfl⟩
          have hf := nm_s hf x14 ex14
          refine lv_iinc (k := 6) (v := x14) (lv' := [(6, .int x14), (3, .int y6), (4, .long x12), (7, .long x12), (0, .ref (eq E 50)), (1, .ref (eq E a1)), (2, .int p2)]) hx hb dX8_choose_79 hl rfl (by rw [ex14]; rfl) (by decide) rfl (fun ls hl => ?_)
          refine lv_goto (tgt := 17) hx hb dX8_choose_82 (by decide) ?_
          exact ih y6 x12 x14 s11 _ _ hf G _ (lv_sub hl [4, 5, 6, 1, 2, 0] rfl)
      · have hf := it_t hf c4
        refine lv_goto (tgt := 79) hx hb dX8_choose_40 (by decide) ?_
        obtain ⟨x5, ex5⟩ : ∃ y : Int32, y = (y6 + (1 : Int32)) := ⟨_, rfl⟩
        have hf := nm_s hf x5 ex5
        refine lv_iinc (k := 5) (v := x5) (lv' := [(6, .int x5), (0, .ref (eq E 50)), (1, .ref (eq E a1)), (2, .int p2), (3, .int y3), (4, .long y4)]) hx hb dX8_choose_79 hl rfl (by rw [ex5]; rfl) (by decide) rfl (fun ls hl => ?_)
        refine lv_goto (tgt := 17) hx hb dX8_choose_82 (by decide) ?_
        exact ih y3 y4 x5 st _ _ hf G _ (lv_sub hl [1, 2, 3, 4, 5, 0] rfl)
def fX8_choose (L : List Nat) (a1 : Nat) (n1 : Nat) (p2 : Int32) (st : St) : Option (Int32 × St) := if (st.2.2 50 2) = none then (some ((-1 : Int32), st)) else (fX8_choose_L17 L a1 n1 p2 10000 (-1 : Int32) (0 : Int64) (0 : Int32) st)
set_option maxRecDepth 100000 in
theorem tX8_choose (l : Launch) (E : Ev) (st : St) (sz : Nat) (hL : ∀ k, fxC k = true → k ∈ eL E) {L : List Nat} {a1 : Nat} {n1 : Nat} (hLL : L = eL E) (hm1 : a1 ∈ eL E) (ht1 : ty a1 = 10000 + n1) (hn1 : n1 < 10000) (p2 : Int32) {res : (Int32 × St)} (hf : fX8_choose L a1 n1 p2 st = some res) : Met l yX8_choose (.code yX8_choose cX8_choose 9 (some .int) :: uW) (rmk 3) (va_Pc [.ref (eq E 50), .ref (eq E a1), .int p2] (Pre E st sz)) (QWi E res.2 sz res.1) 0 0 (Af E sz) := by
  refine Met_in (by decide) (Nat.le_of_ble_eq_true rfl) ?_
  intro p e s m below meth c X hr hlk hz G ls hl
  have hx := X.1.1
  have hb := X.1.2.1
  have hl : lv_has ls 9 [(0, .ref (eq E 50)), (1, .ref (eq E a1)), (2, .int p2)] := hl
  unfold fX8_choose at hf
  refine lv_aload_n hx hb dX8_choose_0 rfl (lv_at hl 0 rfl) ?_
  refine gf8 X G (hL 50 rfl) rfl 2 (by decide) rfl kf_X8_15 iwX8 dX8_choose_1 ?_
  refine lv_ifnn (tgt := 9) hx hb dX8_choose_4 (by decide) (fun c1 => ?_) (fun c1 => ?_)
  · have hf := it_t hf c1
    refine lv_iconst (v := (-1 : Int32)) hx hb dX8_choose_7 (by decide) ?_
    exact rtWi X hlk G hr (so_i hf) dX8_choose_8
  · have hf := it_f hf c1
    refine lv_iconst (v := (-1 : Int32)) hx hb dX8_choose_9 (by decide) ?_
    refine lv_istore_n (lv' := [(3, .int (-1 : Int32)), (0, .ref (eq E 50)), (1, .ref (eq E a1)), (2, .int p2)]) hx hb dX8_choose_10 rfl hl (by decide) rfl (fun ls hl => ?_)
    refine lv_lconst (v := (0 : Int64)) hx hb dX8_choose_11 (by decide) ?_
    refine lv_lstore (lv' := [(4, .long (0 : Int64)), (3, .int (-1 : Int32)), (0, .ref (eq E 50)), (1, .ref (eq E a1)), (2, .int p2)]) hx hb dX8_choose_12 hl (by decide) rfl (fun ls hl => ?_)
    refine lv_iconst (v := (0 : Int32)) hx hb dX8_choose_14 (by decide) ?_
    refine lv_istore (lv' := [(6, .int (0 : Int32)), (4, .long (0 : Int64)), (3, .int (-1 : Int32)), (0, .ref (eq E 50)), (1, .ref (eq E a1)), (2, .int p2)]) hx hb dX8_choose_15 hl (by decide) rfl (fun ls hl => ?_)
    exact wX8_choose_L17 hL hLL hm1 ht1 hn1 X hr hlk 10000 (-1 : Int32) (0 : Int64) (0 : Int32) st _ _ hf G _ (lv_sub hl [3, 4, 5, 2, 1, 0] rfl)
