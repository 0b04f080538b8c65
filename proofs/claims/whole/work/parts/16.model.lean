theorem dX10_mostAlike_0 : decode cX10_mostAlike 0 = .ok (.iconst 0, 1) := by decide +kernel
theorem dX10_mostAlike_1 : decode cX10_mostAlike 1 = .ok (.istore_n 3, 1) := by decide +kernel
theorem dX10_mostAlike_2 : decode cX10_mostAlike 2 = .ok (.iconst 0, 1) := by decide +kernel
theorem dX10_mostAlike_3 : decode cX10_mostAlike 3 = .ok (.istore 4, 2) := by decide +kernel
theorem dX10_mostAlike_5 : decode cX10_mostAlike 5 = .ok (.iload 4, 2) := by decide +kernel
theorem dX10_mostAlike_7 : decode cX10_mostAlike 7 = .ok (.iload_n 2, 1) := by decide +kernel
theorem dX10_mostAlike_8 : decode cX10_mostAlike 8 = .ok (.if_icmp .ge 77, 3) := by decide +kernel
theorem dX10_mostAlike_11 : decode cX10_mostAlike 11 = .ok (.iconst 0, 1) := by decide +kernel
theorem dX10_mostAlike_12 : decode cX10_mostAlike 12 = .ok (.istore 5, 2) := by decide +kernel
theorem dX10_mostAlike_14 : decode cX10_mostAlike 14 = .ok (.iconst 0, 1) := by decide +kernel
theorem dX10_mostAlike_15 : decode cX10_mostAlike 15 = .ok (.istore 6, 2) := by decide +kernel
theorem dX10_mostAlike_17 : decode cX10_mostAlike 17 = .ok (.iload 6, 2) := by decide +kernel
theorem dX10_mostAlike_19 : decode cX10_mostAlike 19 = .ok (.iload_n 2, 1) := by decide +kernel
theorem dX10_mostAlike_20 : decode cX10_mostAlike 20 = .ok (.if_icmp .ge 46, 3) := by decide +kernel
theorem dX10_mostAlike_23 : decode cX10_mostAlike 23 = .ok (.iload 5, 2) := by decide +kernel
theorem dX10_mostAlike_25 : decode cX10_mostAlike 25 = .ok (.aload_n 0, 1) := by decide +kernel
theorem dX10_mostAlike_26 : decode cX10_mostAlike 26 = .ok (.getfield 136, 3) := by decide +kernel
theorem dX10_mostAlike_29 : decode cX10_mostAlike 29 = .ok (.bipush 8, 2) := by decide +kernel
theorem dX10_mostAlike_31 : decode cX10_mostAlike 31 = .ok (.iload 6, 2) := by decide +kernel
theorem dX10_mostAlike_33 : decode cX10_mostAlike 33 = .ok (.imul, 1) := by decide +kernel
theorem dX10_mostAlike_34 : decode cX10_mostAlike 34 = .ok (.iload_n 1, 1) := by decide +kernel
theorem dX10_mostAlike_35 : decode cX10_mostAlike 35 = .ok (.iadd, 1) := by decide +kernel
theorem dX10_mostAlike_36 : decode cX10_mostAlike 36 = .ok (.iaload, 1) := by decide +kernel
theorem dX10_mostAlike_37 : decode cX10_mostAlike 37 = .ok (.aload_n 0, 1) := by decide +kernel
theorem dX10_mostAlike_38 : decode cX10_mostAlike 38 = .ok (.getfield 136, 3) := by decide +kernel
theorem dX10_mostAlike_41 : decode cX10_mostAlike 41 = .ok (.bipush 8, 2) := by decide +kernel
theorem dX10_mostAlike_43 : decode cX10_mostAlike 43 = .ok (.iload 4, 2) := by decide +kernel
theorem dX10_mostAlike_45 : decode cX10_mostAlike 45 = .ok (.imul, 1) := by decide +kernel
theorem dX10_mostAlike_46 : decode cX10_mostAlike 46 = .ok (.iload_n 1, 1) := by decide +kernel
theorem dX10_mostAlike_47 : decode cX10_mostAlike 47 = .ok (.iadd, 1) := by decide +kernel
theorem dX10_mostAlike_48 : decode cX10_mostAlike 48 = .ok (.iaload, 1) := by decide +kernel
theorem dX10_mostAlike_49 : decode cX10_mostAlike 49 = .ok (.if_icmp .ne 7, 3) := by decide +kernel
theorem dX10_mostAlike_52 : decode cX10_mostAlike 52 = .ok (.iconst 1, 1) := by decide +kernel
theorem dX10_mostAlike_53 : decode cX10_mostAlike 53 = .ok (.goto 4, 3) := by decide +kernel
theorem dX10_mostAlike_56 : decode cX10_mostAlike 56 = .ok (.iconst 0, 1) := by decide +kernel
theorem dX10_mostAlike_57 : decode cX10_mostAlike 57 = .ok (.iadd, 1) := by decide +kernel
theorem dX10_mostAlike_58 : decode cX10_mostAlike 58 = .ok (.istore 5, 2) := by decide +kernel
theorem dX10_mostAlike_60 : decode cX10_mostAlike 60 = .ok (.iinc 6 1, 3) := by decide +kernel
theorem dX10_mostAlike_63 : decode cX10_mostAlike 63 = .ok (.goto (-46), 3) := by decide +kernel
theorem dX10_mostAlike_66 : decode cX10_mostAlike 66 = .ok (.iload 5, 2) := by decide +kernel
theorem dX10_mostAlike_68 : decode cX10_mostAlike 68 = .ok (.iload_n 3, 1) := by decide +kernel
theorem dX10_mostAlike_69 : decode cX10_mostAlike 69 = .ok (.if_icmp .le 8, 3) := by decide +kernel
theorem dX10_mostAlike_72 : decode cX10_mostAlike 72 = .ok (.iload 5, 2) := by decide +kernel
theorem dX10_mostAlike_74 : decode cX10_mostAlike 74 = .ok (.goto 4, 3) := by decide +kernel
theorem dX10_mostAlike_77 : decode cX10_mostAlike 77 = .ok (.iload_n 3, 1) := by decide +kernel
theorem dX10_mostAlike_78 : decode cX10_mostAlike 78 = .ok (.istore_n 3, 1) := by decide +kernel
theorem dX10_mostAlike_79 : decode cX10_mostAlike 79 = .ok (.iinc 4 1, 3) := by decide +kernel
theorem dX10_mostAlike_82 : decode cX10_mostAlike 82 = .ok (.goto (-77), 3) := by decide +kernel
theorem dX10_mostAlike_85 : decode cX10_mostAlike 85 = .ok (.iload_n 3, 1) := by decide +kernel
theorem dX10_mostAlike_86 : decode cX10_mostAlike 86 = .ok (.ireturn, 1) := by decide +kernel
theorem dX10_look_0 : decode cX10_look 0 = .ok (.aload_n 0, 1) := by decide +kernel
theorem dX10_look_1 : decode cX10_look 1 = .ok (.getfield 327, 3) := by decide +kernel
theorem dX10_look_4 : decode cX10_look 4 = .ok (.ifCond .eq 25, 3) := by decide +kernel
theorem dX10_look_7 : decode cX10_look 7 = .ok (.iload_n 1, 1) := by decide +kernel
theorem dX10_look_8 : decode cX10_look 8 = .ok (.i2l, 1) := by decide +kernel
theorem dX10_look_9 : decode cX10_look 9 = .ok (.lconst 0, 1) := by decide +kernel
theorem dX10_look_10 : decode cX10_look 10 = .ok (.ldc2_w 471, 3) := by decide +kernel
theorem dX10_look_13 : decode cX10_look 13 = .ok (.invokestatic 152, 3) := by decide +kernel
theorem dX10_look_16 : decode cX10_look 16 = .ok (.ifCond .eq 13, 3) := by decide +kernel
theorem dX10_look_19 : decode cX10_look 19 = .ok (.iload_n 2, 1) := by decide +kernel
theorem dX10_look_20 : decode cX10_look 20 = .ok (.i2l, 1) := by decide +kernel
theorem dX10_look_21 : decode cX10_look 21 = .ok (.lconst 0, 1) := by decide +kernel
theorem dX10_look_22 : decode cX10_look 22 = .ok (.lconst 1, 1) := by decide +kernel
theorem dX10_look_23 : decode cX10_look 23 = .ok (.invokestatic 152, 3) := by decide +kernel
theorem dX10_look_26 : decode cX10_look 26 = .ok (.ifCond .ne 5, 3) := by decide +kernel
theorem dX10_look_29 : decode cX10_look 29 = .ok (.iconst (-1), 1) := by decide +kernel
theorem dX10_look_30 : decode cX10_look 30 = .ok (.ireturn, 1) := by decide +kernel
theorem dX10_look_31 : decode cX10_look 31 = .ok (.aload_n 0, 1) := by decide +kernel
theorem dX10_look_32 : decode cX10_look 32 = .ok (.invokevirtual 448, 3) := by decide +kernel
theorem dX10_look_35 : decode cX10_look 35 = .ok (.iconst 0, 1) := by decide +kernel
theorem dX10_look_36 : decode cX10_look 36 = .ok (.istore_n 3, 1) := by decide +kernel
theorem dX10_look_37 : decode cX10_look 37 = .ok (.iconst (-1), 1) := by decide +kernel
theorem dX10_look_38 : decode cX10_look 38 = .ok (.istore 4, 2) := by decide +kernel
theorem dX10_look_40 : decode cX10_look 40 = .ok (.iload 4, 2) := by decide +kernel
theorem dX10_look_42 : decode cX10_look 42 = .ok (.aload_n 0, 1) := by decide +kernel
theorem dX10_look_43 : decode cX10_look 43 = .ok (.getfield 347, 3) := by decide +kernel
theorem dX10_look_46 : decode cX10_look 46 = .ok (.if_icmp .ge 57, 3) := by decide +kernel
theorem dX10_look_49 : decode cX10_look 49 = .ok (.aload_n 0, 1) := by decide +kernel
theorem dX10_look_50 : decode cX10_look 50 = .ok (.iload 4, 2) := by decide +kernel
theorem dX10_look_52 : decode cX10_look 52 = .ok (.iload_n 1, 1) := by decide +kernel
theorem dX10_look_53 : decode cX10_look 53 = .ok (.invokevirtual 485, 3) := by decide +kernel
theorem dX10_look_56 : decode cX10_look 56 = .ok (.ifCond .eq 41, 3) := by decide +kernel
theorem dX10_look_59 : decode cX10_look 59 = .ok (.iconst 0, 1) := by decide +kernel
theorem dX10_look_60 : decode cX10_look 60 = .ok (.istore 5, 2) := by decide +kernel
theorem dX10_look_62 : decode cX10_look 62 = .ok (.iload 5, 2) := by decide +kernel
theorem dX10_look_64 : decode cX10_look 64 = .ok (.bipush 8, 2) := by decide +kernel
theorem dX10_look_66 : decode cX10_look 66 = .ok (.if_icmp .ge 28, 3) := by decide +kernel
theorem dX10_look_69 : decode cX10_look 69 = .ok (.aload_n 0, 1) := by decide +kernel
theorem dX10_look_70 : decode cX10_look 70 = .ok (.getfield 136, 3) := by decide +kernel
theorem dX10_look_73 : decode cX10_look 73 = .ok (.bipush 8, 2) := by decide +kernel
theorem dX10_look_75 : decode cX10_look 75 = .ok (.iload_n 3, 1) := by decide +kernel
theorem dX10_look_76 : decode cX10_look 76 = .ok (.imul, 1) := by decide +kernel
theorem dX10_look_77 : decode cX10_look 77 = .ok (.iload 5, 2) := by decide +kernel
theorem dX10_look_79 : decode cX10_look 79 = .ok (.iadd, 1) := by decide +kernel
theorem dX10_look_80 : decode cX10_look 80 = .ok (.aload_n 0, 1) := by decide +kernel
theorem dX10_look_81 : decode cX10_look 81 = .ok (.getfield 133, 3) := by decide +kernel
theorem dX10_look_84 : decode cX10_look 84 = .ok (.iload 5, 2) := by decide +kernel
theorem dX10_look_86 : decode cX10_look 86 = .ok (.iaload, 1) := by decide +kernel
theorem dX10_look_87 : decode cX10_look 87 = .ok (.iastore, 1) := by decide +kernel
theorem dX10_look_88 : decode cX10_look 88 = .ok (.iinc 5 1, 3) := by decide +kernel
theorem dX10_look_91 : decode cX10_look 91 = .ok (.goto (-29), 3) := by decide +kernel
theorem dX10_look_94 : decode cX10_look 94 = .ok (.iinc 3 1, 3) := by decide +kernel
theorem dX10_look_97 : decode cX10_look 97 = .ok (.iinc 4 1, 3) := by decide +kernel
theorem dX10_look_100 : decode cX10_look 100 = .ok (.goto (-60), 3) := by decide +kernel
theorem dX10_look_103 : decode cX10_look 103 = .ok (.iload_n 3, 1) := by decide +kernel
theorem dX10_look_104 : decode cX10_look 104 = .ok (.ifCond .eq 12, 3) := by decide +kernel
theorem dX10_look_107 : decode cX10_look 107 = .ok (.aload_n 0, 1) := by decide +kernel
theorem dX10_look_108 : decode cX10_look 108 = .ok (.getfield 9, 3) := by decide +kernel
theorem dX10_look_111 : decode cX10_look 111 = .ok (.iconst 3, 1) := by decide +kernel
theorem dX10_look_112 : decode cX10_look 112 = .ok (.iaload, 1) := by decide +kernel
theorem dX10_look_113 : decode cX10_look 113 = .ok (.ifCond .ne 6, 3) := by decide +kernel
theorem dX10_look_116 : decode cX10_look 116 = .ok (.bipush (-2), 2) := by decide +kernel
theorem dX10_look_118 : decode cX10_look 118 = .ok (.ireturn, 1) := by decide +kernel
theorem dX10_look_119 : decode cX10_look 119 = .ok (.iconst 0, 1) := by decide +kernel
theorem dX10_look_120 : decode cX10_look 120 = .ok (.istore 4, 2) := by decide +kernel
theorem dX10_look_122 : decode cX10_look 122 = .ok (.iconst 1, 1) := by decide +kernel
theorem dX10_look_123 : decode cX10_look 123 = .ok (.istore 5, 2) := by decide +kernel
theorem dX10_look_125 : decode cX10_look 125 = .ok (.iload 5, 2) := by decide +kernel
theorem dX10_look_127 : decode cX10_look 127 = .ok (.aload_n 0, 1) := by decide +kernel
theorem dX10_look_128 : decode cX10_look 128 = .ok (.getfield 9, 3) := by decide +kernel
theorem dX10_look_131 : decode cX10_look 131 = .ok (.iconst 3, 1) := by decide +kernel
theorem dX10_look_132 : decode cX10_look 132 = .ok (.iaload, 1) := by decide +kernel
theorem dX10_look_133 : decode cX10_look 133 = .ok (.if_icmp .ge 35, 3) := by decide +kernel
theorem dX10_look_136 : decode cX10_look 136 = .ok (.aload_n 0, 1) := by decide +kernel
theorem dX10_look_137 : decode cX10_look 137 = .ok (.iload 5, 2) := by decide +kernel
theorem dX10_look_139 : decode cX10_look 139 = .ok (.iload_n 3, 1) := by decide +kernel
theorem dX10_look_140 : decode cX10_look 140 = .ok (.invokevirtual 488, 3) := by decide +kernel
theorem dX10_look_143 : decode cX10_look 143 = .ok (.aload_n 0, 1) := by decide +kernel
theorem dX10_look_144 : decode cX10_look 144 = .ok (.iload 4, 2) := by decide +kernel
theorem dX10_look_146 : decode cX10_look 146 = .ok (.iload_n 3, 1) := by decide +kernel
theorem dX10_look_147 : decode cX10_look 147 = .ok (.invokevirtual 488, 3) := by decide +kernel
theorem dX10_look_150 : decode cX10_look 150 = .ok (.if_icmp .ge 8, 3) := by decide +kernel
theorem dX10_look_153 : decode cX10_look 153 = .ok (.iload 5, 2) := by decide +kernel
theorem dX10_look_155 : decode cX10_look 155 = .ok (.goto 5, 3) := by decide +kernel
theorem dX10_look_158 : decode cX10_look 158 = .ok (.iload 4, 2) := by decide +kernel
theorem dX10_look_160 : decode cX10_look 160 = .ok (.istore 4, 2) := by decide +kernel
theorem dX10_look_162 : decode cX10_look 162 = .ok (.iinc 5 1, 3) := by decide +kernel
theorem dX10_look_165 : decode cX10_look 165 = .ok (.goto (-40), 3) := by decide +kernel
theorem dX10_look_168 : decode cX10_look 168 = .ok (.iload_n 2, 1) := by decide +kernel
theorem dX10_look_169 : decode cX10_look 169 = .ok (.ifCond .ne 8, 3) := by decide +kernel
theorem dX10_look_172 : decode cX10_look 172 = .ok (.iload 4, 2) := by decide +kernel
theorem dX10_look_174 : decode cX10_look 174 = .ok (.goto 10, 3) := by decide +kernel
theorem dX10_look_177 : decode cX10_look 177 = .ok (.aload_n 0, 1) := by decide +kernel
theorem dX10_look_178 : decode cX10_look 178 = .ok (.iload 4, 2) := by decide +kernel
theorem dX10_look_180 : decode cX10_look 180 = .ok (.iload_n 3, 1) := by decide +kernel
theorem dX10_look_181 : decode cX10_look 181 = .ok (.invokevirtual 488, 3) := by decide +kernel
theorem dX10_look_184 : decode cX10_look 184 = .ok (.ireturn, 1) := by decide +kernel
theorem dX10_seed_0 : decode cX10_seed 0 = .ok (.iload_n 1, 1) := by decide +kernel
theorem dX10_seed_1 : decode cX10_seed 1 = .ok (.ifCond .ge 5, 3) := by decide +kernel
theorem dX10_seed_4 : decode cX10_seed 4 = .ok (.iconst (-1), 1) := by decide +kernel
theorem dX10_seed_5 : decode cX10_seed 5 = .ok (.ireturn, 1) := by decide +kernel
theorem dX10_seed_6 : decode cX10_seed 6 = .ok (.aload_n 0, 1) := by decide +kernel
theorem dX10_seed_7 : decode cX10_seed 7 = .ok (.getfield 9, 3) := by decide +kernel
theorem dX10_seed_10 : decode cX10_seed 10 = .ok (.bipush 10, 2) := by decide +kernel
theorem dX10_seed_12 : decode cX10_seed 12 = .ok (.iaload, 1) := by decide +kernel
theorem dX10_seed_13 : decode cX10_seed 13 = .ok (.istore_n 2, 1) := by decide +kernel
theorem dX10_seed_14 : decode cX10_seed 14 = .ok (.aload_n 0, 1) := by decide +kernel
theorem dX10_seed_15 : decode cX10_seed 15 = .ok (.getfield 9, 3) := by decide +kernel
theorem dX10_seed_18 : decode cX10_seed 18 = .ok (.bipush 10, 2) := by decide +kernel
theorem dX10_seed_20 : decode cX10_seed 20 = .ok (.iload_n 1, 1) := by decide +kernel
theorem dX10_seed_21 : decode cX10_seed 21 = .ok (.iastore, 1) := by decide +kernel
theorem dX10_seed_22 : decode cX10_seed 22 = .ok (.iload_n 2, 1) := by decide +kernel
theorem dX10_seed_23 : decode cX10_seed 23 = .ok (.ireturn, 1) := by decide +kernel
theorem dX10_draws_0 : decode cX10_draws 0 = .ok (.aload_n 0, 1) := by decide +kernel
theorem dX10_draws_1 : decode cX10_draws 1 = .ok (.getfield 9, 3) := by decide +kernel
theorem dX10_draws_4 : decode cX10_draws 4 = .ok (.bipush 10, 2) := by decide +kernel
theorem dX10_draws_6 : decode cX10_draws 6 = .ok (.aload_n 0, 1) := by decide +kernel
theorem dX10_draws_7 : decode cX10_draws 7 = .ok (.getfield 9, 3) := by decide +kernel
theorem dX10_draws_10 : decode cX10_draws 10 = .ok (.bipush 10, 2) := by decide +kernel
theorem dX10_draws_12 : decode cX10_draws 12 = .ok (.iaload, 1) := by decide +kernel
theorem dX10_draws_13 : decode cX10_draws 13 = .ok (.i2l, 1) := by decide +kernel
theorem dX10_draws_14 : decode cX10_draws 14 = .ok (.ldc2_w 491, 3) := by decide +kernel
theorem dX10_draws_17 : decode cX10_draws 17 = .ok (.lmul, 1) := by decide +kernel
theorem dX10_draws_18 : decode cX10_draws 18 = .ok (.ldc2_w 493, 3) := by decide +kernel
theorem dX10_draws_21 : decode cX10_draws 21 = .ok (.ladd, 1) := by decide +kernel
theorem dX10_draws_22 : decode cX10_draws 22 = .ok (.ldc2_w 495, 3) := by decide +kernel
theorem dX10_draws_25 : decode cX10_draws 25 = .ok (.lrem, 1) := by decide +kernel
theorem dX10_draws_26 : decode cX10_draws 26 = .ok (.l2i, 1) := by decide +kernel
theorem dX10_draws_27 : decode cX10_draws 27 = .ok (.iastore, 1) := by decide +kernel
theorem dX10_draws_28 : decode cX10_draws 28 = .ok (.aload_n 0, 1) := by decide +kernel
theorem dX10_draws_29 : decode cX10_draws 29 = .ok (.getfield 9, 3) := by decide +kernel
theorem dX10_draws_32 : decode cX10_draws 32 = .ok (.bipush 10, 2) := by decide +kernel
theorem dX10_draws_34 : decode cX10_draws 34 = .ok (.iaload, 1) := by decide +kernel
theorem dX10_draws_35 : decode cX10_draws 35 = .ok (.ldc_w 497, 3) := by decide +kernel
theorem dX10_draws_38 : decode cX10_draws 38 = .ok (.idiv, 1) := by decide +kernel
theorem dX10_draws_39 : decode cX10_draws 39 = .ok (.iload_n 1, 1) := by decide +kernel
theorem dX10_draws_40 : decode cX10_draws 40 = .ok (.irem, 1) := by decide +kernel
theorem dX10_draws_41 : decode cX10_draws 41 = .ok (.ireturn, 1) := by decide +kernel
theorem dX10_winters_0 : decode cX10_winters 0 = .ok (.aload_n 0, 1) := by decide +kernel
theorem dX10_winters_1 : decode cX10_winters 1 = .ok (.getfield 327, 3) := by decide +kernel
theorem dX10_winters_4 : decode cX10_winters 4 = .ok (.ifCond .eq 50, 3) := by decide +kernel
theorem dX10_winters_7 : decode cX10_winters 7 = .ok (.iload_n 1, 1) := by decide +kernel
theorem dX10_winters_8 : decode cX10_winters 8 = .ok (.i2l, 1) := by decide +kernel
theorem dX10_winters_9 : decode cX10_winters 9 = .ok (.lconst 1, 1) := by decide +kernel
theorem dX10_winters_10 : decode cX10_winters 10 = .ok (.ldc2_w 498, 3) := by decide +kernel
theorem dX10_winters_13 : decode cX10_winters 13 = .ok (.invokestatic 152, 3) := by decide +kernel
theorem dX10_winters_16 : decode cX10_winters 16 = .ok (.ifCond .eq 38, 3) := by decide +kernel
theorem dX10_winters_19 : decode cX10_winters 19 = .ok (.iload_n 2, 1) := by decide +kernel
theorem dX10_winters_20 : decode cX10_winters 20 = .ok (.i2l, 1) := by decide +kernel
theorem dX10_winters_21 : decode cX10_winters 21 = .ok (.lconst 1, 1) := by decide +kernel
theorem dX10_winters_22 : decode cX10_winters 22 = .ok (.ldc2_w 471, 3) := by decide +kernel
theorem dX10_winters_25 : decode cX10_winters 25 = .ok (.invokestatic 152, 3) := by decide +kernel
theorem dX10_winters_28 : decode cX10_winters 28 = .ok (.ifCond .eq 26, 3) := by decide +kernel
theorem dX10_winters_31 : decode cX10_winters 31 = .ok (.iload_n 3, 1) := by decide +kernel
theorem dX10_winters_32 : decode cX10_winters 32 = .ok (.i2l, 1) := by decide +kernel
theorem dX10_winters_33 : decode cX10_winters 33 = .ok (.lconst 0, 1) := by decide +kernel
theorem dX10_winters_34 : decode cX10_winters 34 = .ok (.ldc2_w 446, 3) := by decide +kernel
theorem dX10_winters_37 : decode cX10_winters 37 = .ok (.invokestatic 152, 3) := by decide +kernel
theorem dX10_winters_40 : decode cX10_winters 40 = .ok (.ifCond .eq 14, 3) := by decide +kernel
theorem dX10_winters_43 : decode cX10_winters 43 = .ok (.iload 4, 2) := by decide +kernel
theorem dX10_winters_45 : decode cX10_winters 45 = .ok (.i2l, 1) := by decide +kernel
theorem dX10_winters_46 : decode cX10_winters 46 = .ok (.lconst 0, 1) := by decide +kernel
theorem dX10_winters_47 : decode cX10_winters 47 = .ok (.lconst 1, 1) := by decide +kernel
theorem dX10_winters_48 : decode cX10_winters 48 = .ok (.invokestatic 152, 3) := by decide +kernel
theorem dX10_winters_51 : decode cX10_winters 51 = .ok (.ifCond .ne 5, 3) := by decide +kernel
theorem dX10_winters_54 : decode cX10_winters 54 = .ok (.iconst (-1), 1) := by decide +kernel
theorem dX10_winters_55 : decode cX10_winters 55 = .ok (.ireturn, 1) := by decide +kernel
theorem dX10_winters_56 : decode cX10_winters 56 = .ok (.aload_n 0, 1) := by decide +kernel
theorem dX10_winters_57 : decode cX10_winters 57 = .ok (.getfield 9, 3) := by decide +kernel
theorem dX10_winters_60 : decode cX10_winters 60 = .ok (.bipush 10, 2) := by decide +kernel
theorem dX10_winters_62 : decode cX10_winters 62 = .ok (.iaload, 1) := by decide +kernel
theorem dX10_winters_63 : decode cX10_winters 63 = .ok (.istore 5, 2) := by decide +kernel
theorem dX10_winters_65 : decode cX10_winters 65 = .ok (.iload 5, 2) := by decide +kernel
theorem dX10_winters_67 : decode cX10_winters 67 = .ok (.istore 6, 2) := by decide +kernel
theorem dX10_winters_69 : decode cX10_winters 69 = .ok (.iconst 0, 1) := by decide +kernel
theorem dX10_winters_70 : decode cX10_winters 70 = .ok (.istore 7, 2) := by decide +kernel
theorem dX10_winters_72 : decode cX10_winters 72 = .ok (.iconst 0, 1) := by decide +kernel
theorem dX10_winters_73 : decode cX10_winters 73 = .ok (.istore 8, 2) := by decide +kernel
theorem dX10_winters_75 : decode cX10_winters 75 = .ok (.aload_n 0, 1) := by decide +kernel
theorem dX10_winters_76 : decode cX10_winters 76 = .ok (.invokevirtual 448, 3) := by decide +kernel
theorem dX10_winters_79 : decode cX10_winters 79 = .ok (.iconst 0, 1) := by decide +kernel
theorem dX10_winters_80 : decode cX10_winters 80 = .ok (.istore 9, 2) := by decide +kernel
theorem dX10_winters_82 : decode cX10_winters 82 = .ok (.iload 9, 2) := by decide +kernel
theorem dX10_winters_84 : decode cX10_winters 84 = .ok (.iload_n 1, 1) := by decide +kernel
theorem dX10_winters_85 : decode cX10_winters 85 = .ok (.if_icmp .ge 122, 3) := by decide +kernel
theorem dX10_winters_88 : decode cX10_winters 88 = .ok (.aload_n 0, 1) := by decide +kernel
theorem dX10_winters_89 : decode cX10_winters 89 = .ok (.getfield 9, 3) := by decide +kernel
theorem dX10_winters_92 : decode cX10_winters 92 = .ok (.bipush 10, 2) := by decide +kernel
theorem dX10_winters_94 : decode cX10_winters 94 = .ok (.iload 6, 2) := by decide +kernel
theorem dX10_winters_96 : decode cX10_winters 96 = .ok (.iastore, 1) := by decide +kernel
theorem dX10_winters_97 : decode cX10_winters 97 = .ok (.iconst 0, 1) := by decide +kernel
theorem dX10_winters_98 : decode cX10_winters 98 = .ok (.istore 10, 2) := by decide +kernel
theorem dX10_winters_100 : decode cX10_winters 100 = .ok (.iload 10, 2) := by decide +kernel
theorem dX10_winters_102 : decode cX10_winters 102 = .ok (.iload_n 2, 1) := by decide +kernel
theorem dX10_winters_103 : decode cX10_winters 103 = .ok (.if_icmp .ge 33, 3) := by decide +kernel
theorem dX10_winters_106 : decode cX10_winters 106 = .ok (.aload_n 0, 1) := by decide +kernel
theorem dX10_winters_107 : decode cX10_winters 107 = .ok (.aload_n 0, 1) := by decide +kernel
theorem dX10_winters_108 : decode cX10_winters 108 = .ok (.bipush 100, 2) := by decide +kernel
theorem dX10_winters_110 : decode cX10_winters 110 = .ok (.invokevirtual 500, 3) := by decide +kernel
theorem dX10_winters_113 : decode cX10_winters 113 = .ok (.iload_n 3, 1) := by decide +kernel
theorem dX10_winters_114 : decode cX10_winters 114 = .ok (.if_icmp .ge 7, 3) := by decide +kernel
theorem dX10_winters_117 : decode cX10_winters 117 = .ok (.iconst 1, 1) := by decide +kernel
theorem dX10_winters_118 : decode cX10_winters 118 = .ok (.goto 4, 3) := by decide +kernel
theorem dX10_winters_121 : decode cX10_winters 121 = .ok (.iconst 0, 1) := by decide +kernel
theorem dX10_winters_122 : decode cX10_winters 122 = .ok (.putfield 399, 3) := by decide +kernel
theorem dX10_winters_125 : decode cX10_winters 125 = .ok (.aload_n 0, 1) := by decide +kernel
theorem dX10_winters_126 : decode cX10_winters 126 = .ok (.invokevirtual 411, 3) := by decide +kernel
theorem dX10_winters_129 : decode cX10_winters 129 = .ok (.pop, 1) := by decide +kernel
theorem dX10_winters_130 : decode cX10_winters 130 = .ok (.iinc 10 1, 3) := by decide +kernel
theorem dX10_winters_133 : decode cX10_winters 133 = .ok (.goto (-33), 3) := by decide +kernel
theorem dX10_winters_136 : decode cX10_winters 136 = .ok (.aload_n 0, 1) := by decide +kernel
theorem dX10_winters_137 : decode cX10_winters 137 = .ok (.iconst 0, 1) := by decide +kernel
theorem dX10_winters_138 : decode cX10_winters 138 = .ok (.putfield 399, 3) := by decide +kernel
theorem dX10_winters_141 : decode cX10_winters 141 = .ok (.iload 7, 2) := by decide +kernel
theorem dX10_winters_143 : decode cX10_winters 143 = .ok (.aload_n 0, 1) := by decide +kernel
theorem dX10_winters_144 : decode cX10_winters 144 = .ok (.getfield 9, 3) := by decide +kernel
theorem dX10_winters_147 : decode cX10_winters 147 = .ok (.bipush 7, 2) := by decide +kernel
theorem dX10_winters_149 : decode cX10_winters 149 = .ok (.iaload, 1) := by decide +kernel
theorem dX10_winters_150 : decode cX10_winters 150 = .ok (.invokestatic 380, 3) := by decide +kernel
theorem dX10_winters_153 : decode cX10_winters 153 = .ok (.iadd, 1) := by decide +kernel
theorem dX10_winters_154 : decode cX10_winters 154 = .ok (.istore 7, 2) := by decide +kernel
theorem dX10_winters_156 : decode cX10_winters 156 = .ok (.iconst 0, 1) := by decide +kernel
theorem dX10_winters_157 : decode cX10_winters 157 = .ok (.istore 10, 2) := by decide +kernel
theorem dX10_winters_159 : decode cX10_winters 159 = .ok (.iload 10, 2) := by decide +kernel
theorem dX10_winters_161 : decode cX10_winters 161 = .ok (.aload_n 0, 1) := by decide +kernel
theorem dX10_winters_162 : decode cX10_winters 162 = .ok (.getfield 9, 3) := by decide +kernel
theorem dX10_winters_165 : decode cX10_winters 165 = .ok (.iconst 5, 1) := by decide +kernel
theorem dX10_winters_166 : decode cX10_winters 166 = .ok (.iaload, 1) := by decide +kernel
theorem dX10_winters_167 : decode cX10_winters 167 = .ok (.if_icmp .ge 21, 3) := by decide +kernel
theorem dX10_winters_170 : decode cX10_winters 170 = .ok (.iload 8, 2) := by decide +kernel
theorem dX10_winters_172 : decode cX10_winters 172 = .ok (.aload_n 0, 1) := by decide +kernel
theorem dX10_winters_173 : decode cX10_winters 173 = .ok (.getfield 37, 3) := by decide +kernel
theorem dX10_winters_176 : decode cX10_winters 176 = .ok (.iload 10, 2) := by decide +kernel
theorem dX10_winters_178 : decode cX10_winters 178 = .ok (.iaload, 1) := by decide +kernel
theorem dX10_winters_179 : decode cX10_winters 179 = .ok (.iadd, 1) := by decide +kernel
theorem dX10_winters_180 : decode cX10_winters 180 = .ok (.istore 8, 2) := by decide +kernel
theorem dX10_winters_182 : decode cX10_winters 182 = .ok (.iinc 10 1, 3) := by decide +kernel
theorem dX10_winters_185 : decode cX10_winters 185 = .ok (.goto (-26), 3) := by decide +kernel
theorem dX10_winters_188 : decode cX10_winters 188 = .ok (.aload_n 0, 1) := by decide +kernel
theorem dX10_winters_189 : decode cX10_winters 189 = .ok (.getfield 9, 3) := by decide +kernel
theorem dX10_winters_192 : decode cX10_winters 192 = .ok (.bipush 10, 2) := by decide +kernel
theorem dX10_winters_194 : decode cX10_winters 194 = .ok (.iaload, 1) := by decide +kernel
theorem dX10_winters_195 : decode cX10_winters 195 = .ok (.istore 6, 2) := by decide +kernel
theorem dX10_winters_197 : decode cX10_winters 197 = .ok (.aload_n 0, 1) := by decide +kernel
theorem dX10_winters_198 : decode cX10_winters 198 = .ok (.invokevirtual 454, 3) := by decide +kernel
theorem dX10_winters_201 : decode cX10_winters 201 = .ok (.iinc 9 1, 3) := by decide +kernel
theorem dX10_winters_204 : decode cX10_winters 204 = .ok (.goto (-122), 3) := by decide +kernel
theorem dX10_winters_207 : decode cX10_winters 207 = .ok (.aload_n 0, 1) := by decide +kernel
theorem dX10_winters_208 : decode cX10_winters 208 = .ok (.getfield 9, 3) := by decide +kernel
theorem dX10_winters_211 : decode cX10_winters 211 = .ok (.bipush 10, 2) := by decide +kernel
theorem dX10_winters_213 : decode cX10_winters 213 = .ok (.iload 5, 2) := by decide +kernel
theorem dX10_winters_215 : decode cX10_winters 215 = .ok (.iastore, 1) := by decide +kernel
theorem dX10_winters_216 : decode cX10_winters 216 = .ok (.iload 4, 2) := by decide +kernel
theorem dX10_winters_218 : decode cX10_winters 218 = .ok (.ifCond .ne 8, 3) := by decide +kernel
theorem dX10_winters_221 : decode cX10_winters 221 = .ok (.iload 7, 2) := by decide +kernel
theorem dX10_winters_223 : decode cX10_winters 223 = .ok (.goto 5, 3) := by decide +kernel
theorem dX10_winters_226 : decode cX10_winters 226 = .ok (.iload 8, 2) := by decide +kernel
theorem dX10_winters_228 : decode cX10_winters 228 = .ok (.ireturn, 1) := by decide +kernel
theorem dX10_count_0 : decode cX10_count 0 = .ok (.iload_n 1, 1) := by decide +kernel
theorem dX10_count_1 : decode cX10_count 1 = .ok (.tableswitch 197 0 15 #[79, 86, 93, 100, 107, 114, 121, 126, 134, 142, 150, 158, 171, 179, 184, 192], 79) := by decide +kernel
theorem dX10_count_80 : decode cX10_count 80 = .ok (.aload_n 0, 1) := by decide +kernel
theorem dX10_count_81 : decode cX10_count 81 = .ok (.getfield 9, 3) := by decide +kernel
theorem dX10_count_84 : decode cX10_count 84 = .ok (.iconst 0, 1) := by decide +kernel
theorem dX10_count_85 : decode cX10_count 85 = .ok (.iaload, 1) := by decide +kernel
theorem dX10_count_86 : decode cX10_count 86 = .ok (.ireturn, 1) := by decide +kernel
theorem dX10_count_87 : decode cX10_count 87 = .ok (.aload_n 0, 1) := by decide +kernel
theorem dX10_count_88 : decode cX10_count 88 = .ok (.getfield 9, 3) := by decide +kernel
theorem dX10_count_91 : decode cX10_count 91 = .ok (.iconst 1, 1) := by decide +kernel
theorem dX10_count_92 : decode cX10_count 92 = .ok (.iaload, 1) := by decide +kernel
theorem dX10_count_93 : decode cX10_count 93 = .ok (.ireturn, 1) := by decide +kernel
theorem dX10_count_94 : decode cX10_count 94 = .ok (.aload_n 0, 1) := by decide +kernel
theorem dX10_count_95 : decode cX10_count 95 = .ok (.getfield 9, 3) := by decide +kernel
theorem dX10_count_98 : decode cX10_count 98 = .ok (.iconst 2, 1) := by decide +kernel
theorem dX10_count_99 : decode cX10_count 99 = .ok (.iaload, 1) := by decide +kernel
theorem dX10_count_100 : decode cX10_count 100 = .ok (.ireturn, 1) := by decide +kernel
theorem dX10_count_101 : decode cX10_count 101 = .ok (.aload_n 0, 1) := by decide +kernel
theorem dX10_count_102 : decode cX10_count 102 = .ok (.getfield 9, 3) := by decide +kernel
theorem dX10_count_105 : decode cX10_count 105 = .ok (.iconst 3, 1) := by decide +kernel
theorem dX10_count_106 : decode cX10_count 106 = .ok (.iaload, 1) := by decide +kernel
theorem dX10_count_107 : decode cX10_count 107 = .ok (.ireturn, 1) := by decide +kernel
theorem dX10_count_108 : decode cX10_count 108 = .ok (.aload_n 0, 1) := by decide +kernel
theorem dX10_count_109 : decode cX10_count 109 = .ok (.getfield 9, 3) := by decide +kernel
theorem dX10_count_112 : decode cX10_count 112 = .ok (.iconst 4, 1) := by decide +kernel
theorem dX10_count_113 : decode cX10_count 113 = .ok (.iaload, 1) := by decide +kernel
theorem dX10_count_114 : decode cX10_count 114 = .ok (.ireturn, 1) := by decide +kernel
theorem dX10_count_115 : decode cX10_count 115 = .ok (.aload_n 0, 1) := by decide +kernel
theorem dX10_count_116 : decode cX10_count 116 = .ok (.getfield 9, 3) := by decide +kernel
theorem dX10_count_119 : decode cX10_count 119 = .ok (.iconst 5, 1) := by decide +kernel
theorem dX10_count_120 : decode cX10_count 120 = .ok (.iaload, 1) := by decide +kernel
theorem dX10_count_121 : decode cX10_count 121 = .ok (.ireturn, 1) := by decide +kernel
theorem dX10_count_122 : decode cX10_count 122 = .ok (.aload_n 0, 1) := by decide +kernel
theorem dX10_count_123 : decode cX10_count 123 = .ok (.getfield 347, 3) := by decide +kernel
theorem dX10_count_126 : decode cX10_count 126 = .ok (.ireturn, 1) := by decide +kernel
theorem dX10_count_127 : decode cX10_count 127 = .ok (.aload_n 0, 1) := by decide +kernel
theorem dX10_count_128 : decode cX10_count 128 = .ok (.getfield 9, 3) := by decide +kernel
theorem dX10_count_131 : decode cX10_count 131 = .ok (.bipush 11, 2) := by decide +kernel
theorem dX10_count_133 : decode cX10_count 133 = .ok (.iaload, 1) := by decide +kernel
theorem dX10_count_134 : decode cX10_count 134 = .ok (.ireturn, 1) := by decide +kernel
theorem dX10_count_135 : decode cX10_count 135 = .ok (.aload_n 0, 1) := by decide +kernel
theorem dX10_count_136 : decode cX10_count 136 = .ok (.getfield 9, 3) := by decide +kernel
theorem dX10_count_139 : decode cX10_count 139 = .ok (.bipush 6, 2) := by decide +kernel
theorem dX10_count_141 : decode cX10_count 141 = .ok (.iaload, 1) := by decide +kernel
theorem dX10_count_142 : decode cX10_count 142 = .ok (.ireturn, 1) := by decide +kernel
theorem dX10_count_143 : decode cX10_count 143 = .ok (.aload_n 0, 1) := by decide +kernel
theorem dX10_count_144 : decode cX10_count 144 = .ok (.getfield 9, 3) := by decide +kernel
theorem dX10_count_147 : decode cX10_count 147 = .ok (.bipush 7, 2) := by decide +kernel
theorem dX10_count_149 : decode cX10_count 149 = .ok (.iaload, 1) := by decide +kernel
theorem dX10_count_150 : decode cX10_count 150 = .ok (.ireturn, 1) := by decide +kernel
theorem dX10_count_151 : decode cX10_count 151 = .ok (.aload_n 0, 1) := by decide +kernel
theorem dX10_count_152 : decode cX10_count 152 = .ok (.getfield 9, 3) := by decide +kernel
theorem dX10_count_155 : decode cX10_count 155 = .ok (.bipush 8, 2) := by decide +kernel
theorem dX10_count_157 : decode cX10_count 157 = .ok (.iaload, 1) := by decide +kernel
theorem dX10_count_158 : decode cX10_count 158 = .ok (.ireturn, 1) := by decide +kernel
theorem dX10_count_159 : decode cX10_count 159 = .ok (.aload_n 0, 1) := by decide +kernel
theorem dX10_count_160 : decode cX10_count 160 = .ok (.invokevirtual 402, 3) := by decide +kernel
theorem dX10_count_163 : decode cX10_count 163 = .ok (.ifCond .eq 7, 3) := by decide +kernel
theorem dX10_count_166 : decode cX10_count 166 = .ok (.iconst 1, 1) := by decide +kernel
theorem dX10_count_167 : decode cX10_count 167 = .ok (.goto 4, 3) := by decide +kernel
theorem dX10_count_170 : decode cX10_count 170 = .ok (.iconst 0, 1) := by decide +kernel
theorem dX10_count_171 : decode cX10_count 171 = .ok (.ireturn, 1) := by decide +kernel
theorem dX10_count_172 : decode cX10_count 172 = .ok (.aload_n 0, 1) := by decide +kernel
theorem dX10_count_173 : decode cX10_count 173 = .ok (.getfield 9, 3) := by decide +kernel
theorem dX10_count_176 : decode cX10_count 176 = .ok (.bipush 9, 2) := by decide +kernel
theorem dX10_count_178 : decode cX10_count 178 = .ok (.iaload, 1) := by decide +kernel
theorem dX10_count_179 : decode cX10_count 179 = .ok (.ireturn, 1) := by decide +kernel
theorem dX10_count_180 : decode cX10_count 180 = .ok (.aload_n 0, 1) := by decide +kernel
theorem dX10_count_181 : decode cX10_count 181 = .ok (.getfield 334, 3) := by decide +kernel
theorem dX10_count_184 : decode cX10_count 184 = .ok (.ireturn, 1) := by decide +kernel
theorem dX10_count_185 : decode cX10_count 185 = .ok (.aload_n 0, 1) := by decide +kernel
theorem dX10_count_186 : decode cX10_count 186 = .ok (.getfield 9, 3) := by decide +kernel
theorem dX10_count_189 : decode cX10_count 189 = .ok (.bipush 10, 2) := by decide +kernel
theorem dX10_count_191 : decode cX10_count 191 = .ok (.iaload, 1) := by decide +kernel
theorem dX10_count_192 : decode cX10_count 192 = .ok (.ireturn, 1) := by decide +kernel
theorem dX10_count_193 : decode cX10_count 193 = .ok (.aload_n 0, 1) := by decide +kernel
theorem dX10_count_194 : decode cX10_count 194 = .ok (.getfield 160, 3) := by decide +kernel
theorem dX10_count_197 : decode cX10_count 197 = .ok (.ireturn, 1) := by decide +kernel
theorem dX10_count_198 : decode cX10_count 198 = .ok (.iconst (-1), 1) := by decide +kernel
theorem dX10_count_199 : decode cX10_count 199 = .ok (.ireturn, 1) := by decide +kernel
theorem dX10_image_0 : decode cX10_image 0 = .ok (.iload_n 1, 1) := by decide +kernel
theorem dX10_image_1 : decode cX10_image 1 = .ok (.i2l, 1) := by decide +kernel
theorem dX10_image_2 : decode cX10_image 2 = .ok (.lconst 0, 1) := by decide +kernel
theorem dX10_image_3 : decode cX10_image 3 = .ok (.ldc2_w 462, 3) := by decide +kernel
theorem dX10_image_6 : decode cX10_image 6 = .ok (.invokestatic 152, 3) := by decide +kernel
theorem dX10_image_9 : decode cX10_image 9 = .ok (.ifCond .ne 5, 3) := by decide +kernel
theorem dX10_image_12 : decode cX10_image 12 = .ok (.iconst (-1), 1) := by decide +kernel
theorem dX10_image_13 : decode cX10_image 13 = .ok (.ireturn, 1) := by decide +kernel
theorem dX10_image_14 : decode cX10_image 14 = .ok (.aload_n 0, 1) := by decide +kernel
theorem dX10_image_15 : decode cX10_image 15 = .ok (.getfield 142, 3) := by decide +kernel
theorem dX10_image_18 : decode cX10_image 18 = .ok (.iload_n 1, 1) := by decide +kernel
theorem dX10_image_19 : decode cX10_image 19 = .ok (.iconst 1, 1) := by decide +kernel
theorem dX10_image_20 : decode cX10_image 20 = .ok (.bastore, 1) := by decide +kernel
theorem dX10_image_21 : decode cX10_image 21 = .ok (.aload_n 0, 1) := by decide +kernel
theorem dX10_image_22 : decode cX10_image 22 = .ok (.getfield 146, 3) := by decide +kernel
theorem dX10_image_25 : decode cX10_image 25 = .ok (.iload_n 1, 1) := by decide +kernel
theorem dX10_image_26 : decode cX10_image 26 = .ok (.aload_n 0, 1) := by decide +kernel
theorem dX10_image_27 : decode cX10_image 27 = .ok (.getfield 327, 3) := by decide +kernel
theorem dX10_image_30 : decode cX10_image 30 = .ok (.bastore, 1) := by decide +kernel
theorem dX10_image_31 : decode cX10_image 31 = .ok (.aload_n 0, 1) := by decide +kernel
theorem dX10_image_32 : decode cX10_image 32 = .ok (.iload_n 1, 1) := by decide +kernel
theorem dX10_image_33 : decode cX10_image 33 = .ok (.iconst 0, 1) := by decide +kernel
theorem dX10_image_34 : decode cX10_image 34 = .ok (.invokevirtual 443, 3) := by decide +kernel
theorem dX10_image_37 : decode cX10_image 37 = .ok (.aload_n 0, 1) := by decide +kernel
theorem dX10_image_38 : decode cX10_image 38 = .ok (.getfield 9, 3) := by decide +kernel
theorem dX10_image_41 : decode cX10_image 41 = .ok (.bipush 6, 2) := by decide +kernel
theorem dX10_image_43 : decode cX10_image 43 = .ok (.iaload, 1) := by decide +kernel
theorem dX10_image_44 : decode cX10_image 44 = .ok (.ireturn, 1) := by decide +kernel
theorem dX10_back_0 : decode cX10_back 0 = .ok (.iload_n 1, 1) := by decide +kernel
theorem dX10_back_1 : decode cX10_back 1 = .ok (.i2l, 1) := by decide +kernel
theorem dX10_back_2 : decode cX10_back 2 = .ok (.lconst 0, 1) := by decide +kernel
theorem dX10_back_3 : decode cX10_back 3 = .ok (.ldc2_w 462, 3) := by decide +kernel
theorem dX10_back_6 : decode cX10_back 6 = .ok (.invokestatic 152, 3) := by decide +kernel
theorem dX10_back_9 : decode cX10_back 9 = .ok (.ifCond .eq 12, 3) := by decide +kernel
theorem dX10_back_12 : decode cX10_back 12 = .ok (.aload_n 0, 1) := by decide +kernel
theorem dX10_back_13 : decode cX10_back 13 = .ok (.getfield 142, 3) := by decide +kernel
theorem dX10_back_16 : decode cX10_back 16 = .ok (.iload_n 1, 1) := by decide +kernel
theorem dX10_back_17 : decode cX10_back 17 = .ok (.baload, 1) := by decide +kernel
theorem dX10_back_18 : decode cX10_back 18 = .ok (.ifCond .ne 5, 3) := by decide +kernel
theorem dX10_back_21 : decode cX10_back 21 = .ok (.iconst (-1), 1) := by decide +kernel
theorem dX10_back_22 : decode cX10_back 22 = .ok (.ireturn, 1) := by decide +kernel
theorem dX10_back_23 : decode cX10_back 23 = .ok (.aload_n 0, 1) := by decide +kernel
theorem dX10_back_24 : decode cX10_back 24 = .ok (.aload_n 0, 1) := by decide +kernel
theorem dX10_back_25 : decode cX10_back 25 = .ok (.getfield 146, 3) := by decide +kernel
theorem dX10_back_28 : decode cX10_back 28 = .ok (.iload_n 1, 1) := by decide +kernel
theorem dX10_back_29 : decode cX10_back 29 = .ok (.baload, 1) := by decide +kernel
theorem dX10_back_30 : decode cX10_back 30 = .ok (.putfield 327, 3) := by decide +kernel
theorem dX10_back_33 : decode cX10_back 33 = .ok (.aload_n 0, 1) := by decide +kernel
theorem dX10_back_34 : decode cX10_back 34 = .ok (.iload_n 1, 1) := by decide +kernel
theorem dX10_back_35 : decode cX10_back 35 = .ok (.iconst 1, 1) := by decide +kernel
theorem dX10_back_36 : decode cX10_back 36 = .ok (.invokevirtual 443, 3) := by decide +kernel
theorem dX10_back_39 : decode cX10_back 39 = .ok (.aload_n 0, 1) := by decide +kernel
theorem dX10_back_40 : decode cX10_back 40 = .ok (.getfield 9, 3) := by decide +kernel
theorem dX10_back_43 : decode cX10_back 43 = .ok (.bipush 6, 2) := by decide +kernel
theorem dX10_back_45 : decode cX10_back 45 = .ok (.iaload, 1) := by decide +kernel
theorem dX10_back_46 : decode cX10_back 46 = .ok (.ireturn, 1) := by decide +kernel
def fX10_mostAlike_B57 (p1 : Int32) (p2 : Int32) (st : St) (k5 : Int32 → Int32 → Option Int32) (k17 : Int32 → Int32 → Int32 → Int32 → Option Int32) (y3 : Int32) (y4 : Int32) (y6 : Int32) (z0 : Int32) (z1 : Int32) : Option Int32 := nm (z1 + z0) (fun x1 => nm (y6 + (1 : Int32)) (fun x2 => k17 y3 y4 x1 x2))
set_option maxRecDepth 100000 in
theorem wX10_mostAlike_B57 {p : Program} {l : Launch} {e : Env} {s : State} {m : MethodId} {args : Array Value} {below : List Frame} {meth : Method} {c : Code} {E : Ev} (hL : ∀ k, fxM k = true → k ∈ eL E) {p1 : Int32} {p2 : Int32} {st : St} {sz : Nat} {res : Int32} (X : CX p s m args c E RX10 cX10_mostAlike 7 (Af E sz)) (hr : meth.sig.returnType = (some .int)) (hlk : meth.locks = false) (G : Gd E st (Af E sz) s s.heap []) {k5 : Int32 → Int32 → Option Int32} (hk5 : ∀ (y3 : Int32) (y4 : Int32), k5 y3 y4 = some res → ∀ ls : Array Slot, lv_has ls 7 [(0, .ref (eq E 500)), (1, .int p1), (2, .int p2), (3, .int y3), (4, .int y4)] → W p l e (rmk 0) s m args below meth c s.heap [] 0 0 (MQ below (QRi res) args s 0 0 (NoF)) (F0 m 5 ls [])) {k17 : Int32 → Int32 → Int32 → Int32 → Option Int32} (hk17 : ∀ (y3 : Int32) (y4 : Int32) (y5 : Int32) (y6 : Int32), k17 y3 y4 y5 y6 = some res → ∀ ls : Array Slot, lv_has ls 7 [(0, .ref (eq E 500)), (1, .int p1), (2, .int p2), (3, .int y3), (4, .int y4), (5, .int y5), (6, .int y6)] → W p l e (rmk 0) s m args below meth c s.heap [] 0 0 (MQ below (QRi res) args s 0 0 (NoF)) (F0 m 17 ls [])) : ∀ (y3 : Int32) (y4 : Int32) (y6 : Int32) (z0 : Int32) (z1 : Int32), fX10_mostAlike_B57 p1 p2 st k5 k17 y3 y4 y6 z0 z1 = some res → ∀ ls : Array Slot, lv_has ls 7 [(0, .ref (eq E 500)), (1, .int p1), (2, .int p2), (3, .int y3), (4, .int y4), (6, .int y6)] → W p l e (rmk 0) s m args below meth c s.heap [] 0 0 (MQ below (QRi res) args s 0 0 (NoF)) (F0 m 57 ls [.int z0, .int z1]) := by
  have hx := X.1.1
  have hb := X.1.2.1
  intro y3 y4 y6 z0 z1 hf ls hl
  unfold fX10_mostAlike_B57 at hf
  refine lv_iadd hx hb dX10_mostAlike_57 ?_
  refine lv_topi (fun x1 ex1 => ?_)
  have hf := nm_s hf x1 ex1
  refine lv_istore (lv' := [(5, .int x1), (0, .ref (eq E 500)), (1, .int p1), (2, .int p2), (3, .int y3), (4, .int y4), (6, .int y6)]) hx hb dX10_mostAlike_58 hl (by decide) rfl (fun ls hl => ?_)
  obtain ⟨x2, ex2⟩ : ∃ y : Int32, y = (y6 + (1 : Int32)) := ⟨_, rfl⟩
  have hf := nm_s hf x2 ex2
  refine lv_iinc (k := 6) (v := x2) (lv' := [(6, .int x2), (5, .int x1), (0, .ref (eq E 500)), (1, .int p1), (2, .int p2), (3, .int y3), (4, .int y4)]) hx hb dX10_mostAlike_60 hl rfl (by rw [ex2]; rfl) (by decide) rfl (fun ls hl => ?_)
  refine lv_goto (tgt := 17) hx hb dX10_mostAlike_63 (by decide) ?_
  exact hk17 y3 y4 x1 x2 hf _ (lv_sub hl [2, 3, 4, 5, 6, 1, 0] rfl)
def fX10_mostAlike_L17 (p1 : Int32) (p2 : Int32) (st : St) (k5 : Int32 → Int32 → Option Int32) : Nat → Int32 → Int32 → Int32 → Int32 → Option Int32
  | 0, _, _, _, _ => none
  | n + 1, y3, y4, y5, y6 => if p2 ≤ y6 then (if y5 ≤ y3 then (nm (y4 + (1 : Int32)) (fun x3 => k5 y3 x3)) else (nm (y4 + (1 : Int32)) (fun x3 => k5 y5 x3))) else (gd (ix (((8 : Int32) * y6) + p1) 56) (gd (ix (((8 : Int32) * y4) + p1) 56) (if (st.1 558 (((8 : Int32) * y6) + p1).toNatClampNeg) = (st.1 558 (((8 : Int32) * y4) + p1).toNatClampNeg) then (fX10_mostAlike_B57 p1 p2 st k5 (fX10_mostAlike_L17 p1 p2 st k5 n) y3 y4 y6 (1 : Int32) y5) else (fX10_mostAlike_B57 p1 p2 st k5 (fX10_mostAlike_L17 p1 p2 st k5 n) y3 y4 y6 (0 : Int32) y5))))
set_option maxRecDepth 100000 in
theorem wX10_mostAlike_L17 {p : Program} {l : Launch} {e : Env} {s : State} {m : MethodId} {args : Array Value} {below : List Frame} {meth : Method} {c : Code} {E : Ev} (hL : ∀ k, fxM k = true → k ∈ eL E) {p1 : Int32} {p2 : Int32} {st : St} {sz : Nat} {res : Int32} (X : CX p s m args c E RX10 cX10_mostAlike 7 (Af E sz)) (hr : meth.sig.returnType = (some .int)) (hlk : meth.locks = false) (G : Gd E st (Af E sz) s s.heap []) {k5 : Int32 → Int32 → Option Int32} (hk5 : ∀ (y3 : Int32) (y4 : Int32), k5 y3 y4 = some res → ∀ ls : Array Slot, lv_has ls 7 [(0, .ref (eq E 500)), (1, .int p1), (2, .int p2), (3, .int y3), (4, .int y4)] → W p l e (rmk 0) s m args below meth c s.heap [] 0 0 (MQ below (QRi res) args s 0 0 (NoF)) (F0 m 5 ls [])) : ∀ (n : Nat) (y3 : Int32) (y4 : Int32) (y5 : Int32) (y6 : Int32), fX10_mostAlike_L17 p1 p2 st k5 n y3 y4 y5 y6 = some res → ∀ ls : Array Slot, lv_has ls 7 [(0, .ref (eq E 500)), (1, .int p1), (2, .int p2), (3, .int y3), (4, .int y4), (5, .int y5), (6, .int y6)] → W p l e (rmk 0) s m args below meth c s.heap [] 0 0 (MQ below (QRi res) args s 0 0 (NoF)) (F0 m 17 ls []) := by
  have hx := X.1.1
  have hb := X.1.2.1
  intro n
  induction n with
  | zero =>
    intro y3 y4 y5 y6 hf ls hl
    cases (show (none : Option Int32) = some res from hf)
  | succ n ih =>
    intro y3 y4 y5 y6 hf ls hl
    rw [fX10_mostAlike_L17] at hf
    refine lv_iload hx hb dX10_mostAlike_17 (lv_at hl 6 rfl) ?_
    refine lv_iload_n hx hb dX10_mostAlike_19 rfl (lv_at hl 2 rfl) ?_
    refine lv_icmp_ge (tgt := 66) hx hb dX10_mostAlike_20 (by decide) (fun c1 => ?_) (fun c1 => ?_)
    · have hf := it_t hf c1
      refine lv_iload hx hb dX10_mostAlike_66 (lv_at hl 5 rfl) ?_
      refine lv_iload_n hx hb dX10_mostAlike_68 rfl (lv_at hl 3 rfl) ?_
      refine lv_icmp_le (tgt := 77) hx hb dX10_mostAlike_69 (by decide) (fun c2 => ?_) (fun c2 => ?_)
      · have hf := it_t hf c2
        refine lv_iload_n hx hb dX10_mostAlike_77 rfl (lv_at hl 3 rfl) ?_
        refine lv_istore_n (lv' := [(3, .int y3), (0, .ref (eq E 500)), (1, .int p1), (2, .int p2), (4, .int y4), (5, .int y5), (6, .int y6)]) hx hb dX10_mostAlike_78 rfl hl (by decide) rfl (fun ls hl => ?_)
        obtain ⟨x3, ex3⟩ : ∃ y : Int32, y = (y4 + (1 : Int32)) := ⟨_, rfl⟩
        have hf := nm_s hf x3 ex3
        refine lv_iinc (k := 4) (v := x3) (lv' := [(4, .int x3), (3, .int y3), (0, .ref (eq E 500)), (1, .int p1), (2, .int p2), (5, .int y5), (6, .int y6)]) hx hb dX10_mostAlike_79 hl rfl (by rw [ex3]; rfl) (by decide) rfl (fun ls hl => ?_)
        refine lv_goto (tgt := 5) hx hb dX10_mostAlike_82 (by decide) ?_
        exact hk5 y3 x3 hf _ (lv_sub hl [2, 3, 4, 1, 0] rfl)
      · have hf := it_f hf c2
        refine lv_iload hx hb dX10_mostAlike_72 (lv_at hl 5 rfl) ?_
        refine lv_goto (tgt := 78) hx hb dX10_mostAlike_74 (by decide) ?_
        refine lv_istore_n (lv' := [(3, .int y5), (0, .ref (eq E 500)), (1, .int p1), (2, .int p2), (4, .int y4), (5, .int y5), (6, .int y6)]) hx hb dX10_mostAlike_78 rfl hl (by decide) rfl (fun ls hl => ?_)
        obtain ⟨x3, ex3⟩ : ∃ y : Int32, y = (y4 + (1 : Int32)) := ⟨_, rfl⟩
        have hf := nm_s hf x3 ex3
        refine lv_iinc (k := 4) (v := x3) (lv' := [(4, .int x3), (3, .int y5), (0, .ref (eq E 500)), (1, .int p1), (2, .int p2), (5, .int y5), (6, .int y6)]) hx hb dX10_mostAlike_79 hl rfl (by rw [ex3]; rfl) (by decide) rfl (fun ls hl => ?_)
        refine lv_goto (tgt := 5) hx hb dX10_mostAlike_82 (by decide) ?_
        exact hk5 y5 x3 hf _ (lv_sub hl [2, 3, 4, 1, 0] rfl)
    · have hf := it_f hf c1
      refine lv_iload hx hb dX10_mostAlike_23 (lv_at hl 5 rfl) ?_
      refine lv_aload_n hx hb dX10_mostAlike_25 rfl (lv_at hl 0 rfl) ?_
      refine gf10 X G (hL 500 rfl) rfl 57 (by decide) rfl kf_X10_136 iwX10 dX10_mostAlike_26 ?_
      refine lv_bipush (v := (8 : Int32)) hx hb dX10_mostAlike_29 (by decide) ?_
      refine lv_iload hx hb dX10_mostAlike_31 (lv_at hl 6 rfl) ?_
      refine lv_imul hx hb dX10_mostAlike_33 ?_
      refine lv_iload_n hx hb dX10_mostAlike_34 rfl (lv_at hl 1 rfl) ?_
      refine lv_iadd hx hb dX10_mostAlike_35 ?_
      obtain ⟨h2, hf⟩ := gd_s hf
      refine ia_ld (k := 558) (n := 56) X G (hL 558 rfl) rfl (by decide) (ix_in h2) dX10_mostAlike_36 ?_
      refine lv_aload_n hx hb dX10_mostAlike_37 rfl (lv_at hl 0 rfl) ?_
      refine gf10 X G (hL 500 rfl) rfl 57 (by decide) rfl kf_X10_136 iwX10 dX10_mostAlike_38 ?_
      refine lv_bipush (v := (8 : Int32)) hx hb dX10_mostAlike_41 (by decide) ?_
      refine lv_iload hx hb dX10_mostAlike_43 (lv_at hl 4 rfl) ?_
      refine lv_imul hx hb dX10_mostAlike_45 ?_
      refine lv_iload_n hx hb dX10_mostAlike_46 rfl (lv_at hl 1 rfl) ?_
      refine lv_iadd hx hb dX10_mostAlike_47 ?_
      obtain ⟨h3, hf⟩ := gd_s hf
      refine ia_ld (k := 558) (n := 56) X G (hL 558 rfl) rfl (by decide) (ix_in h3) dX10_mostAlike_48 ?_
      refine lv_icmp_ne (tgt := 56) hx hb dX10_mostAlike_49 (by decide) (fun c4 => ?_) (fun c4 => ?_)
      · have hf := it_f hf c4
        refine lv_iconst (v := (0 : Int32)) hx hb dX10_mostAlike_56 (by decide) ?_
        exact wX10_mostAlike_B57 hL X hr hlk G hk5 ih y3 y4 y6 (0 : Int32) y5 hf _ (lv_sub hl [0, 1, 2, 3, 4, 6] rfl)
      · have hf := it_t hf c4
        refine lv_iconst (v := (1 : Int32)) hx hb dX10_mostAlike_52 (by decide) ?_
        refine lv_goto (tgt := 57) hx hb dX10_mostAlike_53 (by decide) ?_
        exact wX10_mostAlike_B57 hL X hr hlk G hk5 ih y3 y4 y6 (1 : Int32) y5 hf _ (lv_sub hl [0, 1, 2, 3, 4, 6] rfl)
def fX10_mostAlike_L5 (p1 : Int32) (p2 : Int32) (st : St) : Nat → Int32 → Int32 → Option Int32
  | 0, _, _ => none
  | n + 1, y3, y4 => if p2 ≤ y4 then (some y3) else (fX10_mostAlike_L17 p1 p2 st (fX10_mostAlike_L5 p1 p2 st n) 10000 y3 y4 (0 : Int32) (0 : Int32))
set_option maxRecDepth 100000 in
theorem wX10_mostAlike_L5 {p : Program} {l : Launch} {e : Env} {s : State} {m : MethodId} {args : Array Value} {below : List Frame} {meth : Method} {c : Code} {E : Ev} (hL : ∀ k, fxM k = true → k ∈ eL E) {p1 : Int32} {p2 : Int32} {st : St} {sz : Nat} {res : Int32} (X : CX p s m args c E RX10 cX10_mostAlike 7 (Af E sz)) (hr : meth.sig.returnType = (some .int)) (hlk : meth.locks = false) (G : Gd E st (Af E sz) s s.heap []) : ∀ (n : Nat) (y3 : Int32) (y4 : Int32), fX10_mostAlike_L5 p1 p2 st  n y3 y4 = some res → ∀ ls : Array Slot, lv_has ls 7 [(0, .ref (eq E 500)), (1, .int p1), (2, .int p2), (3, .int y3), (4, .int y4)] → W p l e (rmk 0) s m args below meth c s.heap [] 0 0 (MQ below (QRi res) args s 0 0 (NoF)) (F0 m 5 ls []) := by
  have hx := X.1.1
  have hb := X.1.2.1
  intro n
  induction n with
  | zero =>
    intro y3 y4 hf ls hl
    cases (show (none : Option Int32) = some res from hf)
  | succ n ih =>
    intro y3 y4 hf ls hl
    rw [fX10_mostAlike_L5] at hf
    refine lv_iload hx hb dX10_mostAlike_5 (lv_at hl 4 rfl) ?_
    refine lv_iload_n hx hb dX10_mostAlike_7 rfl (lv_at hl 2 rfl) ?_
    refine lv_icmp_ge (tgt := 85) hx hb dX10_mostAlike_8 (by decide) (fun c1 => ?_) (fun c1 => ?_)
    · have hf := it_t hf c1
      refine lv_iload_n hx hb dX10_mostAlike_85 rfl (lv_at hl 3 rfl) ?_
      exact rtRi X hlk hr (so_i hf) dX10_mostAlike_86
    · have hf := it_f hf c1
      refine lv_iconst (v := (0 : Int32)) hx hb dX10_mostAlike_11 (by decide) ?_
      refine lv_istore (lv' := [(5, .int (0 : Int32)), (0, .ref (eq E 500)), (1, .int p1), (2, .int p2), (3, .int y3), (4, .int y4)]) hx hb dX10_mostAlike_12 hl (by decide) rfl (fun ls hl => ?_)
      refine lv_iconst (v := (0 : Int32)) hx hb dX10_mostAlike_14 (by decide) ?_
      refine lv_istore (lv' := [(6, .int (0 : Int32)), (5, .int (0 : Int32)), (0, .ref (eq E 500)), (1, .int p1), (2, .int p2), (3, .int y3), (4, .int y4)]) hx hb dX10_mostAlike_15 hl (by decide) rfl (fun ls hl => ?_)
      exact wX10_mostAlike_L17 hL X hr hlk G ih 10000 y3 y4 (0 : Int32) (0 : Int32) hf _ (lv_sub hl [2, 3, 4, 5, 6, 1, 0] rfl)
def fX10_mostAlike (st : St) (p1 : Int32) (p2 : Int32) : Option Int32 := fX10_mostAlike_L5 p1 p2 st 10000 (0 : Int32) (0 : Int32)
set_option maxRecDepth 100000 in
theorem tX10_mostAlike (l : Launch) (E : Ev) (st : St) (sz : Nat) (hL : ∀ k, fxM k = true → k ∈ eL E) (p1 : Int32) (p2 : Int32) {res : Int32} (hf : fX10_mostAlike st p1 p2 = some res) : Met l yX10_mostAlike (.code yX10_mostAlike cX10_mostAlike 7 (some .int) :: uW) (rmk 0) (va_Pc [.ref (eq E 500), .int p1, .int p2] (Pre E st sz)) (QRi res) 0 0 (NoF) := by
  refine Met_in (by decide) (Nat.le_of_ble_eq_true rfl) ?_
  intro p e s m below meth c X hr hlk hz G ls hl
  have hx := X.1.1
  have hb := X.1.2.1
  have hl : lv_has ls 7 [(0, .ref (eq E 500)), (1, .int p1), (2, .int p2)] := hl
  unfold fX10_mostAlike at hf
  refine lv_iconst (v := (0 : Int32)) hx hb dX10_mostAlike_0 (by decide) ?_
  refine lv_istore_n (lv' := [(3, .int (0 : Int32)), (0, .ref (eq E 500)), (1, .int p1), (2, .int p2)]) hx hb dX10_mostAlike_1 rfl hl (by decide) rfl (fun ls hl => ?_)
  refine lv_iconst (v := (0 : Int32)) hx hb dX10_mostAlike_2 (by decide) ?_
  refine lv_istore (lv' := [(4, .int (0 : Int32)), (3, .int (0 : Int32)), (0, .ref (eq E 500)), (1, .int p1), (2, .int p2)]) hx hb dX10_mostAlike_3 hl (by decide) rfl (fun ls hl => ?_)
  exact wX10_mostAlike_L5 hL X hr hlk G 10000 (0 : Int32) (0 : Int32) hf _ (lv_sub hl [2, 3, 4, 1, 0] rfl)
def fX10_look_L125 (p1 : Int32) (p2 : Int32) : Nat → Int32 → Int32 → Int32 → St → Option (Int32 × St)
  | 0, _, _, _, _ => none
  | n + 1, y3, y4, y5, st => if (st.1 502 3) ≤ y5 then (if p2 = 0 then (some (y4, st)) else (br (fX10_mostAlike st y4 y3) (fun x5 => some (x5, st)))) else (br (fX10_mostAlike st y5 y3) (fun x4 => br (fX10_mostAlike st y4 y3) (fun x6 => if x6 ≤ x4 then (nm (y5 + (1 : Int32)) (fun x8 => (fX10_look_L125 p1 p2 n) y3 y4 x8 st)) else (nm (y5 + (1 : Int32)) (fun x8 => (fX10_look_L125 p1 p2 n) y3 y5 x8 st)))))
set_option maxRecDepth 100000 in
theorem wX10_look_L125 {p : Program} {l : Launch} {e : Env} {s : State} {m : MethodId} {args : Array Value} {below : List Frame} {meth : Method} {c : Code} {E : Ev} (hL : ∀ k, fxM k = true → k ∈ eL E) {p1 : Int32} {p2 : Int32} {sz : Nat} {res : (Int32 × St)} (X : CX p s m args c E RX10 cX10_look 6 (Af E sz)) (hr : meth.sig.returnType = (some .int)) (hlk : meth.locks = false) : ∀ (n : Nat) (y3 : Int32) (y4 : Int32) (y5 : Int32) (st : St) (H : Heap) (locs : List Loc), fX10_look_L125 p1 p2  n y3 y4 y5 st = some res → Gd E st (Af E sz) s H locs → ∀ ls : Array Slot, lv_has ls 6 [(0, .ref (eq E 500)), (2, .int p2), (3, .int y3), (4, .int y4), (5, .int y5)] → W p l e (rmk 8) s m args below meth c H locs 0 0 (MQ below (QWi E res.2 sz res.1) args s 0 0 (Af E sz)) (F0 m 125 ls []) := by
  have hx := X.1.1
  have hb := X.1.2.1
  intro n
  induction n with
  | zero =>
    intro y3 y4 y5 st H locs hf G ls hl
    cases (show (none : Option (Int32 × St)) = some res from hf)
  | succ n ih =>
    intro y3 y4 y5 st H locs hf G ls hl
    rw [fX10_look_L125] at hf
    refine lv_iload hx hb dX10_look_125 (lv_at hl 4 rfl) ?_
    refine lv_aload_n hx hb dX10_look_127 rfl (lv_at hl 0 rfl) ?_
    refine gf10 X G (hL 500 rfl) rfl 1 (by decide) rfl kf_X10_9 iwX10 dX10_look_128 ?_
    refine lv_iconst (v := (3 : Int32)) hx hb dX10_look_131 (by decide) ?_
    refine ia_ldc (k := 502) (n := 12) X G (hL 502 rfl) rfl (by decide) 3 (by decide) dX10_look_132 ?_
    refine lv_icmp_ge (tgt := 168) hx hb dX10_look_133 (by decide) (fun c2 => ?_) (fun c2 => ?_)
    · have hf := it_t hf c2
      refine lv_iload_n hx hb dX10_look_168 rfl (lv_at hl 1 rfl) ?_
      refine lv_if_ne (tgt := 177) hx hb dX10_look_169 (by decide) (fun c3 => ?_) (fun c3 => ?_)
      · have hf := it_f hf c3
        refine lv_aload_n hx hb dX10_look_177 rfl (lv_at hl 0 rfl) ?_
        refine lv_iload hx hb dX10_look_178 (lv_at hl 3 rfl) ?_
        refine lv_iload_n hx hb dX10_look_180 rfl (lv_at hl 2 rfl) ?_
        obtain ⟨x5, h4, hf⟩ := br_s hf
        refine cVRi (As := [.int y4, .int y3]) (rest := []) X G kc_X10_488 (tX10_mostAlike l E st _ hL  y4 y3 h4) (rcv X G (hL 500 rfl) (cO10 rfl) rfl) rfl rfl (rmk_le (by omega) (by decide)) rfl hl.1 rfl (Nat.le_of_ble_eq_true rfl) dX10_look_181 ⟨Nat.zero_le _, Nat.zero_le _⟩ ?_
        exact rtWi X hlk G hr (so_i hf) dX10_look_184
      · have hf := it_t hf c3
        refine lv_iload hx hb dX10_look_172 (lv_at hl 3 rfl) ?_
        refine lv_goto (tgt := 184) hx hb dX10_look_174 (by decide) ?_
        exact rtWi X hlk G hr (so_i hf) dX10_look_184
    · have hf := it_f hf c2
      refine lv_aload_n hx hb dX10_look_136 rfl (lv_at hl 0 rfl) ?_
      refine lv_iload hx hb dX10_look_137 (lv_at hl 4 rfl) ?_
      refine lv_iload_n hx hb dX10_look_139 rfl (lv_at hl 2 rfl) ?_
      obtain ⟨x4, h3, hf⟩ := br_s hf
      refine cVRi (As := [.int y5, .int y3]) (rest := []) X G kc_X10_488 (tX10_mostAlike l E st _ hL  y5 y3 h3) (rcv X G (hL 500 rfl) (cO10 rfl) rfl) rfl rfl (rmk_le (by omega) (by decide)) rfl hl.1 rfl (Nat.le_of_ble_eq_true rfl) dX10_look_140 ⟨Nat.zero_le _, Nat.zero_le _⟩ ?_
      refine lv_aload_n hx hb dX10_look_143 rfl (lv_at hl 0 rfl) ?_
      refine lv_iload hx hb dX10_look_144 (lv_at hl 3 rfl) ?_
      refine lv_iload_n hx hb dX10_look_146 rfl (lv_at hl 2 rfl) ?_
      obtain ⟨x6, h5, hf⟩ := br_s hf
      refine cVRi (As := [.int y4, .int y3]) (rest := [.int x4]) X G kc_X10_488 (tX10_mostAlike l E st _ hL  y4 y3 h5) (rcv X G (hL 500 rfl) (cO10 rfl) rfl) rfl rfl (rmk_le (by omega) (by decide)) rfl hl.1 rfl (Nat.le_of_ble_eq_true rfl) dX10_look_147 ⟨Nat.zero_le _, Nat.zero_le _⟩ ?_
      refine lv_icmp_ge (tgt := 158) hx hb dX10_look_150 (by decide) (fun c7 => ?_) (fun c7 => ?_)
      · have hf := it_t hf c7
        refine lv_iload hx hb dX10_look_158 (lv_at hl 3 rfl) ?_
        refine lv_istore (lv' := [(4, .int y4), (0, .ref (eq E 500)), (2, .int p2), (3, .int y3), (5, .int y5)]) hx hb dX10_look_160 hl (by decide) rfl (fun ls hl => ?_)
        obtain ⟨x8, ex8⟩ : ∃ y : Int32, y = (y5 + (1 : Int32)) := ⟨_, rfl⟩
        have hf := nm_s hf x8 ex8
        refine lv_iinc (k := 4) (v := x8) (lv' := [(5, .int x8), (4, .int y4), (0, .ref (eq E 500)), (2, .int p2), (3, .int y3)]) hx hb dX10_look_162 hl rfl (by rw [ex8]; rfl) (by decide) rfl (fun ls hl => ?_)
        refine lv_goto (tgt := 125) hx hb dX10_look_165 (by decide) ?_
        exact ih y3 y4 x8 st _ _ hf G _ (lv_sub hl [2, 3, 4, 1, 0] rfl)
      · have hf := it_f hf c7
        refine lv_iload hx hb dX10_look_153 (lv_at hl 4 rfl) ?_
        refine lv_goto (tgt := 160) hx hb dX10_look_155 (by decide) ?_
        refine lv_istore (lv' := [(4, .int y5), (0, .ref (eq E 500)), (2, .int p2), (3, .int y3), (5, .int y5)]) hx hb dX10_look_160 hl (by decide) rfl (fun ls hl => ?_)
        obtain ⟨x8, ex8⟩ : ∃ y : Int32, y = (y5 + (1 : Int32)) := ⟨_, rfl⟩
        have hf := nm_s hf x8 ex8
        refine lv_iinc (k := 4) (v := x8) (lv' := [(5, .int x8), (4, .int y5), (0, .ref (eq E 500)), (2, .int p2), (3, .int y3)]) hx hb dX10_look_162 hl rfl (by rw [ex8]; rfl) (by decide) rfl (fun ls hl => ?_)
        refine lv_goto (tgt := 125) hx hb dX10_look_165 (by decide) ?_
        exact ih y3 y5 x8 st _ _ hf G _ (lv_sub hl [2, 3, 4, 1, 0] rfl)
def fX10_look_L62 (p1 : Int32) (p2 : Int32) (k40 : Int32 → Int32 → St → Option (Int32 × St)) : Nat → Int32 → Int32 → Int32 → St → Option (Int32 × St)
  | 0, _, _, _, _ => none
  | n + 1, y3, y4, y5, st => if (8 : Int32) ≤ y5 then (nm (y3 + (1 : Int32)) (fun x2 => nm (y4 + (1 : Int32)) (fun x3 => k40 x2 x3 st))) else (gd (ix y5 8) (gd (ix (((8 : Int32) * y3) + y5) 56) (nm (ui st 558 (((8 : Int32) * y3) + y5).toNatClampNeg (st.1 557 y5.toNatClampNeg)) (fun s4 => nm (y5 + (1 : Int32)) (fun x5 => (fX10_look_L62 p1 p2 k40 n) y3 y4 x5 s4)))))
set_option maxRecDepth 100000 in
theorem wX10_look_L62 {p : Program} {l : Launch} {e : Env} {s : State} {m : MethodId} {args : Array Value} {below : List Frame} {meth : Method} {c : Code} {E : Ev} (hL : ∀ k, fxM k = true → k ∈ eL E) {p1 : Int32} {p2 : Int32} {sz : Nat} {res : (Int32 × St)} (X : CX p s m args c E RX10 cX10_look 6 (Af E sz)) (hr : meth.sig.returnType = (some .int)) (hlk : meth.locks = false) {k40 : Int32 → Int32 → St → Option (Int32 × St)} (hk40 : ∀ (y3 : Int32) (y4 : Int32) (st : St) (H : Heap) (locs : List Loc), k40 y3 y4 st = some res → Gd E st (Af E sz) s H locs → ∀ ls : Array Slot, lv_has ls 6 [(0, .ref (eq E 500)), (1, .int p1), (2, .int p2), (3, .int y3), (4, .int y4)] → W p l e (rmk 8) s m args below meth c H locs 0 0 (MQ below (QWi E res.2 sz res.1) args s 0 0 (Af E sz)) (F0 m 40 ls [])) : ∀ (n : Nat) (y3 : Int32) (y4 : Int32) (y5 : Int32) (st : St) (H : Heap) (locs : List Loc), fX10_look_L62 p1 p2 k40 n y3 y4 y5 st = some res → Gd E st (Af E sz) s H locs → ∀ ls : Array Slot, lv_has ls 6 [(0, .ref (eq E 500)), (1, .int p1), (2, .int p2), (3, .int y3), (4, .int y4), (5, .int y5)] → W p l e (rmk 8) s m args below meth c H locs 0 0 (MQ below (QWi E res.2 sz res.1) args s 0 0 (Af E sz)) (F0 m 62 ls []) := by
  have hx := X.1.1
  have hb := X.1.2.1
  intro n
  induction n with
  | zero =>
    intro y3 y4 y5 st H locs hf G ls hl
    cases (show (none : Option (Int32 × St)) = some res from hf)
  | succ n ih =>
    intro y3 y4 y5 st H locs hf G ls hl
    rw [fX10_look_L62] at hf
    refine lv_iload hx hb dX10_look_62 (lv_at hl 5 rfl) ?_
    refine lv_bipush (v := (8 : Int32)) hx hb dX10_look_64 (by decide) ?_
    refine lv_icmp_ge (tgt := 94) hx hb dX10_look_66 (by decide) (fun c1 => ?_) (fun c1 => ?_)
    · have hf := it_t hf c1
      obtain ⟨x2, ex2⟩ : ∃ y : Int32, y = (y3 + (1 : Int32)) := ⟨_, rfl⟩
      have hf := nm_s hf x2 ex2
      refine lv_iinc (k := 3) (v := x2) (lv' := [(3, .int x2), (0, .ref (eq E 500)), (1, .int p1), (2, .int p2), (4, .int y4), (5, .int y5)]) hx hb dX10_look_94 hl rfl (by rw [ex2]; rfl) (by decide) rfl (fun ls hl => ?_)
      obtain ⟨x3, ex3⟩ : ∃ y : Int32, y = (y4 + (1 : Int32)) := ⟨_, rfl⟩
      have hf := nm_s hf x3 ex3
      refine lv_iinc (k := 4) (v := x3) (lv' := [(4, .int x3), (3, .int x2), (0, .ref (eq E 500)), (1, .int p1), (2, .int p2), (5, .int y5)]) hx hb dX10_look_97 hl rfl (by rw [ex3]; rfl) (by decide) rfl (fun ls hl => ?_)
      refine lv_goto (tgt := 40) hx hb dX10_look_100 (by decide) ?_
      exact hk40 x2 x3 st _ _ hf G _ (lv_sub hl [2, 3, 4, 1, 0] rfl)
    · have hf := it_f hf c1
      refine lv_aload_n hx hb dX10_look_69 rfl (lv_at hl 0 rfl) ?_
      refine gf10 X G (hL 500 rfl) rfl 57 (by decide) rfl kf_X10_136 iwX10 dX10_look_70 ?_
      refine lv_bipush (v := (8 : Int32)) hx hb dX10_look_73 (by decide) ?_
      refine lv_iload_n hx hb dX10_look_75 rfl (lv_at hl 3 rfl) ?_
      refine lv_imul hx hb dX10_look_76 ?_
      refine lv_iload hx hb dX10_look_77 (lv_at hl 5 rfl) ?_
      refine lv_iadd hx hb dX10_look_79 ?_
      refine lv_aload_n hx hb dX10_look_80 rfl (lv_at hl 0 rfl) ?_
      refine gf10 X G (hL 500 rfl) rfl 56 (by decide) rfl kf_X10_133 iwX10 dX10_look_81 ?_
      refine lv_iload hx hb dX10_look_84 (lv_at hl 5 rfl) ?_
      obtain ⟨h2, hf⟩ := gd_s hf
      refine ia_ld (k := 557) (n := 8) X G (hL 557 rfl) rfl (by decide) (ix_in h2) dX10_look_86 ?_
      obtain ⟨h3, hf⟩ := gd_s hf
      refine ia_st (k := 558) (n := 56) X G (hL 558 rfl) rfl (by decide) (ix_in h3) dX10_look_87 (fun s4 es4 H locs G => ?_)
      have hf := nm_s hf s4 es4
      obtain ⟨x5, ex5⟩ : ∃ y : Int32, y = (y5 + (1 : Int32)) := ⟨_, rfl⟩
      have hf := nm_s hf x5 ex5
      refine lv_iinc (k := 5) (v := x5) (lv' := [(5, .int x5), (0, .ref (eq E 500)), (1, .int p1), (2, .int p2), (3, .int y3), (4, .int y4)]) hx hb dX10_look_88 hl rfl (by rw [ex5]; rfl) (by decide) rfl (fun ls hl => ?_)
      refine lv_goto (tgt := 62) hx hb dX10_look_91 (by decide) ?_
      exact ih y3 y4 x5 s4 _ _ hf G _ (lv_sub hl [1, 2, 3, 4, 5, 0] rfl)
def fX10_look_L40 (p1 : Int32) (p2 : Int32) : Nat → Int32 → Int32 → St → Option (Int32 × St)
  | 0, _, _, _ => none
  | n + 1, y3, y4, st => if (st.1 500 33) ≤ y4 then (if y3 = 0 then (some ((-2 : Int32), st)) else (if (st.1 502 3) = 0 then (some ((-2 : Int32), st)) else (fX10_look_L125 p1 p2 10000 y3 (0 : Int32) (1 : Int32) st))) else (bw (fX10_couldRule y4 p1 st) (fun x4 s3 => if x4 = 0 then (nm (y4 + (1 : Int32)) (fun x6 => (fX10_look_L40 p1 p2 n) y3 x6 s3)) else (fX10_look_L62 p1 p2 (fX10_look_L40 p1 p2 n) 10000 y3 y4 (0 : Int32) s3)))
set_option maxRecDepth 100000 in
theorem wX10_look_L40 {p : Program} {l : Launch} {e : Env} {s : State} {m : MethodId} {args : Array Value} {below : List Frame} {meth : Method} {c : Code} {E : Ev} (hL : ∀ k, fxM k = true → k ∈ eL E) {p1 : Int32} {p2 : Int32} {sz : Nat} {res : (Int32 × St)} (X : CX p s m args c E RX10 cX10_look 6 (Af E sz)) (hr : meth.sig.returnType = (some .int)) (hlk : meth.locks = false) : ∀ (n : Nat) (y3 : Int32) (y4 : Int32) (st : St) (H : Heap) (locs : List Loc), fX10_look_L40 p1 p2  n y3 y4 st = some res → Gd E st (Af E sz) s H locs → ∀ ls : Array Slot, lv_has ls 6 [(0, .ref (eq E 500)), (1, .int p1), (2, .int p2), (3, .int y3), (4, .int y4)] → W p l e (rmk 8) s m args below meth c H locs 0 0 (MQ below (QWi E res.2 sz res.1) args s 0 0 (Af E sz)) (F0 m 40 ls []) := by
  have hx := X.1.1
  have hb := X.1.2.1
  intro n
  induction n with
  | zero =>
    intro y3 y4 st H locs hf G ls hl
    cases (show (none : Option (Int32 × St)) = some res from hf)
  | succ n ih =>
    intro y3 y4 st H locs hf G ls hl
    rw [fX10_look_L40] at hf
    refine lv_iload hx hb dX10_look_40 (lv_at hl 4 rfl) ?_
    refine lv_aload_n hx hb dX10_look_42 rfl (lv_at hl 0 rfl) ?_
    refine gf10 X G (hL 500 rfl) rfl 33 (by decide) rfl kf_X10_347 iwX10 dX10_look_43 ?_
    refine lv_icmp_ge (tgt := 103) hx hb dX10_look_46 (by decide) (fun c1 => ?_) (fun c1 => ?_)
    · have hf := it_t hf c1
      refine lv_iload_n hx hb dX10_look_103 rfl (lv_at hl 3 rfl) ?_
      refine lv_if_eq (tgt := 116) hx hb dX10_look_104 (by decide) (fun c2 => ?_) (fun c2 => ?_)
      · have hf := it_t hf c2
        refine lv_bipush (v := (-2 : Int32)) hx hb dX10_look_116 (by decide) ?_
        exact rtWi X hlk G hr (so_i hf) dX10_look_118
      · have hf := it_f hf c2
        refine lv_aload_n hx hb dX10_look_107 rfl (lv_at hl 0 rfl) ?_
        refine gf10 X G (hL 500 rfl) rfl 1 (by decide) rfl kf_X10_9 iwX10 dX10_look_108 ?_
        refine lv_iconst (v := (3 : Int32)) hx hb dX10_look_111 (by decide) ?_
        refine ia_ldc (k := 502) (n := 12) X G (hL 502 rfl) rfl (by decide) 3 (by decide) dX10_look_112 ?_
        refine lv_if_ne (tgt := 119) hx hb dX10_look_113 (by decide) (fun c4 => ?_) (fun c4 => ?_)
        · have hf := it_f hf c4
          refine lv_iconst (v := (0 : Int32)) hx hb dX10_look_119 (by decide) ?_
          refine lv_istore (lv' := [(4, .int (0 : Int32)), (0, .ref (eq E 500)), (1, .int p1), (2, .int p2), (3, .int y3)]) hx hb dX10_look_120 hl (by decide) rfl (fun ls hl => ?_)
          refine lv_iconst (v := (1 : Int32)) hx hb dX10_look_122 (by decide) ?_
          refine lv_istore (lv' := [(5, .int (1 : Int32)), (4, .int (0 : Int32)), (0, .ref (eq E 500)), (1, .int p1), (2, .int p2), (3, .int y3)]) hx hb dX10_look_123 hl (by decide) rfl (fun ls hl => ?_)
          exact wX10_look_L125 hL X hr hlk 10000 y3 (0 : Int32) (1 : Int32) st _ _ hf G _ (lv_sub hl [2, 4, 5, 1, 0] rfl)
        · have hf := it_t hf c4
          refine lv_bipush (v := (-2 : Int32)) hx hb dX10_look_116 (by decide) ?_
          exact rtWi X hlk G hr (so_i hf) dX10_look_118
    · have hf := it_f hf c1
      refine lv_aload_n hx hb dX10_look_49 rfl (lv_at hl 0 rfl) ?_
      refine lv_iload hx hb dX10_look_50 (lv_at hl 4 rfl) ?_
      refine lv_iload_n hx hb dX10_look_52 rfl (lv_at hl 1 rfl) ?_
      obtain ⟨x4, s3, h2, hf⟩ := bw_s hf
      refine cVWi (As := [.int y4, .int p1]) (rest := []) X G kc_X10_485 (tX10_couldRule l E st _ hL  y4 p1 h2) (rcv X G (hL 500 rfl) (cO10 rfl) rfl) rfl rfl (rmk_le (by omega) (by decide)) rfl hl.1 rfl (Nat.le_of_ble_eq_true rfl) dX10_look_53 ⟨Nat.zero_le _, Nat.zero_le _⟩ (fun H locs G => ?_)
      refine lv_if_eq (tgt := 97) hx hb dX10_look_56 (by decide) (fun c5 => ?_) (fun c5 => ?_)
      · have hf := it_t hf c5
        obtain ⟨x6, ex6⟩ : ∃ y : Int32, y = (y4 + (1 : Int32)) := ⟨_, rfl⟩
        have hf := nm_s hf x6 ex6
        refine lv_iinc (k := 4) (v := x6) (lv' := [(4, .int x6), (0, .ref (eq E 500)), (1, .int p1), (2, .int p2), (3, .int y3)]) hx hb dX10_look_97 hl rfl (by rw [ex6]; rfl) (by decide) rfl (fun ls hl => ?_)
        refine lv_goto (tgt := 40) hx hb dX10_look_100 (by decide) ?_
        exact ih y3 x6 s3 _ _ hf G _ (lv_sub hl [1, 2, 3, 4, 0] rfl)
      · have hf := it_f hf c5
        refine lv_iconst (v := (0 : Int32)) hx hb dX10_look_59 (by decide) ?_
        refine lv_istore (lv' := [(5, .int (0 : Int32)), (0, .ref (eq E 500)), (1, .int p1), (2, .int p2), (3, .int y3), (4, .int y4)]) hx hb dX10_look_60 hl (by decide) rfl (fun ls hl => ?_)
        exact wX10_look_L62 hL X hr hlk ih 10000 y3 y4 (0 : Int32) s3 _ _ hf G _ (lv_sub hl [1, 2, 3, 4, 5, 0] rfl)
def fX10_look (p1 : Int32) (p2 : Int32) (st : St) : Option (Int32 × St) := if (st.1 500 28) = 0 then (some ((-1 : Int32), st)) else (br (fX10_in (Int32.toInt64 p1) (0 : Int64) (60 : Int64)) (fun x3 => if x3 = 0 then (some ((-1 : Int32), st)) else (br (fX10_in (Int32.toInt64 p2) (0 : Int64) (1 : Int64)) (fun x6 => if x6 = 0 then (some ((-1 : Int32), st)) else (br (fX10_keepsAll st) (fun s9 => fX10_look_L40 p1 p2 10000 (0 : Int32) (-1 : Int32) s9))))))
set_option maxRecDepth 100000 in
theorem tX10_look (l : Launch) (E : Ev) (st : St) (sz : Nat) (hL : ∀ k, fxM k = true → k ∈ eL E) (p1 : Int32) (p2 : Int32) {res : (Int32 × St)} (hf : fX10_look  p1 p2 st = some res) : Met l yX10_look (.code yX10_look cX10_look 6 (some .int) :: uW) (rmk 8) (va_Pc [.ref (eq E 500), .int p1, .int p2] (Pre E st sz)) (QWi E res.2 sz res.1) 0 0 (Af E sz) := by
  refine Met_in (by decide) (Nat.le_of_ble_eq_true rfl) ?_
  intro p e s m below meth c X hr hlk hz G ls hl
  have hx := X.1.1
  have hb := X.1.2.1
  have hl : lv_has ls 6 [(0, .ref (eq E 500)), (1, .int p1), (2, .int p2)] := hl
  unfold fX10_look at hf
  refine lv_aload_n hx hb dX10_look_0 rfl (lv_at hl 0 rfl) ?_
  refine gf10 X G (hL 500 rfl) rfl 28 (by decide) rfl kf_X10_327 iwX10 dX10_look_1 ?_
  refine lv_if_eq (tgt := 29) hx hb dX10_look_4 (by decide) (fun c1 => ?_) (fun c1 => ?_)
  · have hf := it_t hf c1
    refine lv_iconst (v := (-1 : Int32)) hx hb dX10_look_29 (by decide) ?_
    exact rtWi X hlk G hr (so_i hf) dX10_look_30
  · have hf := it_f hf c1
    refine lv_iload_n hx hb dX10_look_7 rfl (lv_at hl 1 rfl) ?_
    refine lv_i2l hx hb dX10_look_8 rfl ?_
    refine lv_lconst (v := (0 : Int64)) hx hb dX10_look_9 (by decide) ?_
    refine lv_ldc2 (v := (60 : Int64)) hx hb X.1.2.2.2.1 (X.1.2.2.2.2 _ kk_X10_471) dX10_look_10 ?_
    obtain ⟨x3, h2, hf⟩ := br_s hf
    refine cSRi (As := [.long (Int32.toInt64 p1), .long (0 : Int64), .long (60 : Int64)]) (rest := []) X G kc_X10_152 (tX10_in l E st _  (Int32.toInt64 p1) (0 : Int64) (60 : Int64) h2) rfl rfl (rmk_le (by omega) (by decide)) rfl hl.1 rfl (Nat.le_of_ble_eq_true rfl) dX10_look_13 ⟨Nat.zero_le _, Nat.zero_le _⟩ ?_
    refine lv_if_eq (tgt := 29) hx hb dX10_look_16 (by decide) (fun c4 => ?_) (fun c4 => ?_)
    · have hf := it_t hf c4
      refine lv_iconst (v := (-1 : Int32)) hx hb dX10_look_29 (by decide) ?_
      exact rtWi X hlk G hr (so_i hf) dX10_look_30
    · have hf := it_f hf c4
      refine lv_iload_n hx hb dX10_look_19 rfl (lv_at hl 2 rfl) ?_
      refine lv_i2l hx hb dX10_look_20 rfl ?_
      refine lv_lconst (v := (0 : Int64)) hx hb dX10_look_21 (by decide) ?_
      refine lv_lconst (v := (1 : Int64)) hx hb dX10_look_22 (by decide) ?_
      obtain ⟨x6, h5, hf⟩ := br_s hf
      refine cSRi (As := [.long (Int32.toInt64 p2), .long (0 : Int64), .long (1 : Int64)]) (rest := []) X G kc_X10_152 (tX10_in l E st _  (Int32.toInt64 p2) (0 : Int64) (1 : Int64) h5) rfl rfl (rmk_le (by omega) (by decide)) rfl hl.1 rfl (Nat.le_of_ble_eq_true rfl) dX10_look_23 ⟨Nat.zero_le _, Nat.zero_le _⟩ ?_
      refine lv_if_ne (tgt := 31) hx hb dX10_look_26 (by decide) (fun c7 => ?_) (fun c7 => ?_)
      · have hf := it_f hf c7
        refine lv_aload_n hx hb dX10_look_31 rfl (lv_at hl 0 rfl) ?_
        obtain ⟨s9, h8, hf⟩ := br_s hf
        refine cVWv (As := []) (rest := []) X G kc_X10_448 (tX10_keepsAll l E st _ hL   h8) (rcv X G (hL 500 rfl) (cO10 rfl) rfl) rfl rfl (rmk_le (by omega) (by decide)) rfl hl.1 rfl (Nat.le_of_ble_eq_true rfl) dX10_look_32 ⟨Nat.zero_le _, Nat.zero_le _⟩ (fun H locs G => ?_)
        refine lv_iconst (v := (0 : Int32)) hx hb dX10_look_35 (by decide) ?_
        refine lv_istore_n (lv' := [(3, .int (0 : Int32)), (0, .ref (eq E 500)), (1, .int p1), (2, .int p2)]) hx hb dX10_look_36 rfl hl (by decide) rfl (fun ls hl => ?_)
        refine lv_iconst (v := (-1 : Int32)) hx hb dX10_look_37 (by decide) ?_
        refine lv_istore (lv' := [(4, .int (-1 : Int32)), (3, .int (0 : Int32)), (0, .ref (eq E 500)), (1, .int p1), (2, .int p2)]) hx hb dX10_look_38 hl (by decide) rfl (fun ls hl => ?_)
        exact wX10_look_L40 hL X hr hlk 10000 (0 : Int32) (-1 : Int32) s9 _ _ hf G _ (lv_sub hl [2, 3, 4, 1, 0] rfl)
      · have hf := it_t hf c7
        refine lv_iconst (v := (-1 : Int32)) hx hb dX10_look_29 (by decide) ?_
        exact rtWi X hlk G hr (so_i hf) dX10_look_30
def fX10_seed (p1 : Int32) (st : St) : Option (Int32 × St) := if 0 ≤ p1 then (nm (st.1 502 10) (fun x3 => nm (ui st 502 10 p1) (fun s5 => some (x3, s5)))) else (some ((-1 : Int32), st))
set_option maxRecDepth 100000 in
theorem tX10_seed (l : Launch) (E : Ev) (st : St) (sz : Nat) (hL : ∀ k, fxM k = true → k ∈ eL E) (p1 : Int32) {res : (Int32 × St)} (hf : fX10_seed  p1 st = some res) : Met l yX10_seed (.code yX10_seed cX10_seed 3 (some .int) :: uW) (rmk 0) (va_Pc [.ref (eq E 500), .int p1] (Pre E st sz)) (QWi E res.2 sz res.1) 0 0 (Af E sz) := by
  refine Met_in (by decide) (Nat.le_of_ble_eq_true rfl) ?_
  intro p e s m below meth c X hr hlk hz G ls hl
  have hx := X.1.1
  have hb := X.1.2.1
  have hl : lv_has ls 3 [(0, .ref (eq E 500)), (1, .int p1)] := hl
  unfold fX10_seed at hf
  refine lv_iload_n hx hb dX10_seed_0 rfl (lv_at hl 1 rfl) ?_
  refine lv_if_ge (tgt := 6) hx hb dX10_seed_1 (by decide) (fun c1 => ?_) (fun c1 => ?_)
  · have hf := it_t hf c1
    refine lv_aload_n hx hb dX10_seed_6 rfl (lv_at hl 0 rfl) ?_
    refine gf10 X G (hL 500 rfl) rfl 1 (by decide) rfl kf_X10_9 iwX10 dX10_seed_7 ?_
    refine lv_bipush (v := (10 : Int32)) hx hb dX10_seed_10 (by decide) ?_
    refine ia_ldc (k := 502) (n := 12) X G (hL 502 rfl) rfl (by decide) 10 (by decide) dX10_seed_12 ?_
    refine lv_topi (fun x3 ex3 => ?_)
    have hf := nm_s hf x3 ex3
    refine lv_istore_n (lv' := [(2, .int x3), (0, .ref (eq E 500)), (1, .int p1)]) hx hb dX10_seed_13 rfl hl (by decide) rfl (fun ls hl => ?_)
    refine lv_aload_n hx hb dX10_seed_14 rfl (lv_at hl 1 rfl) ?_
    refine gf10 X G (hL 500 rfl) rfl 1 (by decide) rfl kf_X10_9 iwX10 dX10_seed_15 ?_
    refine lv_bipush (v := (10 : Int32)) hx hb dX10_seed_18 (by decide) ?_
    refine lv_iload_n hx hb dX10_seed_20 rfl (lv_at hl 2 rfl) ?_
    refine ia_stc (k := 502) (n := 12) X G (hL 502 rfl) rfl (by decide) 10 (by decide) dX10_seed_21 (fun s5 es5 H locs G => ?_)
    have hf := nm_s hf s5 es5
    refine lv_iload_n hx hb dX10_seed_22 rfl (lv_at hl 0 rfl) ?_
    exact rtWi X hlk G hr (so_i hf) dX10_seed_23
  · have hf := it_f hf c1
    refine lv_iconst (v := (-1 : Int32)) hx hb dX10_seed_4 (by decide) ?_
    exact rtWi X hlk G hr (so_i hf) dX10_seed_5
def fX10_draws (p1 : Int32) (st : St) : Option (Int32 × St) := nm (ui st 502 10 (Int64.toInt32 (lrm (((Int32.toInt64 (st.1 502 10)) * (1103515245 : Int64)) + (12345 : Int64)) (2147483648 : Int64)))) (fun s4 => gd (nz p1) (some ((irm ((s4.1 502 10) / (65536 : Int32)) p1), s4)))
set_option maxRecDepth 100000 in
theorem tX10_draws (l : Launch) (E : Ev) (st : St) (sz : Nat) (hL : ∀ k, fxM k = true → k ∈ eL E) (p1 : Int32) {res : (Int32 × St)} (hf : fX10_draws  p1 st = some res) : Met l yX10_draws (.code yX10_draws cX10_draws 2 (some .int) :: uW) (rmk 0) (va_Pc [.ref (eq E 500), .int p1] (Pre E st sz)) (QWi E res.2 sz res.1) 0 0 (Af E sz) := by
  refine Met_in (by decide) (Nat.le_of_ble_eq_true rfl) ?_
  intro p e s m below meth c X hr hlk hz G ls hl
  have hx := X.1.1
  have hb := X.1.2.1
  have hl : lv_has ls 2 [(0, .ref (eq E 500)), (1, .int p1)] := hl
  unfold fX10_draws at hf
  refine lv_aload_n hx hb dX10_draws_0 rfl (lv_at hl 0 rfl) ?_
  refine gf10 X G (hL 500 rfl) rfl 1 (by decide) rfl kf_X10_9 iwX10 dX10_draws_1 ?_
  refine lv_bipush (v := (10 : Int32)) hx hb dX10_draws_4 (by decide) ?_
  refine lv_aload_n hx hb dX10_draws_6 rfl (lv_at hl 0 rfl) ?_
  refine gf10 X G (hL 500 rfl) rfl 1 (by decide) rfl kf_X10_9 iwX10 dX10_draws_7 ?_
  refine lv_bipush (v := (10 : Int32)) hx hb dX10_draws_10 (by decide) ?_
  refine ia_ldc (k := 502) (n := 12) X G (hL 502 rfl) rfl (by decide) 10 (by decide) dX10_draws_12 ?_
  refine lv_i2l hx hb dX10_draws_13 rfl ?_
  refine lv_ldc2 (v := (1103515245 : Int64)) hx hb X.1.2.2.2.1 (X.1.2.2.2.2 _ kk_X10_491) dX10_draws_14 ?_
  refine lv_lmul hx hb dX10_draws_17 ?_
  refine lv_ldc2 (v := (12345 : Int64)) hx hb X.1.2.2.2.1 (X.1.2.2.2.2 _ kk_X10_493) dX10_draws_18 ?_
  refine lv_ladd hx hb dX10_draws_21 ?_
  refine lv_ldc2 (v := (2147483648 : Int64)) hx hb X.1.2.2.2.1 (X.1.2.2.2.2 _ kk_X10_495) dX10_draws_22 ?_
  refine lv_lrem hx hb dX10_draws_25 (by decide) ?_
  refine lv_l2i hx hb dX10_draws_26 rfl ?_
  refine ia_stc (k := 502) (n := 12) X G (hL 502 rfl) rfl (by decide) 10 (by decide) dX10_draws_27 (fun s4 es4 H locs G => ?_)
  have hf := nm_s hf s4 es4
  refine lv_aload_n hx hb dX10_draws_28 rfl (lv_at hl 0 rfl) ?_
  refine gf10 X G (hL 500 rfl) rfl 1 (by decide) rfl kf_X10_9 iwX10 dX10_draws_29 ?_
  refine lv_bipush (v := (10 : Int32)) hx hb dX10_draws_32 (by decide) ?_
  refine ia_ldc (k := 502) (n := 12) X G (hL 502 rfl) rfl (by decide) 10 (by decide) dX10_draws_34 ?_
  refine lv_ldcw (v := (65536 : Int32)) hx hb X.1.2.2.2.1 (X.1.2.2.2.2 _ kk_X10_497) dX10_draws_35 ?_
  refine lv_idiv hx hb dX10_draws_38 (by decide) ?_
  refine lv_iload_n hx hb dX10_draws_39 rfl (lv_at hl 1 rfl) ?_
  obtain ⟨h7, hf⟩ := gd_s hf
  refine lv_irem hx hb dX10_draws_40 (nz_n h7) ?_
  exact rtWi X hlk G hr (so_i hf) dX10_draws_41
def fX10_winters_L159 (p1 : Int32) (p2 : Int32) (p3 : Int32) (p4 : Int32) (k82 : Int32 → Int32 → Int32 → Int32 → Int32 → St → Option (Int32 × St)) : Nat → Int32 → Int32 → Int32 → Int32 → Int32 → St → Option (Int32 × St)
  | 0, _, _, _, _, _, _ => none
  | n + 1, y5, y7, y8, y9, y10, st => if (st.1 502 5) ≤ y10 then (nm (st.1 502 10) (fun x4 => br (fX10_laysBack st) (fun s6 => nm (y9 + (1 : Int32)) (fun x7 => k82 y5 x4 y7 y8 x7 s6)))) else (gd (ix y10 3) (nm (y8 + (st.1 511 y10.toNatClampNeg)) (fun x4 => nm (y10 + (1 : Int32)) (fun x5 => (fX10_winters_L159 p1 p2 p3 p4 k82 n) y5 y7 x4 y9 x5 st))))
set_option maxRecDepth 100000 in
theorem wX10_winters_L159 {p : Program} {l : Launch} {e : Env} {s : State} {m : MethodId} {args : Array Value} {below : List Frame} {meth : Method} {c : Code} {E : Ev} (hL : ∀ k, fxM k = true → k ∈ eL E) {p1 : Int32} {p2 : Int32} {p3 : Int32} {p4 : Int32} {sz : Nat} {res : (Int32 × St)} (X : CX p s m args c E RX10 cX10_winters 11 (Af E sz)) (hr : meth.sig.returnType = (some .int)) (hlk : meth.locks = false) {k82 : Int32 → Int32 → Int32 → Int32 → Int32 → St → Option (Int32 × St)} (hk82 : ∀ (y5 : Int32) (y6 : Int32) (y7 : Int32) (y8 : Int32) (y9 : Int32) (st : St) (H : Heap) (locs : List Loc), k82 y5 y6 y7 y8 y9 st = some res → Gd E st (Af E sz) s H locs → ∀ ls : Array Slot, lv_has ls 11 [(0, .ref (eq E 500)), (1, .int p1), (2, .int p2), (3, .int p3), (4, .int p4), (5, .int y5), (6, .int y6), (7, .int y7), (8, .int y8), (9, .int y9)] → W p l e (rmk 7) s m args below meth c H locs 0 0 (MQ below (QWi E res.2 sz res.1) args s 0 0 (Af E sz)) (F0 m 82 ls [])) : ∀ (n : Nat) (y5 : Int32) (y7 : Int32) (y8 : Int32) (y9 : Int32) (y10 : Int32) (st : St) (H : Heap) (locs : List Loc), fX10_winters_L159 p1 p2 p3 p4 k82 n y5 y7 y8 y9 y10 st = some res → Gd E st (Af E sz) s H locs → ∀ ls : Array Slot, lv_has ls 11 [(0, .ref (eq E 500)), (1, .int p1), (2, .int p2), (3, .int p3), (4, .int p4), (5, .int y5), (7, .int y7), (8, .int y8), (9, .int y9), (10, .int y10)] → W p l e (rmk 7) s m args below meth c H locs 0 0 (MQ below (QWi E res.2 sz res.1) args s 0 0 (Af E sz)) (F0 m 159 ls []) := by
  have hx := X.1.1
  have hb := X.1.2.1
  intro n
  induction n with
  | zero =>
    intro y5 y7 y8 y9 y10 st H locs hf G ls hl
    cases (show (none : Option (Int32 × St)) = some res from hf)
  | succ n ih =>
    intro y5 y7 y8 y9 y10 st H locs hf G ls hl
    rw [fX10_winters_L159] at hf
    refine lv_iload hx hb dX10_winters_159 (lv_at hl 9 rfl) ?_
    refine lv_aload_n hx hb dX10_winters_161 rfl (lv_at hl 0 rfl) ?_
    refine gf10 X G (hL 500 rfl) rfl 1 (by decide) rfl kf_X10_9 iwX10 dX10_winters_162 ?_
    refine lv_iconst (v := (5 : Int32)) hx hb dX10_winters_165 (by decide) ?_
    refine ia_ldc (k := 502) (n := 12) X G (hL 502 rfl) rfl (by decide) 5 (by decide) dX10_winters_166 ?_
    refine lv_icmp_ge (tgt := 188) hx hb dX10_winters_167 (by decide) (fun c2 => ?_) (fun c2 => ?_)
    · have hf := it_t hf c2
      refine lv_aload_n hx hb dX10_winters_188 rfl (lv_at hl 0 rfl) ?_
      refine gf10 X G (hL 500 rfl) rfl 1 (by decide) rfl kf_X10_9 iwX10 dX10_winters_189 ?_
      refine lv_bipush (v := (10 : Int32)) hx hb dX10_winters_192 (by decide) ?_
      refine ia_ldc (k := 502) (n := 12) X G (hL 502 rfl) rfl (by decide) 10 (by decide) dX10_winters_194 ?_
      refine lv_topi (fun x4 ex4 => ?_)
      have hf := nm_s hf x4 ex4
      refine lv_istore (lv' := [(6, .int x4), (0, .ref (eq E 500)), (1, .int p1), (2, .int p2), (3, .int p3), (4, .int p4), (5, .int y5), (7, .int y7), (8, .int y8), (9, .int y9), (10, .int y10)]) hx hb dX10_winters_195 hl (by decide) rfl (fun ls hl => ?_)
      refine lv_aload_n hx hb dX10_winters_197 rfl (lv_at hl 1 rfl) ?_
      obtain ⟨s6, h5, hf⟩ := br_s hf
      refine cVWv (As := []) (rest := []) X G kc_X10_454 (tX10_laysBack l E st _ hL   h5) (rcv X G (hL 500 rfl) (cO10 rfl) rfl) rfl rfl (rmk_le (by omega) (by decide)) rfl hl.1 rfl (Nat.le_of_ble_eq_true rfl) dX10_winters_198 ⟨Nat.zero_le _, Nat.zero_le _⟩ (fun H locs G => ?_)
      obtain ⟨x7, ex7⟩ : ∃ y : Int32, y = (y9 + (1 : Int32)) := ⟨_, rfl⟩
      have hf := nm_s hf x7 ex7
      refine lv_iinc (k := 9) (v := x7) (lv' := [(9, .int x7), (6, .int x4), (0, .ref (eq E 500)), (1, .int p1), (2, .int p2), (3, .int p3), (4, .int p4), (5, .int y5), (7, .int y7), (8, .int y8), (10, .int y10)]) hx hb dX10_winters_201 hl rfl (by rw [ex7]; rfl) (by decide) rfl (fun ls hl => ?_)
      refine lv_goto (tgt := 82) hx hb dX10_winters_204 (by decide) ?_
      exact hk82 y5 x4 y7 y8 x7 s6 _ _ hf G _ (lv_sub hl [2, 3, 4, 5, 6, 7, 1, 8, 9, 0] rfl)
    · have hf := it_f hf c2
      refine lv_iload hx hb dX10_winters_170 (lv_at hl 7 rfl) ?_
      refine lv_aload_n hx hb dX10_winters_172 rfl (lv_at hl 0 rfl) ?_
      refine gf10 X G (hL 500 rfl) rfl 10 (by decide) rfl kf_X10_37 iwX10 dX10_winters_173 ?_
      refine lv_iload hx hb dX10_winters_176 (lv_at hl 9 rfl) ?_
      obtain ⟨h3, hf⟩ := gd_s hf
      refine ia_ld (k := 511) (n := 3) X G (hL 511 rfl) rfl (by decide) (ix_in h3) dX10_winters_178 ?_
      refine lv_iadd hx hb dX10_winters_179 ?_
      refine lv_topi (fun x4 ex4 => ?_)
      have hf := nm_s hf x4 ex4
      refine lv_istore (lv' := [(8, .int x4), (0, .ref (eq E 500)), (1, .int p1), (2, .int p2), (3, .int p3), (4, .int p4), (5, .int y5), (7, .int y7), (9, .int y9), (10, .int y10)]) hx hb dX10_winters_180 hl (by decide) rfl (fun ls hl => ?_)
      obtain ⟨x5, ex5⟩ : ∃ y : Int32, y = (y10 + (1 : Int32)) := ⟨_, rfl⟩
      have hf := nm_s hf x5 ex5
      refine lv_iinc (k := 9) (v := x5) (lv' := [(10, .int x5), (8, .int x4), (0, .ref (eq E 500)), (1, .int p1), (2, .int p2), (3, .int p3), (4, .int p4), (5, .int y5), (7, .int y7), (9, .int y9)]) hx hb dX10_winters_182 hl rfl (by rw [ex5]; rfl) (by decide) rfl (fun ls hl => ?_)
      refine lv_goto (tgt := 159) hx hb dX10_winters_185 (by decide) ?_
      exact ih y5 y7 x4 y9 x5 st _ _ hf G _ (lv_sub hl [2, 3, 4, 5, 6, 7, 8, 1, 9, 0] rfl)
def fX10_winters_B122 (p1 : Int32) (p2 : Int32) (p3 : Int32) (p4 : Int32) (k82 : Int32 → Int32 → Int32 → Int32 → Int32 → St → Option (Int32 × St)) (k100 : Int32 → Int32 → Int32 → Int32 → Int32 → St → Option (Int32 × St)) (y5 : Int32) (y7 : Int32) (y8 : Int32) (y9 : Int32) (y10 : Int32) (z0 : Int32) (st : St) : Option (Int32 × St) := gd (bz z0) (nm (ui st 500 49 z0) (fun s1 => bw (fX10_goes s1) (fun x5 s4 => nm (y10 + (1 : Int32)) (fun x6 => k100 y5 y7 y8 y9 x6 s4))))
set_option maxRecDepth 100000 in
theorem wX10_winters_B122 {p : Program} {l : Launch} {e : Env} {s : State} {m : MethodId} {args : Array Value} {below : List Frame} {meth : Method} {c : Code} {E : Ev} (hL : ∀ k, fxM k = true → k ∈ eL E) {p1 : Int32} {p2 : Int32} {p3 : Int32} {p4 : Int32} {sz : Nat} {res : (Int32 × St)} (X : CX p s m args c E RX10 cX10_winters 11 (Af E sz)) (hr : meth.sig.returnType = (some .int)) (hlk : meth.locks = false) {k82 : Int32 → Int32 → Int32 → Int32 → Int32 → St → Option (Int32 × St)} (hk82 : ∀ (y5 : Int32) (y6 : Int32) (y7 : Int32) (y8 : Int32) (y9 : Int32) (st : St) (H : Heap) (locs : List Loc), k82 y5 y6 y7 y8 y9 st = some res → Gd E st (Af E sz) s H locs → ∀ ls : Array Slot, lv_has ls 11 [(0, .ref (eq E 500)), (1, .int p1), (2, .int p2), (3, .int p3), (4, .int p4), (5, .int y5), (6, .int y6), (7, .int y7), (8, .int y8), (9, .int y9)] → W p l e (rmk 7) s m args below meth c H locs 0 0 (MQ below (QWi E res.2 sz res.1) args s 0 0 (Af E sz)) (F0 m 82 ls [])) {k100 : Int32 → Int32 → Int32 → Int32 → Int32 → St → Option (Int32 × St)} (hk100 : ∀ (y5 : Int32) (y7 : Int32) (y8 : Int32) (y9 : Int32) (y10 : Int32) (st : St) (H : Heap) (locs : List Loc), k100 y5 y7 y8 y9 y10 st = some res → Gd E st (Af E sz) s H locs → ∀ ls : Array Slot, lv_has ls 11 [(0, .ref (eq E 500)), (1, .int p1), (2, .int p2), (3, .int p3), (4, .int p4), (5, .int y5), (7, .int y7), (8, .int y8), (9, .int y9), (10, .int y10)] → W p l e (rmk 7) s m args below meth c H locs 0 0 (MQ below (QWi E res.2 sz res.1) args s 0 0 (Af E sz)) (F0 m 100 ls [])) : ∀ (y5 : Int32) (y7 : Int32) (y8 : Int32) (y9 : Int32) (y10 : Int32) (z0 : Int32) (st : St) (H : Heap) (locs : List Loc), fX10_winters_B122 p1 p2 p3 p4 k82 k100 y5 y7 y8 y9 y10 z0 st = some res → Gd E st (Af E sz) s H locs → ∀ ls : Array Slot, lv_has ls 11 [(0, .ref (eq E 500)), (1, .int p1), (2, .int p2), (3, .int p3), (4, .int p4), (5, .int y5), (7, .int y7), (8, .int y8), (9, .int y9), (10, .int y10)] → W p l e (rmk 7) s m args below meth c H locs 0 0 (MQ below (QWi E res.2 sz res.1) args s 0 0 (Af E sz)) (F0 m 122 ls [.int z0, .ref (eq E 500)]) := by
  have hx := X.1.1
  have hb := X.1.2.1
  intro y5 y7 y8 y9 y10 z0 st H locs hf G ls hl
  unfold fX10_winters_B122 at hf
  obtain ⟨h2, hf⟩ := gd_s hf
  refine pf10 X G (hL 500 rfl) rfl 49 (by decide) ps10_49 uio kf_X10_399 iwX10 rfl (ty := .boolean) (by decide +kernel) (bz_n h2) (bz_f h2) dX10_winters_122 (fun s1 es1 H locs G => ?_)
  have hf := nm_s hf s1 es1
  refine lv_aload_n hx hb dX10_winters_125 rfl (lv_at hl 0 rfl) ?_
  obtain ⟨x5, s4, h3, hf⟩ := bw_s hf
  refine cVWi (As := []) (rest := []) X G kc_X10_411 (tX10_goes l E s1 _ hL   h3) (rcv X G (hL 500 rfl) (cO10 rfl) rfl) rfl rfl (rmk_le (by omega) (by decide)) rfl hl.1 rfl (Nat.le_of_ble_eq_true rfl) dX10_winters_126 ⟨Nat.zero_le _, Nat.zero_le _⟩ (fun H locs G => ?_)
  refine lv_pop hx hb dX10_winters_129 rfl ?_
  obtain ⟨x6, ex6⟩ : ∃ y : Int32, y = (y10 + (1 : Int32)) := ⟨_, rfl⟩
  have hf := nm_s hf x6 ex6
  refine lv_iinc (k := 9) (v := x6) (lv' := [(10, .int x6), (0, .ref (eq E 500)), (1, .int p1), (2, .int p2), (3, .int p3), (4, .int p4), (5, .int y5), (7, .int y7), (8, .int y8), (9, .int y9)]) hx hb dX10_winters_130 hl rfl (by rw [ex6]; rfl) (by decide) rfl (fun ls hl => ?_)
  refine lv_goto (tgt := 100) hx hb dX10_winters_133 (by decide) ?_
  exact hk100 y5 y7 y8 y9 x6 s4 _ _ hf G _ (lv_sub hl [1, 2, 3, 4, 5, 6, 7, 8, 9, 0] rfl)
def fX10_winters_L100 (p1 : Int32) (p2 : Int32) (p3 : Int32) (p4 : Int32) (k82 : Int32 → Int32 → Int32 → Int32 → Int32 → St → Option (Int32 × St)) : Nat → Int32 → Int32 → Int32 → Int32 → Int32 → St → Option (Int32 × St)
  | 0, _, _, _, _, _, _ => none
  | n + 1, y5, y7, y8, y9, y10, st => if p2 ≤ y10 then (nm (ui st 500 49 (0 : Int32)) (fun s2 => br (fX10_bits (s2.1 502 7)) (fun x5 => nm (y7 + x5) (fun x6 => fX10_winters_L159 p1 p2 p3 p4 k82 10000 y5 x6 y8 y9 (0 : Int32) s2)))) else (bw (fX10_draws (100 : Int32) st) (fun x4 s3 => if p3 ≤ x4 then (fX10_winters_B122 p1 p2 p3 p4 k82 (fX10_winters_L100 p1 p2 p3 p4 k82 n) y5 y7 y8 y9 y10 (0 : Int32) s3) else (fX10_winters_B122 p1 p2 p3 p4 k82 (fX10_winters_L100 p1 p2 p3 p4 k82 n) y5 y7 y8 y9 y10 (1 : Int32) s3)))
set_option maxRecDepth 100000 in
theorem wX10_winters_L100 {p : Program} {l : Launch} {e : Env} {s : State} {m : MethodId} {args : Array Value} {below : List Frame} {meth : Method} {c : Code} {E : Ev} (hL : ∀ k, fxM k = true → k ∈ eL E) {p1 : Int32} {p2 : Int32} {p3 : Int32} {p4 : Int32} {sz : Nat} {res : (Int32 × St)} (X : CX p s m args c E RX10 cX10_winters 11 (Af E sz)) (hr : meth.sig.returnType = (some .int)) (hlk : meth.locks = false) {k82 : Int32 → Int32 → Int32 → Int32 → Int32 → St → Option (Int32 × St)} (hk82 : ∀ (y5 : Int32) (y6 : Int32) (y7 : Int32) (y8 : Int32) (y9 : Int32) (st : St) (H : Heap) (locs : List Loc), k82 y5 y6 y7 y8 y9 st = some res → Gd E st (Af E sz) s H locs → ∀ ls : Array Slot, lv_has ls 11 [(0, .ref (eq E 500)), (1, .int p1), (2, .int p2), (3, .int p3), (4, .int p4), (5, .int y5), (6, .int y6), (7, .int y7), (8, .int y8), (9, .int y9)] → W p l e (rmk 7) s m args below meth c H locs 0 0 (MQ below (QWi E res.2 sz res.1) args s 0 0 (Af E sz)) (F0 m 82 ls [])) : ∀ (n : Nat) (y5 : Int32) (y7 : Int32) (y8 : Int32) (y9 : Int32) (y10 : Int32) (st : St) (H : Heap) (locs : List Loc), fX10_winters_L100 p1 p2 p3 p4 k82 n y5 y7 y8 y9 y10 st = some res → Gd E st (Af E sz) s H locs → ∀ ls : Array Slot, lv_has ls 11 [(0, .ref (eq E 500)), (1, .int p1), (2, .int p2), (3, .int p3), (4, .int p4), (5, .int y5), (7, .int y7), (8, .int y8), (9, .int y9), (10, .int y10)] → W p l e (rmk 7) s m args below meth c H locs 0 0 (MQ below (QWi E res.2 sz res.1) args s 0 0 (Af E sz)) (F0 m 100 ls []) := by
  have hx := X.1.1
  have hb := X.1.2.1
  intro n
  induction n with
  | zero =>
    intro y5 y7 y8 y9 y10 st H locs hf G ls hl
    cases (show (none : Option (Int32 × St)) = some res from hf)
  | succ n ih =>
    intro y5 y7 y8 y9 y10 st H locs hf G ls hl
    rw [fX10_winters_L100] at hf
    refine lv_iload hx hb dX10_winters_100 (lv_at hl 9 rfl) ?_
    refine lv_iload_n hx hb dX10_winters_102 rfl (lv_at hl 2 rfl) ?_
    refine lv_icmp_ge (tgt := 136) hx hb dX10_winters_103 (by decide) (fun c1 => ?_) (fun c1 => ?_)
    · have hf := it_t hf c1
      refine lv_aload_n hx hb dX10_winters_136 rfl (lv_at hl 0 rfl) ?_
      refine lv_iconst (v := (0 : Int32)) hx hb dX10_winters_137 (by decide) ?_
      refine pf10 X G (hL 500 rfl) rfl 49 (by decide) ps10_49 uio kf_X10_399 iwX10 rfl (ty := .boolean) (by decide +kernel) rfl rfl dX10_winters_138 (fun s2 es2 H locs G => ?_)
      have hf := nm_s hf s2 es2
      refine lv_iload hx hb dX10_winters_141 (lv_at hl 6 rfl) ?_
      refine lv_aload_n hx hb dX10_winters_143 rfl (lv_at hl 0 rfl) ?_
      refine gf10 X G (hL 500 rfl) rfl 1 (by decide) rfl kf_X10_9 iwX10 dX10_winters_144 ?_
      refine lv_bipush (v := (7 : Int32)) hx hb dX10_winters_147 (by decide) ?_
      refine ia_ldc (k := 502) (n := 12) X G (hL 502 rfl) rfl (by decide) 7 (by decide) dX10_winters_149 ?_
      obtain ⟨x5, h4, hf⟩ := br_s hf
      refine cSRi (As := [.int (s2.1 502 7)]) (rest := [.int y7]) X G kc_X10_380 (tX10_bits l E s2 _  (s2.1 502 7) h4) rfl rfl (rmk_le (by omega) (by decide)) rfl hl.1 rfl (Nat.le_of_ble_eq_true rfl) dX10_winters_150 ⟨Nat.zero_le _, Nat.zero_le _⟩ ?_
      refine lv_iadd hx hb dX10_winters_153 ?_
      refine lv_topi (fun x6 ex6 => ?_)
      have hf := nm_s hf x6 ex6
      refine lv_istore (lv' := [(7, .int x6), (0, .ref (eq E 500)), (1, .int p1), (2, .int p2), (3, .int p3), (4, .int p4), (5, .int y5), (8, .int y8), (9, .int y9), (10, .int y10)]) hx hb dX10_winters_154 hl (by decide) rfl (fun ls hl => ?_)
      refine lv_iconst (v := (0 : Int32)) hx hb dX10_winters_156 (by decide) ?_
      refine lv_istore (lv' := [(10, .int (0 : Int32)), (7, .int x6), (0, .ref (eq E 500)), (1, .int p1), (2, .int p2), (3, .int p3), (4, .int p4), (5, .int y5), (8, .int y8), (9, .int y9)]) hx hb dX10_winters_157 hl (by decide) rfl (fun ls hl => ?_)
      exact wX10_winters_L159 hL X hr hlk hk82 10000 y5 x6 y8 y9 (0 : Int32) s2 _ _ hf G _ (lv_sub hl [2, 3, 4, 5, 6, 7, 1, 8, 9, 0] rfl)
    · have hf := it_f hf c1
      refine lv_aload_n hx hb dX10_winters_106 rfl (lv_at hl 0 rfl) ?_
      refine lv_aload_n hx hb dX10_winters_107 rfl (lv_at hl 0 rfl) ?_
      refine lv_bipush (v := (100 : Int32)) hx hb dX10_winters_108 (by decide) ?_
      obtain ⟨x4, s3, h2, hf⟩ := bw_s hf
      refine cVWi (As := [.int (100 : Int32)]) (rest := [.ref (eq E 500)]) X G kc_X10_500 (tX10_draws l E st _ hL  (100 : Int32) h2) (rcv X G (hL 500 rfl) (cO10 rfl) rfl) rfl rfl (rmk_le (by omega) (by decide)) rfl hl.1 rfl (Nat.le_of_ble_eq_true rfl) dX10_winters_110 ⟨Nat.zero_le _, Nat.zero_le _⟩ (fun H locs G => ?_)
      refine lv_iload_n hx hb dX10_winters_113 rfl (lv_at hl 3 rfl) ?_
      refine lv_icmp_ge (tgt := 121) hx hb dX10_winters_114 (by decide) (fun c5 => ?_) (fun c5 => ?_)
      · have hf := it_t hf c5
        refine lv_iconst (v := (0 : Int32)) hx hb dX10_winters_121 (by decide) ?_
        exact wX10_winters_B122 hL X hr hlk hk82 ih y5 y7 y8 y9 y10 (0 : Int32) s3 _ _ hf G _ (lv_sub hl [0, 1, 2, 3, 4, 5, 6, 7, 8, 9] rfl)
      · have hf := it_f hf c5
        refine lv_iconst (v := (1 : Int32)) hx hb dX10_winters_117 (by decide) ?_
        refine lv_goto (tgt := 122) hx hb dX10_winters_118 (by decide) ?_
        exact wX10_winters_B122 hL X hr hlk hk82 ih y5 y7 y8 y9 y10 (1 : Int32) s3 _ _ hf G _ (lv_sub hl [0, 1, 2, 3, 4, 5, 6, 7, 8, 9] rfl)
def fX10_winters_L82 (p1 : Int32) (p2 : Int32) (p3 : Int32) (p4 : Int32) : Nat → Int32 → Int32 → Int32 → Int32 → Int32 → St → Option (Int32 × St)
  | 0, _, _, _, _, _, _ => none
  | n + 1, y5, y6, y7, y8, y9, st => if p1 ≤ y9 then (nm (ui st 502 10 y5) (fun s3 => if p4 = 0 then (some (y7, s3)) else (some (y8, s3)))) else (nm (ui st 502 10 y6) (fun s3 => fX10_winters_L100 p1 p2 p3 p4 (fX10_winters_L82 p1 p2 p3 p4 n) 10000 y5 y7 y8 y9 (0 : Int32) s3))
set_option maxRecDepth 100000 in
theorem wX10_winters_L82 {p : Program} {l : Launch} {e : Env} {s : State} {m : MethodId} {args : Array Value} {below : List Frame} {meth : Method} {c : Code} {E : Ev} (hL : ∀ k, fxM k = true → k ∈ eL E) {p1 : Int32} {p2 : Int32} {p3 : Int32} {p4 : Int32} {sz : Nat} {res : (Int32 × St)} (X : CX p s m args c E RX10 cX10_winters 11 (Af E sz)) (hr : meth.sig.returnType = (some .int)) (hlk : meth.locks = false) : ∀ (n : Nat) (y5 : Int32) (y6 : Int32) (y7 : Int32) (y8 : Int32) (y9 : Int32) (st : St) (H : Heap) (locs : List Loc), fX10_winters_L82 p1 p2 p3 p4  n y5 y6 y7 y8 y9 st = some res → Gd E st (Af E sz) s H locs → ∀ ls : Array Slot, lv_has ls 11 [(0, .ref (eq E 500)), (1, .int p1), (2, .int p2), (3, .int p3), (4, .int p4), (5, .int y5), (6, .int y6), (7, .int y7), (8, .int y8), (9, .int y9)] → W p l e (rmk 7) s m args below meth c H locs 0 0 (MQ below (QWi E res.2 sz res.1) args s 0 0 (Af E sz)) (F0 m 82 ls []) := by
  have hx := X.1.1
  have hb := X.1.2.1
  intro n
  induction n with
  | zero =>
    intro y5 y6 y7 y8 y9 st H locs hf G ls hl
    cases (show (none : Option (Int32 × St)) = some res from hf)
  | succ n ih =>
    intro y5 y6 y7 y8 y9 st H locs hf G ls hl
    rw [fX10_winters_L82] at hf
    refine lv_iload hx hb dX10_winters_82 (lv_at hl 9 rfl) ?_
    refine lv_iload_n hx hb dX10_winters_84 rfl (lv_at hl 1 rfl) ?_
    refine lv_icmp_ge (tgt := 207) hx hb dX10_winters_85 (by decide) (fun c1 => ?_) (fun c1 => ?_)
    · have hf := it_t hf c1
      refine lv_aload_n hx hb dX10_winters_207 rfl (lv_at hl 0 rfl) ?_
      refine gf10 X G (hL 500 rfl) rfl 1 (by decide) rfl kf_X10_9 iwX10 dX10_winters_208 ?_
      refine lv_bipush (v := (10 : Int32)) hx hb dX10_winters_211 (by decide) ?_
      refine lv_iload hx hb dX10_winters_213 (lv_at hl 5 rfl) ?_
      refine ia_stc (k := 502) (n := 12) X G (hL 502 rfl) rfl (by decide) 10 (by decide) dX10_winters_215 (fun s3 es3 H locs G => ?_)
      have hf := nm_s hf s3 es3
      refine lv_iload hx hb dX10_winters_216 (lv_at hl 4 rfl) ?_
      refine lv_if_ne (tgt := 226) hx hb dX10_winters_218 (by decide) (fun c4 => ?_) (fun c4 => ?_)
      · have hf := it_f hf c4
        refine lv_iload hx hb dX10_winters_226 (lv_at hl 8 rfl) ?_
        exact rtWi X hlk G hr (so_i hf) dX10_winters_228
      · have hf := it_t hf c4
        refine lv_iload hx hb dX10_winters_221 (lv_at hl 7 rfl) ?_
        refine lv_goto (tgt := 228) hx hb dX10_winters_223 (by decide) ?_
        exact rtWi X hlk G hr (so_i hf) dX10_winters_228
    · have hf := it_f hf c1
      refine lv_aload_n hx hb dX10_winters_88 rfl (lv_at hl 0 rfl) ?_
      refine gf10 X G (hL 500 rfl) rfl 1 (by decide) rfl kf_X10_9 iwX10 dX10_winters_89 ?_
      refine lv_bipush (v := (10 : Int32)) hx hb dX10_winters_92 (by decide) ?_
      refine lv_iload hx hb dX10_winters_94 (lv_at hl 6 rfl) ?_
      refine ia_stc (k := 502) (n := 12) X G (hL 502 rfl) rfl (by decide) 10 (by decide) dX10_winters_96 (fun s3 es3 H locs G => ?_)
      have hf := nm_s hf s3 es3
      refine lv_iconst (v := (0 : Int32)) hx hb dX10_winters_97 (by decide) ?_
      refine lv_istore (lv' := [(10, .int (0 : Int32)), (0, .ref (eq E 500)), (1, .int p1), (2, .int p2), (3, .int p3), (4, .int p4), (5, .int y5), (6, .int y6), (7, .int y7), (8, .int y8), (9, .int y9)]) hx hb dX10_winters_98 hl (by decide) rfl (fun ls hl => ?_)
      exact wX10_winters_L100 hL X hr hlk ih 10000 y5 y7 y8 y9 (0 : Int32) s3 _ _ hf G _ (lv_sub hl [1, 2, 3, 4, 5, 6, 8, 9, 10, 0] rfl)
def fX10_winters (p1 : Int32) (p2 : Int32) (p3 : Int32) (p4 : Int32) (st : St) : Option (Int32 × St) := if (st.1 500 28) = 0 then (some ((-1 : Int32), st)) else (br (fX10_in (Int32.toInt64 p1) (1 : Int64) (10 : Int64)) (fun x3 => if x3 = 0 then (some ((-1 : Int32), st)) else (br (fX10_in (Int32.toInt64 p2) (1 : Int64) (60 : Int64)) (fun x6 => if x6 = 0 then (some ((-1 : Int32), st)) else (br (fX10_in (Int32.toInt64 p3) (0 : Int64) (100 : Int64)) (fun x9 => if x9 = 0 then (some ((-1 : Int32), st)) else (br (fX10_in (Int32.toInt64 p4) (0 : Int64) (1 : Int64)) (fun x12 => if x12 = 0 then (some ((-1 : Int32), st)) else (nm (st.1 502 10) (fun x15 => br (fX10_keepsAll st) (fun s17 => fX10_winters_L82 p1 p2 p3 p4 10000 x15 x15 (0 : Int32) (0 : Int32) (0 : Int32) s17)))))))))))
set_option maxRecDepth 100000 in
theorem tX10_winters (l : Launch) (E : Ev) (st : St) (sz : Nat) (hL : ∀ k, fxM k = true → k ∈ eL E) (p1 : Int32) (p2 : Int32) (p3 : Int32) (p4 : Int32) {res : (Int32 × St)} (hf : fX10_winters  p1 p2 p3 p4 st = some res) : Met l yX10_winters (.code yX10_winters cX10_winters 11 (some .int) :: uW) (rmk 7) (va_Pc [.ref (eq E 500), .int p1, .int p2, .int p3, .int p4] (Pre E st sz)) (QWi E res.2 sz res.1) 0 0 (Af E sz) := by
  refine Met_in (by decide) (Nat.le_of_ble_eq_true rfl) ?_
  intro p e s m below meth c X hr hlk hz G ls hl
  have hx := X.1.1
  have hb := X.1.2.1
  have hl : lv_has ls 11 [(0, .ref (eq E 500)), (1, .int p1), (2, .int p2), (3, .int p3), (4, .int p4)] := hl
  unfold fX10_winters at hf
  refine lv_aload_n hx hb dX10_winters_0 rfl (lv_at hl 0 rfl) ?_
  refine gf10 X G (hL 500 rfl) rfl 28 (by decide) rfl kf_X10_327 iwX10 dX10_winters_1 ?_
  refine lv_if_eq (tgt := 54) hx hb dX10_winters_4 (by decide) (fun c1 => ?_) (fun c1 => ?_)
  · have hf := it_t hf c1
    refine lv_iconst (v := (-1 : Int32)) hx hb dX10_winters_54 (by decide) ?_
    exact rtWi X hlk G hr (so_i hf) dX10_winters_55
  · have hf := it_f hf c1
    refine lv_iload_n hx hb dX10_winters_7 rfl (lv_at hl 1 rfl) ?_
    refine lv_i2l hx hb dX10_winters_8 rfl ?_
    refine lv_lconst (v := (1 : Int64)) hx hb dX10_winters_9 (by decide) ?_
    refine lv_ldc2 (v := (10 : Int64)) hx hb X.1.2.2.2.1 (X.1.2.2.2.2 _ kk_X10_498) dX10_winters_10 ?_
    obtain ⟨x3, h2, hf⟩ := br_s hf
    refine cSRi (As := [.long (Int32.toInt64 p1), .long (1 : Int64), .long (10 : Int64)]) (rest := []) X G kc_X10_152 (tX10_in l E st _  (Int32.toInt64 p1) (1 : Int64) (10 : Int64) h2) rfl rfl (rmk_le (by omega) (by decide)) rfl hl.1 rfl (Nat.le_of_ble_eq_true rfl) dX10_winters_13 ⟨Nat.zero_le _, Nat.zero_le _⟩ ?_
    refine lv_if_eq (tgt := 54) hx hb dX10_winters_16 (by decide) (fun c4 => ?_) (fun c4 => ?_)
    · have hf := it_t hf c4
      refine lv_iconst (v := (-1 : Int32)) hx hb dX10_winters_54 (by decide) ?_
      exact rtWi X hlk G hr (so_i hf) dX10_winters_55
    · have hf := it_f hf c4
      refine lv_iload_n hx hb dX10_winters_19 rfl (lv_at hl 2 rfl) ?_
      refine lv_i2l hx hb dX10_winters_20 rfl ?_
      refine lv_lconst (v := (1 : Int64)) hx hb dX10_winters_21 (by decide) ?_
      refine lv_ldc2 (v := (60 : Int64)) hx hb X.1.2.2.2.1 (X.1.2.2.2.2 _ kk_X10_471) dX10_winters_22 ?_
      obtain ⟨x6, h5, hf⟩ := br_s hf
      refine cSRi (As := [.long (Int32.toInt64 p2), .long (1 : Int64), .long (60 : Int64)]) (rest := []) X G kc_X10_152 (tX10_in l E st _  (Int32.toInt64 p2) (1 : Int64) (60 : Int64) h5) rfl rfl (rmk_le (by omega) (by decide)) rfl hl.1 rfl (Nat.le_of_ble_eq_true rfl) dX10_winters_25 ⟨Nat.zero_le _, Nat.zero_le _⟩ ?_
      refine lv_if_eq (tgt := 54) hx hb dX10_winters_28 (by decide) (fun c7 => ?_) (fun c7 => ?_)
      · have hf := it_t hf c7
        refine lv_iconst (v := (-1 : Int32)) hx hb dX10_winters_54 (by decide) ?_
        exact rtWi X hlk G hr (so_i hf) dX10_winters_55
      · have hf := it_f hf c7
        refine lv_iload_n hx hb dX10_winters_31 rfl (lv_at hl 3 rfl) ?_
        refine lv_i2l hx hb dX10_winters_32 rfl ?_
        refine lv_lconst (v := (0 : Int64)) hx hb dX10_winters_33 (by decide) ?_
        refine lv_ldc2 (v := (100 : Int64)) hx hb X.1.2.2.2.1 (X.1.2.2.2.2 _ kk_X10_446) dX10_winters_34 ?_
        obtain ⟨x9, h8, hf⟩ := br_s hf
        refine cSRi (As := [.long (Int32.toInt64 p3), .long (0 : Int64), .long (100 : Int64)]) (rest := []) X G kc_X10_152 (tX10_in l E st _  (Int32.toInt64 p3) (0 : Int64) (100 : Int64) h8) rfl rfl (rmk_le (by omega) (by decide)) rfl hl.1 rfl (Nat.le_of_ble_eq_true rfl) dX10_winters_37 ⟨Nat.zero_le _, Nat.zero_le _⟩ ?_
        refine lv_if_eq (tgt := 54) hx hb dX10_winters_40 (by decide) (fun c10 => ?_) (fun c10 => ?_)
        · have hf := it_t hf c10
          refine lv_iconst (v := (-1 : Int32)) hx hb dX10_winters_54 (by decide) ?_
          exact rtWi X hlk G hr (so_i hf) dX10_winters_55
        · have hf := it_f hf c10
          refine lv_iload hx hb dX10_winters_43 (lv_at hl 4 rfl) ?_
          refine lv_i2l hx hb dX10_winters_45 rfl ?_
          refine lv_lconst (v := (0 : Int64)) hx hb dX10_winters_46 (by decide) ?_
          refine lv_lconst (v := (1 : Int64)) hx hb dX10_winters_47 (by decide) ?_
          obtain ⟨x12, h11, hf⟩ := br_s hf
          refine cSRi (As := [.long (Int32.toInt64 p4), .long (0 : Int64), .long (1 : Int64)]) (rest := []) X G kc_X10_152 (tX10_in l E st _  (Int32.toInt64 p4) (0 : Int64) (1 : Int64) h11) rfl rfl (rmk_le (by omega) (by decide)) rfl hl.1 rfl (Nat.le_of_ble_eq_true rfl) dX10_winters_48 ⟨Nat.zero_le _, Nat.zero_le _⟩ ?_
          refine lv_if_ne (tgt := 56) hx hb dX10_winters_51 (by decide) (fun c13 => ?_) (fun c13 => ?_)
          · have hf := it_f hf c13
            refine lv_aload_n hx hb dX10_winters_56 rfl (lv_at hl 0 rfl) ?_
            refine gf10 X G (hL 500 rfl) rfl 1 (by decide) rfl kf_X10_9 iwX10 dX10_winters_57 ?_
            refine lv_bipush (v := (10 : Int32)) hx hb dX10_winters_60 (by decide) ?_
            refine ia_ldc (k := 502) (n := 12) X G (hL 502 rfl) rfl (by decide) 10 (by decide) dX10_winters_62 ?_
            refine lv_topi (fun x15 ex15 => ?_)
            have hf := nm_s hf x15 ex15
            refine lv_istore (lv' := [(5, .int x15), (0, .ref (eq E 500)), (1, .int p1), (2, .int p2), (3, .int p3), (4, .int p4)]) hx hb dX10_winters_63 hl (by decide) rfl (fun ls hl => ?_)
            refine lv_iload hx hb dX10_winters_65 (lv_at hl 0 rfl) ?_
            refine lv_istore (lv' := [(6, .int x15), (5, .int x15), (0, .ref (eq E 500)), (1, .int p1), (2, .int p2), (3, .int p3), (4, .int p4)]) hx hb dX10_winters_67 hl (by decide) rfl (fun ls hl => ?_)
            refine lv_iconst (v := (0 : Int32)) hx hb dX10_winters_69 (by decide) ?_
            refine lv_istore (lv' := [(7, .int (0 : Int32)), (6, .int x15), (5, .int x15), (0, .ref (eq E 500)), (1, .int p1), (2, .int p2), (3, .int p3), (4, .int p4)]) hx hb dX10_winters_70 hl (by decide) rfl (fun ls hl => ?_)
            refine lv_iconst (v := (0 : Int32)) hx hb dX10_winters_72 (by decide) ?_
            refine lv_istore (lv' := [(8, .int (0 : Int32)), (7, .int (0 : Int32)), (6, .int x15), (5, .int x15), (0, .ref (eq E 500)), (1, .int p1), (2, .int p2), (3, .int p3), (4, .int p4)]) hx hb dX10_winters_73 hl (by decide) rfl (fun ls hl => ?_)
            refine lv_aload_n hx hb dX10_winters_75 rfl (lv_at hl 4 rfl) ?_
            obtain ⟨s17, h16, hf⟩ := br_s hf
            refine cVWv (As := []) (rest := []) X G kc_X10_448 (tX10_keepsAll l E st _ hL   h16) (rcv X G (hL 500 rfl) (cO10 rfl) rfl) rfl rfl (rmk_le (by omega) (by decide)) rfl hl.1 rfl (Nat.le_of_ble_eq_true rfl) dX10_winters_76 ⟨Nat.zero_le _, Nat.zero_le _⟩ (fun H locs G => ?_)
            refine lv_iconst (v := (0 : Int32)) hx hb dX10_winters_79 (by decide) ?_
            refine lv_istore (lv' := [(9, .int (0 : Int32)), (8, .int (0 : Int32)), (7, .int (0 : Int32)), (6, .int x15), (5, .int x15), (0, .ref (eq E 500)), (1, .int p1), (2, .int p2), (3, .int p3), (4, .int p4)]) hx hb dX10_winters_80 hl (by decide) rfl (fun ls hl => ?_)
            exact wX10_winters_L82 hL X hr hlk 10000 x15 x15 (0 : Int32) (0 : Int32) (0 : Int32) s17 _ _ hf G _ (lv_sub hl [5, 6, 7, 8, 9, 4, 3, 2, 1, 0] rfl)
          · have hf := it_t hf c13
            refine lv_iconst (v := (-1 : Int32)) hx hb dX10_winters_54 (by decide) ?_
            exact rtWi X hlk G hr (so_i hf) dX10_winters_55
def fX10_count (st : St) (p1 : Int32) : Option Int32 := if p1 = (0 : Int32) then (some (st.1 502 0)) else (if p1 = (1 : Int32) then (some (st.1 502 1)) else (if p1 = (2 : Int32) then (some (st.1 502 2)) else (if p1 = (3 : Int32) then (some (st.1 502 3)) else (if p1 = (4 : Int32) then (some (st.1 502 4)) else (if p1 = (5 : Int32) then (some (st.1 502 5)) else (if p1 = (6 : Int32) then (some (st.1 500 33)) else (if p1 = (7 : Int32) then (some (st.1 502 11)) else (if p1 = (8 : Int32) then (some (st.1 502 6)) else (if p1 = (9 : Int32) then (some (st.1 502 7)) else (if p1 = (10 : Int32) then (some (st.1 502 8)) else (if p1 = (11 : Int32) then (br (fX10_isSnowTold st) (fun x2 => if x2 = 0 then (some (0 : Int32)) else (some (1 : Int32)))) else (if p1 = (12 : Int32) then (some (st.1 502 9)) else (if p1 = (13 : Int32) then (some (st.1 500 52)) else (if p1 = (14 : Int32) then (some (st.1 502 10)) else (if p1 = (15 : Int32) then (some (st.1 500 29)) else (some (-1 : Int32)))))))))))))))))
set_option maxRecDepth 100000 in
theorem tX10_count (l : Launch) (E : Ev) (st : St) (sz : Nat) (hL : ∀ k, fxM k = true → k ∈ eL E) (p1 : Int32) {res : Int32} (hf : fX10_count st p1 = some res) : Met l yX10_count (.code yX10_count cX10_count 2 (some .int) :: uW) (rmk 1) (va_Pc [.ref (eq E 500), .int p1] (Pre E st sz)) (QRi res) 0 0 (NoF) := by
  refine Met_in (by decide) (Nat.le_of_ble_eq_true rfl) ?_
  intro p e s m below meth c X hr hlk hz G ls hl
  have hx := X.1.1
  have hb := X.1.2.1
  have hl : lv_has ls 2 [(0, .ref (eq E 500)), (1, .int p1)] := hl
  unfold fX10_count at hf
  refine lv_iload_n hx hb dX10_count_0 rfl (lv_at hl 1 rfl) ?_
  by_cases cs0 : p1 = (0 : Int32)
  · have hf := it_t hf cs0
    refine tbl_in hx hb dX10_count_1 cs0 (by decide) (by decide) rfl (tgt := 80) (by decide) ?_
    refine lv_aload_n hx hb dX10_count_80 rfl (lv_at hl 0 rfl) ?_
    refine gf10 X G (hL 500 rfl) rfl 1 (by decide) rfl kf_X10_9 iwX10 dX10_count_81 ?_
    refine lv_iconst (v := (0 : Int32)) hx hb dX10_count_84 (by decide) ?_
    refine ia_ldc (k := 502) (n := 12) X G (hL 502 rfl) rfl (by decide) 0 (by decide) dX10_count_85 ?_
    exact rtRi X hlk hr (so_i hf) dX10_count_86
  have hf := it_f hf cs0
  by_cases cs1 : p1 = (1 : Int32)
  · have hf := it_t hf cs1
    refine tbl_in hx hb dX10_count_1 cs1 (by decide) (by decide) rfl (tgt := 87) (by decide) ?_
    refine lv_aload_n hx hb dX10_count_87 rfl (lv_at hl 0 rfl) ?_
    refine gf10 X G (hL 500 rfl) rfl 1 (by decide) rfl kf_X10_9 iwX10 dX10_count_88 ?_
    refine lv_iconst (v := (1 : Int32)) hx hb dX10_count_91 (by decide) ?_
    refine ia_ldc (k := 502) (n := 12) X G (hL 502 rfl) rfl (by decide) 1 (by decide) dX10_count_92 ?_
    exact rtRi X hlk hr (so_i hf) dX10_count_93
  have hf := it_f hf cs1
  by_cases cs2 : p1 = (2 : Int32)
  · have hf := it_t hf cs2
    refine tbl_in hx hb dX10_count_1 cs2 (by decide) (by decide) rfl (tgt := 94) (by decide) ?_
    refine lv_aload_n hx hb dX10_count_94 rfl (lv_at hl 0 rfl) ?_
    refine gf10 X G (hL 500 rfl) rfl 1 (by decide) rfl kf_X10_9 iwX10 dX10_count_95 ?_
    refine lv_iconst (v := (2 : Int32)) hx hb dX10_count_98 (by decide) ?_
    refine ia_ldc (k := 502) (n := 12) X G (hL 502 rfl) rfl (by decide) 2 (by decide) dX10_count_99 ?_
    exact rtRi X hlk hr (so_i hf) dX10_count_100
  have hf := it_f hf cs2
  by_cases cs3 : p1 = (3 : Int32)
  · have hf := it_t hf cs3
    refine tbl_in hx hb dX10_count_1 cs3 (by decide) (by decide) rfl (tgt := 101) (by decide) ?_
    refine lv_aload_n hx hb dX10_count_101 rfl (lv_at hl 0 rfl) ?_
    refine gf10 X G (hL 500 rfl) rfl 1 (by decide) rfl kf_X10_9 iwX10 dX10_count_102 ?_
    refine lv_iconst (v := (3 : Int32)) hx hb dX10_count_105 (by decide) ?_
    refine ia_ldc (k := 502) (n := 12) X G (hL 502 rfl) rfl (by decide) 3 (by decide) dX10_count_106 ?_
    exact rtRi X hlk hr (so_i hf) dX10_count_107
  have hf := it_f hf cs3
  by_cases cs4 : p1 = (4 : Int32)
  · have hf := it_t hf cs4
    refine tbl_in hx hb dX10_count_1 cs4 (by decide) (by decide) rfl (tgt := 108) (by decide) ?_
    refine lv_aload_n hx hb dX10_count_108 rfl (lv_at hl 0 rfl) ?_
    refine gf10 X G (hL 500 rfl) rfl 1 (by decide) rfl kf_X10_9 iwX10 dX10_count_109 ?_
    refine lv_iconst (v := (4 : Int32)) hx hb dX10_count_112 (by decide) ?_
    refine ia_ldc (k := 502) (n := 12) X G (hL 502 rfl) rfl (by decide) 4 (by decide) dX10_count_113 ?_
    exact rtRi X hlk hr (so_i hf) dX10_count_114
  have hf := it_f hf cs4
  by_cases cs5 : p1 = (5 : Int32)
  · have hf := it_t hf cs5
    refine tbl_in hx hb dX10_count_1 cs5 (by decide) (by decide) rfl (tgt := 115) (by decide) ?_
    refine lv_aload_n hx hb dX10_count_115 rfl (lv_at hl 0 rfl) ?_
    refine gf10 X G (hL 500 rfl) rfl 1 (by decide) rfl kf_X10_9 iwX10 dX10_count_116 ?_
    refine lv_iconst (v := (5 : Int32)) hx hb dX10_count_119 (by decide) ?_
    refine ia_ldc (k := 502) (n := 12) X G (hL 502 rfl) rfl (by decide) 5 (by decide) dX10_count_120 ?_
    exact rtRi X hlk hr (so_i hf) dX10_count_121
  have hf := it_f hf cs5
  by_cases cs6 : p1 = (6 : Int32)
  · have hf := it_t hf cs6
    refine tbl_in hx hb dX10_count_1 cs6 (by decide) (by decide) rfl (tgt := 122) (by decide) ?_
    refine lv_aload_n hx hb dX10_count_122 rfl (lv_at hl 0 rfl) ?_
    refine gf10 X G (hL 500 rfl) rfl 33 (by decide) rfl kf_X10_347 iwX10 dX10_count_123 ?_
    exact rtRi X hlk hr (so_i hf) dX10_count_126
  have hf := it_f hf cs6
  by_cases cs7 : p1 = (7 : Int32)
  · have hf := it_t hf cs7
    refine tbl_in hx hb dX10_count_1 cs7 (by decide) (by decide) rfl (tgt := 127) (by decide) ?_
    refine lv_aload_n hx hb dX10_count_127 rfl (lv_at hl 0 rfl) ?_
    refine gf10 X G (hL 500 rfl) rfl 1 (by decide) rfl kf_X10_9 iwX10 dX10_count_128 ?_
    refine lv_bipush (v := (11 : Int32)) hx hb dX10_count_131 (by decide) ?_
    refine ia_ldc (k := 502) (n := 12) X G (hL 502 rfl) rfl (by decide) 11 (by decide) dX10_count_133 ?_
    exact rtRi X hlk hr (so_i hf) dX10_count_134
  have hf := it_f hf cs7
  by_cases cs8 : p1 = (8 : Int32)
  · have hf := it_t hf cs8
    refine tbl_in hx hb dX10_count_1 cs8 (by decide) (by decide) rfl (tgt := 135) (by decide) ?_
    refine lv_aload_n hx hb dX10_count_135 rfl (lv_at hl 0 rfl) ?_
    refine gf10 X G (hL 500 rfl) rfl 1 (by decide) rfl kf_X10_9 iwX10 dX10_count_136 ?_
    refine lv_bipush (v := (6 : Int32)) hx hb dX10_count_139 (by decide) ?_
    refine ia_ldc (k := 502) (n := 12) X G (hL 502 rfl) rfl (by decide) 6 (by decide) dX10_count_141 ?_
    exact rtRi X hlk hr (so_i hf) dX10_count_142
  have hf := it_f hf cs8
  by_cases cs9 : p1 = (9 : Int32)
  · have hf := it_t hf cs9
    refine tbl_in hx hb dX10_count_1 cs9 (by decide) (by decide) rfl (tgt := 143) (by decide) ?_
    refine lv_aload_n hx hb dX10_count_143 rfl (lv_at hl 0 rfl) ?_
    refine gf10 X G (hL 500 rfl) rfl 1 (by decide) rfl kf_X10_9 iwX10 dX10_count_144 ?_
    refine lv_bipush (v := (7 : Int32)) hx hb dX10_count_147 (by decide) ?_
    refine ia_ldc (k := 502) (n := 12) X G (hL 502 rfl) rfl (by decide) 7 (by decide) dX10_count_149 ?_
    exact rtRi X hlk hr (so_i hf) dX10_count_150
  have hf := it_f hf cs9
  by_cases cs10 : p1 = (10 : Int32)
  · have hf := it_t hf cs10
    refine tbl_in hx hb dX10_count_1 cs10 (by decide) (by decide) rfl (tgt := 151) (by decide) ?_
    refine lv_aload_n hx hb dX10_count_151 rfl (lv_at hl 0 rfl) ?_
    refine gf10 X G (hL 500 rfl) rfl 1 (by decide) rfl kf_X10_9 iwX10 dX10_count_152 ?_
    refine lv_bipush (v := (8 : Int32)) hx hb dX10_count_155 (by decide) ?_
    refine ia_ldc (k := 502) (n := 12) X G (hL 502 rfl) rfl (by decide) 8 (by decide) dX10_count_157 ?_
    exact rtRi X hlk hr (so_i hf) dX10_count_158
  have hf := it_f hf cs10
  by_cases cs11 : p1 = (11 : Int32)
  · have hf := it_t hf cs11
    refine tbl_in hx hb dX10_count_1 cs11 (by decide) (by decide) rfl (tgt := 159) (by decide) ?_
    refine lv_aload_n hx hb dX10_count_159 rfl (lv_at hl 0 rfl) ?_
    obtain ⟨x2, h1, hf⟩ := br_s hf
    refine cVRi (As := []) (rest := []) X G kc_X10_402 (tX10_isSnowTold l E st _ hL   h1) (rcv X G (hL 500 rfl) (cO10 rfl) rfl) rfl rfl (rmk_le (by omega) (by decide)) rfl hl.1 rfl (Nat.le_of_ble_eq_true rfl) dX10_count_160 ⟨Nat.zero_le _, Nat.zero_le _⟩ ?_
    refine lv_if_eq (tgt := 170) hx hb dX10_count_163 (by decide) (fun c3 => ?_) (fun c3 => ?_)
    · have hf := it_t hf c3
      refine lv_iconst (v := (0 : Int32)) hx hb dX10_count_170 (by decide) ?_
      exact rtRi X hlk hr (so_i hf) dX10_count_171
    · have hf := it_f hf c3
      refine lv_iconst (v := (1 : Int32)) hx hb dX10_count_166 (by decide) ?_
      refine lv_goto (tgt := 171) hx hb dX10_count_167 (by decide) ?_
      exact rtRi X hlk hr (so_i hf) dX10_count_171
  have hf := it_f hf cs11
  by_cases cs12 : p1 = (12 : Int32)
  · have hf := it_t hf cs12
    refine tbl_in hx hb dX10_count_1 cs12 (by decide) (by decide) rfl (tgt := 172) (by decide) ?_
    refine lv_aload_n hx hb dX10_count_172 rfl (lv_at hl 0 rfl) ?_
    refine gf10 X G (hL 500 rfl) rfl 1 (by decide) rfl kf_X10_9 iwX10 dX10_count_173 ?_
    refine lv_bipush (v := (9 : Int32)) hx hb dX10_count_176 (by decide) ?_
    refine ia_ldc (k := 502) (n := 12) X G (hL 502 rfl) rfl (by decide) 9 (by decide) dX10_count_178 ?_
    exact rtRi X hlk hr (so_i hf) dX10_count_179
  have hf := it_f hf cs12
  by_cases cs13 : p1 = (13 : Int32)
  · have hf := it_t hf cs13
    refine tbl_in hx hb dX10_count_1 cs13 (by decide) (by decide) rfl (tgt := 180) (by decide) ?_
    refine lv_aload_n hx hb dX10_count_180 rfl (lv_at hl 0 rfl) ?_
    refine gf10 X G (hL 500 rfl) rfl 52 (by decide) rfl kf_X10_334 iwX10 dX10_count_181 ?_
    exact rtRi X hlk hr (so_i hf) dX10_count_184
  have hf := it_f hf cs13
  by_cases cs14 : p1 = (14 : Int32)
  · have hf := it_t hf cs14
    refine tbl_in hx hb dX10_count_1 cs14 (by decide) (by decide) rfl (tgt := 185) (by decide) ?_
    refine lv_aload_n hx hb dX10_count_185 rfl (lv_at hl 0 rfl) ?_
    refine gf10 X G (hL 500 rfl) rfl 1 (by decide) rfl kf_X10_9 iwX10 dX10_count_186 ?_
    refine lv_bipush (v := (10 : Int32)) hx hb dX10_count_189 (by decide) ?_
    refine ia_ldc (k := 502) (n := 12) X G (hL 502 rfl) rfl (by decide) 10 (by decide) dX10_count_191 ?_
    exact rtRi X hlk hr (so_i hf) dX10_count_192
  have hf := it_f hf cs14
  by_cases cs15 : p1 = (15 : Int32)
  · have hf := it_t hf cs15
    refine tbl_in hx hb dX10_count_1 cs15 (by decide) (by decide) rfl (tgt := 193) (by decide) ?_
    refine lv_aload_n hx hb dX10_count_193 rfl (lv_at hl 0 rfl) ?_
    refine gf10 X G (hL 500 rfl) rfl 29 (by decide) rfl kf_X10_160 iwX10 dX10_count_194 ?_
    exact rtRi X hlk hr (so_i hf) dX10_count_197
  have hf := it_f hf cs15
  have kd : W p l e (rmk 1) s m [.ref (eq E 500), .int p1].toArray below meth c s.heap [] 0 0 (MQ below (QRi res) [.ref (eq E 500), .int p1].toArray s 0 0 (NoF)) (F0 m 198 ls []) := by
    refine lv_iconst (v := (-1 : Int32)) hx hb dX10_count_198 (by decide) ?_
    exact rtRi X hlk hr (so_i hf) dX10_count_199
  refine lv_tableOut (tgt := 198) hx hb dX10_count_1 (sw_out (fun v h1 h2 => ?_)) (by decide) kd
  rcases (show v = 0 ∨ v = 1 ∨ v = 2 ∨ v = 3 ∨ v = 4 ∨ v = 5 ∨ v = 6 ∨ v = 7 ∨ v = 8 ∨ v = 9 ∨ v = 10 ∨ v = 11 ∨ v = 12 ∨ v = 13 ∨ v = 14 ∨ v = 15 by omega) with rfl | rfl | rfl | rfl | rfl | rfl | rfl | rfl | rfl | rfl | rfl | rfl | rfl | rfl | rfl | rfl
  · exact cs0
  · exact cs1
  · exact cs2
  · exact cs3
  · exact cs4
  · exact cs5
  · exact cs6
  · exact cs7
  · exact cs8
  · exact cs9
  · exact cs10
  · exact cs11
  · exact cs12
  · exact cs13
  · exact cs14
  · exact cs15
def fX10_image (p1 : Int32) (st : St) : Option (Int32 × St) := br (fX10_in (Int32.toInt64 p1) (0 : Int64) (3 : Int64)) (fun x2 => if x2 = 0 then (some ((-1 : Int32), st)) else (gd (ix p1 4) (nm (ui st 560 p1.toNatClampNeg (vp_nar .boolean (1 : Int32))) (fun s5 => gd (ix p1 4) (nm (ui s5 561 p1.toNatClampNeg (vp_nar .boolean (s5.1 500 28))) (fun s7 => br (fX10_carriesAll p1 (0 : Int32) s7) (fun s9 => some ((s9.1 502 6), s9))))))))
set_option maxRecDepth 100000 in
theorem tX10_image (l : Launch) (E : Ev) (st : St) (sz : Nat) (hL : ∀ k, fxM k = true → k ∈ eL E) (p1 : Int32) {res : (Int32 × St)} (hf : fX10_image  p1 st = some res) : Met l yX10_image (.code yX10_image cX10_image 2 (some .int) :: uW) (rmk 2) (va_Pc [.ref (eq E 500), .int p1] (Pre E st sz)) (QWi E res.2 sz res.1) 0 0 (Af E sz) := by
  refine Met_in (by decide) (Nat.le_of_ble_eq_true rfl) ?_
  intro p e s m below meth c X hr hlk hz G ls hl
  have hx := X.1.1
  have hb := X.1.2.1
  have hl : lv_has ls 2 [(0, .ref (eq E 500)), (1, .int p1)] := hl
  unfold fX10_image at hf
  refine lv_iload_n hx hb dX10_image_0 rfl (lv_at hl 1 rfl) ?_
  refine lv_i2l hx hb dX10_image_1 rfl ?_
  refine lv_lconst (v := (0 : Int64)) hx hb dX10_image_2 (by decide) ?_
  refine lv_ldc2 (v := (3 : Int64)) hx hb X.1.2.2.2.1 (X.1.2.2.2.2 _ kk_X10_462) dX10_image_3 ?_
  obtain ⟨x2, h1, hf⟩ := br_s hf
  refine cSRi (As := [.long (Int32.toInt64 p1), .long (0 : Int64), .long (3 : Int64)]) (rest := []) X G kc_X10_152 (tX10_in l E st _  (Int32.toInt64 p1) (0 : Int64) (3 : Int64) h1) rfl rfl (rmk_le (by omega) (by decide)) rfl hl.1 rfl (Nat.le_of_ble_eq_true rfl) dX10_image_6 ⟨Nat.zero_le _, Nat.zero_le _⟩ ?_
  refine lv_if_ne (tgt := 14) hx hb dX10_image_9 (by decide) (fun c3 => ?_) (fun c3 => ?_)
  · have hf := it_f hf c3
    refine lv_aload_n hx hb dX10_image_14 rfl (lv_at hl 0 rfl) ?_
    refine gf10 X G (hL 500 rfl) rfl 59 (by decide) rfl kf_X10_142 iwX10 dX10_image_15 ?_
    refine lv_iload_n hx hb dX10_image_18 rfl (lv_at hl 1 rfl) ?_
    refine lv_iconst (v := (1 : Int32)) hx hb dX10_image_19 (by decide) ?_
    obtain ⟨h4, hf⟩ := gd_s hf
    refine za_st (k := 560) (n := 4) X G (hL 560 rfl) rfl (by decide) (ix_in h4) dX10_image_20 (fun s5 es5 H locs G => ?_)
    have hf := nm_s hf s5 es5
    refine lv_aload_n hx hb dX10_image_21 rfl (lv_at hl 0 rfl) ?_
    refine gf10 X G (hL 500 rfl) rfl 60 (by decide) rfl kf_X10_146 iwX10 dX10_image_22 ?_
    refine lv_iload_n hx hb dX10_image_25 rfl (lv_at hl 1 rfl) ?_
    refine lv_aload_n hx hb dX10_image_26 rfl (lv_at hl 0 rfl) ?_
    refine gf10 X G (hL 500 rfl) rfl 28 (by decide) rfl kf_X10_327 iwX10 dX10_image_27 ?_
    obtain ⟨h6, hf⟩ := gd_s hf
    refine za_st (k := 561) (n := 4) X G (hL 561 rfl) rfl (by decide) (ix_in h6) dX10_image_30 (fun s7 es7 H locs G => ?_)
    have hf := nm_s hf s7 es7
    refine lv_aload_n hx hb dX10_image_31 rfl (lv_at hl 0 rfl) ?_
    refine lv_iload_n hx hb dX10_image_32 rfl (lv_at hl 1 rfl) ?_
    refine lv_iconst (v := (0 : Int32)) hx hb dX10_image_33 (by decide) ?_
    obtain ⟨s9, h8, hf⟩ := br_s hf
    refine cVWv (As := [.int p1, .int (0 : Int32)]) (rest := []) X G kc_X10_443 (tX10_carriesAll l E s7 _ hL  p1 (0 : Int32) h8) (rcv X G (hL 500 rfl) (cO10 rfl) rfl) rfl rfl (rmk_le (by omega) (by decide)) rfl hl.1 rfl (Nat.le_of_ble_eq_true rfl) dX10_image_34 ⟨Nat.zero_le _, Nat.zero_le _⟩ (fun H locs G => ?_)
    refine lv_aload_n hx hb dX10_image_37 rfl (lv_at hl 0 rfl) ?_
    refine gf10 X G (hL 500 rfl) rfl 1 (by decide) rfl kf_X10_9 iwX10 dX10_image_38 ?_
    refine lv_bipush (v := (6 : Int32)) hx hb dX10_image_41 (by decide) ?_
    refine ia_ldc (k := 502) (n := 12) X G (hL 502 rfl) rfl (by decide) 6 (by decide) dX10_image_43 ?_
    exact rtWi X hlk G hr (so_i hf) dX10_image_44
  · have hf := it_t hf c3
    refine lv_iconst (v := (-1 : Int32)) hx hb dX10_image_12 (by decide) ?_
    exact rtWi X hlk G hr (so_i hf) dX10_image_13
def fX10_back (p1 : Int32) (st : St) : Option (Int32 × St) := br (fX10_in (Int32.toInt64 p1) (0 : Int64) (3 : Int64)) (fun x2 => if x2 = 0 then (some ((-1 : Int32), st)) else (gd (ix p1 4) (if (st.1 560 p1.toNatClampNeg) = 0 then (some ((-1 : Int32), st)) else (gd (ix p1 4) (gd (bz (st.1 561 p1.toNatClampNeg)) (nm (ui st 500 28 (st.1 561 p1.toNatClampNeg)) (fun s7 => br (fX10_carriesAll p1 (1 : Int32) s7) (fun s10 => some ((s10.1 502 6), s10)))))))))
set_option maxRecDepth 100000 in
theorem tX10_back (l : Launch) (E : Ev) (st : St) (sz : Nat) (hL : ∀ k, fxM k = true → k ∈ eL E) (p1 : Int32) {res : (Int32 × St)} (hf : fX10_back  p1 st = some res) : Met l yX10_back (.code yX10_back cX10_back 2 (some .int) :: uW) (rmk 2) (va_Pc [.ref (eq E 500), .int p1] (Pre E st sz)) (QWi E res.2 sz res.1) 0 0 (Af E sz) := by
  refine Met_in (by decide) (Nat.le_of_ble_eq_true rfl) ?_
  intro p e s m below meth c X hr hlk hz G ls hl
  have hx := X.1.1
  have hb := X.1.2.1
  have hl : lv_has ls 2 [(0, .ref (eq E 500)), (1, .int p1)] := hl
  unfold fX10_back at hf
  refine lv_iload_n hx hb dX10_back_0 rfl (lv_at hl 1 rfl) ?_
  refine lv_i2l hx hb dX10_back_1 rfl ?_
  refine lv_lconst (v := (0 : Int64)) hx hb dX10_back_2 (by decide) ?_
  refine lv_ldc2 (v := (3 : Int64)) hx hb X.1.2.2.2.1 (X.1.2.2.2.2 _ kk_X10_462) dX10_back_3 ?_
  obtain ⟨x2, h1, hf⟩ := br_s hf
  refine cSRi (As := [.long (Int32.toInt64 p1), .long (0 : Int64), .long (3 : Int64)]) (rest := []) X G kc_X10_152 (tX10_in l E st _  (Int32.toInt64 p1) (0 : Int64) (3 : Int64) h1) rfl rfl (rmk_le (by omega) (by decide)) rfl hl.1 rfl (Nat.le_of_ble_eq_true rfl) dX10_back_6 ⟨Nat.zero_le _, Nat.zero_le _⟩ ?_
  refine lv_if_eq (tgt := 21) hx hb dX10_back_9 (by decide) (fun c3 => ?_) (fun c3 => ?_)
  · have hf := it_t hf c3
    refine lv_iconst (v := (-1 : Int32)) hx hb dX10_back_21 (by decide) ?_
    exact rtWi X hlk G hr (so_i hf) dX10_back_22
  · have hf := it_f hf c3
    refine lv_aload_n hx hb dX10_back_12 rfl (lv_at hl 0 rfl) ?_
    refine gf10 X G (hL 500 rfl) rfl 59 (by decide) rfl kf_X10_142 iwX10 dX10_back_13 ?_
    refine lv_iload_n hx hb dX10_back_16 rfl (lv_at hl 1 rfl) ?_
    obtain ⟨h4, hf⟩ := gd_s hf
    refine za_ld (k := 560) (n := 4) X G (hL 560 rfl) rfl (by decide) (ix_in h4) dX10_back_17 ?_
    refine lv_if_ne (tgt := 23) hx hb dX10_back_18 (by decide) (fun c5 => ?_) (fun c5 => ?_)
    · have hf := it_f hf c5
      refine lv_aload_n hx hb dX10_back_23 rfl (lv_at hl 0 rfl) ?_
      refine lv_aload_n hx hb dX10_back_24 rfl (lv_at hl 0 rfl) ?_
      refine gf10 X G (hL 500 rfl) rfl 60 (by decide) rfl kf_X10_146 iwX10 dX10_back_25 ?_
      refine lv_iload_n hx hb dX10_back_28 rfl (lv_at hl 1 rfl) ?_
      obtain ⟨h6, hf⟩ := gd_s hf
      refine za_ld (k := 561) (n := 4) X G (hL 561 rfl) rfl (by decide) (ix_in h6) dX10_back_29 ?_
      obtain ⟨h8, hf⟩ := gd_s hf
      refine pf10 X G (hL 500 rfl) rfl 28 (by decide) ps10_28 uio kf_X10_327 iwX10 rfl (ty := .boolean) (by decide +kernel) (bz_n h8) (bz_f h8) dX10_back_30 (fun s7 es7 H locs G => ?_)
      have hf := nm_s hf s7 es7
      refine lv_aload_n hx hb dX10_back_33 rfl (lv_at hl 0 rfl) ?_
      refine lv_iload_n hx hb dX10_back_34 rfl (lv_at hl 1 rfl) ?_
      refine lv_iconst (v := (1 : Int32)) hx hb dX10_back_35 (by decide) ?_
      obtain ⟨s10, h9, hf⟩ := br_s hf
      refine cVWv (As := [.int p1, .int (1 : Int32)]) (rest := []) X G kc_X10_443 (tX10_carriesAll l E s7 _ hL  p1 (1 : Int32) h9) (rcv X G (hL 500 rfl) (cO10 rfl) rfl) rfl rfl (rmk_le (by omega) (by decide)) rfl hl.1 rfl (Nat.le_of_ble_eq_true rfl) dX10_back_36 ⟨Nat.zero_le _, Nat.zero_le _⟩ (fun H locs G => ?_)
      refine lv_aload_n hx hb dX10_back_39 rfl (lv_at hl 0 rfl) ?_
      refine gf10 X G (hL 500 rfl) rfl 1 (by decide) rfl kf_X10_9 iwX10 dX10_back_40 ?_
      refine lv_bipush (v := (6 : Int32)) hx hb dX10_back_43 (by decide) ?_
      refine ia_ldc (k := 502) (n := 12) X G (hL 502 rfl) rfl (by decide) 6 (by decide) dX10_back_45 ?_
      exact rtWi X hlk G hr (so_i hf) dX10_back_46
    · have hf := it_t hf c5
      refine lv_iconst (v := (-1 : Int32)) hx hb dX10_back_21 (by decide) ?_
      exact rtWi X hlk G hr (so_i hf) dX10_back_22
