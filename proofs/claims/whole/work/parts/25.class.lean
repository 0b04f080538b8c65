theorem dX9_lift_0 : decode cX9_lift 0 = .ok (.aload_n 0, 1) := by decide +kernel
theorem dX9_lift_1 : decode cX9_lift 1 = .ok (.iload_n 1, 1) := by decide +kernel
theorem dX9_lift_2 : decode cX9_lift 2 = .ok (.invokevirtual 140, 3) := by decide +kernel
theorem dX9_lift_5 : decode cX9_lift 5 = .ok (.ifCond .ne 5, 3) := by decide +kernel
theorem dX9_lift_8 : decode cX9_lift 8 = .ok (.iconst (-1), 1) := by decide +kernel
theorem dX9_lift_9 : decode cX9_lift 9 = .ok (.ireturn, 1) := by decide +kernel
theorem dX9_lift_10 : decode cX9_lift 10 = .ok (.aload_n 0, 1) := by decide +kernel
theorem dX9_lift_11 : decode cX9_lift 11 = .ok (.getfield 52, 3) := by decide +kernel
theorem dX9_lift_14 : decode cX9_lift 14 = .ok (.getfield 128, 3) := by decide +kernel
theorem dX9_lift_17 : decode cX9_lift 17 = .ok (.bipush 32, 2) := by decide +kernel
theorem dX9_lift_19 : decode cX9_lift 19 = .ok (.iload_n 1, 1) := by decide +kernel
theorem dX9_lift_20 : decode cX9_lift 20 = .ok (.iadd, 1) := by decide +kernel
theorem dX9_lift_21 : decode cX9_lift 21 = .ok (.iaload, 1) := by decide +kernel
theorem dX9_lift_22 : decode cX9_lift 22 = .ok (.istore_n 2, 1) := by decide +kernel
theorem dX9_lift_23 : decode cX9_lift 23 = .ok (.aload_n 0, 1) := by decide +kernel
theorem dX9_lift_24 : decode cX9_lift 24 = .ok (.iload_n 2, 1) := by decide +kernel
theorem dX9_lift_25 : decode cX9_lift 25 = .ok (.invokevirtual 124, 3) := by decide +kernel
theorem dX9_lift_28 : decode cX9_lift 28 = .ok (.ifCond .eq 19, 3) := by decide +kernel
theorem dX9_lift_31 : decode cX9_lift 31 = .ok (.aload_n 0, 1) := by decide +kernel
theorem dX9_lift_32 : decode cX9_lift 32 = .ok (.getfield 52, 3) := by decide +kernel
theorem dX9_lift_35 : decode cX9_lift 35 = .ok (.getfield 128, 3) := by decide +kernel
theorem dX9_lift_38 : decode cX9_lift 38 = .ok (.bipush 16, 2) := by decide +kernel
theorem dX9_lift_40 : decode cX9_lift 40 = .ok (.iload_n 2, 1) := by decide +kernel
theorem dX9_lift_41 : decode cX9_lift 41 = .ok (.iadd, 1) := by decide +kernel
theorem dX9_lift_42 : decode cX9_lift 42 = .ok (.iaload, 1) := by decide +kernel
theorem dX9_lift_43 : decode cX9_lift 43 = .ok (.iconst 1, 1) := by decide +kernel
theorem dX9_lift_44 : decode cX9_lift 44 = .ok (.if_icmp .ge 5, 3) := by decide +kernel
theorem dX9_lift_47 : decode cX9_lift 47 = .ok (.iconst (-1), 1) := by decide +kernel
theorem dX9_lift_48 : decode cX9_lift 48 = .ok (.ireturn, 1) := by decide +kernel
theorem dX9_lift_49 : decode cX9_lift 49 = .ok (.aload_n 0, 1) := by decide +kernel
theorem dX9_lift_50 : decode cX9_lift 50 = .ok (.getfield 52, 3) := by decide +kernel
theorem dX9_lift_53 : decode cX9_lift 53 = .ok (.invokevirtual 150, 3) := by decide +kernel
theorem dX9_lift_56 : decode cX9_lift 56 = .ok (.aload_n 0, 1) := by decide +kernel
theorem dX9_lift_57 : decode cX9_lift 57 = .ok (.getfield 52, 3) := by decide +kernel
theorem dX9_lift_60 : decode cX9_lift 60 = .ok (.getfield 128, 3) := by decide +kernel
theorem dX9_lift_63 : decode cX9_lift 63 = .ok (.bipush 16, 2) := by decide +kernel
theorem dX9_lift_65 : decode cX9_lift 65 = .ok (.iload_n 2, 1) := by decide +kernel
theorem dX9_lift_66 : decode cX9_lift 66 = .ok (.iadd, 1) := by decide +kernel
theorem dX9_lift_67 : decode cX9_lift 67 = .ok (.iaload, 1) := by decide +kernel
theorem dX9_lift_68 : decode cX9_lift 68 = .ok (.istore_n 3, 1) := by decide +kernel
theorem dX9_lift_69 : decode cX9_lift 69 = .ok (.iload_n 3, 1) := by decide +kernel
theorem dX9_lift_70 : decode cX9_lift 70 = .ok (.iconst 2, 1) := by decide +kernel
theorem dX9_lift_71 : decode cX9_lift 71 = .ok (.idiv, 1) := by decide +kernel
theorem dX9_lift_72 : decode cX9_lift 72 = .ok (.aload_n 0, 1) := by decide +kernel
theorem dX9_lift_73 : decode cX9_lift 73 = .ok (.getfield 69, 3) := by decide +kernel
theorem dX9_lift_76 : decode cX9_lift 76 = .ok (.aload_n 0, 1) := by decide +kernel
theorem dX9_lift_77 : decode cX9_lift 77 = .ok (.getfield 52, 3) := by decide +kernel
theorem dX9_lift_80 : decode cX9_lift 80 = .ok (.getfield 128, 3) := by decide +kernel
theorem dX9_lift_83 : decode cX9_lift 83 = .ok (.iload_n 1, 1) := by decide +kernel
theorem dX9_lift_84 : decode cX9_lift 84 = .ok (.invokevirtual 176, 3) := by decide +kernel
theorem dX9_lift_87 : decode cX9_lift 87 = .ok (.invokestatic 180, 3) := by decide +kernel
theorem dX9_lift_90 : decode cX9_lift 90 = .ok (.istore 4, 2) := by decide +kernel
theorem dX9_lift_92 : decode cX9_lift 92 = .ok (.aload_n 0, 1) := by decide +kernel
theorem dX9_lift_93 : decode cX9_lift 93 = .ok (.getfield 52, 3) := by decide +kernel
theorem dX9_lift_96 : decode cX9_lift 96 = .ok (.getfield 128, 3) := by decide +kernel
theorem dX9_lift_99 : decode cX9_lift 99 = .ok (.bipush 35, 2) := by decide +kernel
theorem dX9_lift_101 : decode cX9_lift 101 = .ok (.iload_n 1, 1) := by decide +kernel
theorem dX9_lift_102 : decode cX9_lift 102 = .ok (.iadd, 1) := by decide +kernel
theorem dX9_lift_103 : decode cX9_lift 103 = .ok (.dup2, 1) := by decide +kernel
theorem dX9_lift_104 : decode cX9_lift 104 = .ok (.iaload, 1) := by decide +kernel
theorem dX9_lift_105 : decode cX9_lift 105 = .ok (.iload 4, 2) := by decide +kernel
theorem dX9_lift_107 : decode cX9_lift 107 = .ok (.iadd, 1) := by decide +kernel
theorem dX9_lift_108 : decode cX9_lift 108 = .ok (.iastore, 1) := by decide +kernel
theorem dX9_lift_109 : decode cX9_lift 109 = .ok (.aload_n 0, 1) := by decide +kernel
theorem dX9_lift_110 : decode cX9_lift 110 = .ok (.getfield 52, 3) := by decide +kernel
theorem dX9_lift_113 : decode cX9_lift 113 = .ok (.getfield 128, 3) := by decide +kernel
theorem dX9_lift_116 : decode cX9_lift 116 = .ok (.iconst 0, 1) := by decide +kernel
theorem dX9_lift_117 : decode cX9_lift 117 = .ok (.iload_n 2, 1) := by decide +kernel
theorem dX9_lift_118 : decode cX9_lift 118 = .ok (.iadd, 1) := by decide +kernel
theorem dX9_lift_119 : decode cX9_lift 119 = .ok (.sipush 999, 3) := by decide +kernel
theorem dX9_lift_122 : decode cX9_lift 122 = .ok (.aload_n 0, 1) := by decide +kernel
theorem dX9_lift_123 : decode cX9_lift 123 = .ok (.getfield 52, 3) := by decide +kernel
theorem dX9_lift_126 : decode cX9_lift 126 = .ok (.getfield 128, 3) := by decide +kernel
theorem dX9_lift_129 : decode cX9_lift 129 = .ok (.iconst 0, 1) := by decide +kernel
theorem dX9_lift_130 : decode cX9_lift 130 = .ok (.iload_n 2, 1) := by decide +kernel
theorem dX9_lift_131 : decode cX9_lift 131 = .ok (.iadd, 1) := by decide +kernel
theorem dX9_lift_132 : decode cX9_lift 132 = .ok (.iaload, 1) := by decide +kernel
theorem dX9_lift_133 : decode cX9_lift 133 = .ok (.iload_n 3, 1) := by decide +kernel
theorem dX9_lift_134 : decode cX9_lift 134 = .ok (.iadd, 1) := by decide +kernel
theorem dX9_lift_135 : decode cX9_lift 135 = .ok (.iload 4, 2) := by decide +kernel
theorem dX9_lift_137 : decode cX9_lift 137 = .ok (.isub, 1) := by decide +kernel
theorem dX9_lift_138 : decode cX9_lift 138 = .ok (.invokestatic 180, 3) := by decide +kernel
theorem dX9_lift_141 : decode cX9_lift 141 = .ok (.iastore, 1) := by decide +kernel
theorem dX9_lift_142 : decode cX9_lift 142 = .ok (.aload_n 0, 1) := by decide +kernel
theorem dX9_lift_143 : decode cX9_lift 143 = .ok (.getfield 52, 3) := by decide +kernel
theorem dX9_lift_146 : decode cX9_lift 146 = .ok (.getfield 128, 3) := by decide +kernel
theorem dX9_lift_149 : decode cX9_lift 149 = .ok (.bipush 16, 2) := by decide +kernel
theorem dX9_lift_151 : decode cX9_lift 151 = .ok (.iload_n 2, 1) := by decide +kernel
theorem dX9_lift_152 : decode cX9_lift 152 = .ok (.iadd, 1) := by decide +kernel
theorem dX9_lift_153 : decode cX9_lift 153 = .ok (.iconst 0, 1) := by decide +kernel
theorem dX9_lift_154 : decode cX9_lift 154 = .ok (.iastore, 1) := by decide +kernel
theorem dX9_lift_155 : decode cX9_lift 155 = .ok (.iload 4, 2) := by decide +kernel
theorem dX9_lift_157 : decode cX9_lift 157 = .ok (.ireturn, 1) := by decide +kernel
theorem dX9_spit_0 : decode cX9_spit 0 = .ok (.aload_n 0, 1) := by decide +kernel
theorem dX9_spit_1 : decode cX9_spit 1 = .ok (.iload_n 1, 1) := by decide +kernel
theorem dX9_spit_2 : decode cX9_spit 2 = .ok (.invokevirtual 140, 3) := by decide +kernel
theorem dX9_spit_5 : decode cX9_spit 5 = .ok (.ifCond .eq 19, 3) := by decide +kernel
theorem dX9_spit_8 : decode cX9_spit 8 = .ok (.aload_n 0, 1) := by decide +kernel
theorem dX9_spit_9 : decode cX9_spit 9 = .ok (.getfield 52, 3) := by decide +kernel
theorem dX9_spit_12 : decode cX9_spit 12 = .ok (.getfield 128, 3) := by decide +kernel
theorem dX9_spit_15 : decode cX9_spit 15 = .ok (.bipush 35, 2) := by decide +kernel
theorem dX9_spit_17 : decode cX9_spit 17 = .ok (.iload_n 1, 1) := by decide +kernel
theorem dX9_spit_18 : decode cX9_spit 18 = .ok (.iadd, 1) := by decide +kernel
theorem dX9_spit_19 : decode cX9_spit 19 = .ok (.iaload, 1) := by decide +kernel
theorem dX9_spit_20 : decode cX9_spit 20 = .ok (.iconst 1, 1) := by decide +kernel
theorem dX9_spit_21 : decode cX9_spit 21 = .ok (.if_icmp .ge 5, 3) := by decide +kernel
theorem dX9_spit_24 : decode cX9_spit 24 = .ok (.iconst (-1), 1) := by decide +kernel
theorem dX9_spit_25 : decode cX9_spit 25 = .ok (.ireturn, 1) := by decide +kernel
theorem dX9_spit_26 : decode cX9_spit 26 = .ok (.aload_n 0, 1) := by decide +kernel
theorem dX9_spit_27 : decode cX9_spit 27 = .ok (.getfield 52, 3) := by decide +kernel
theorem dX9_spit_30 : decode cX9_spit 30 = .ok (.invokevirtual 150, 3) := by decide +kernel
theorem dX9_spit_33 : decode cX9_spit 33 = .ok (.aload_n 0, 1) := by decide +kernel
theorem dX9_spit_34 : decode cX9_spit 34 = .ok (.getfield 52, 3) := by decide +kernel
theorem dX9_spit_37 : decode cX9_spit 37 = .ok (.getfield 128, 3) := by decide +kernel
theorem dX9_spit_40 : decode cX9_spit 40 = .ok (.bipush 40, 2) := by decide +kernel
theorem dX9_spit_42 : decode cX9_spit 42 = .ok (.ldc 186, 2) := by decide +kernel
theorem dX9_spit_44 : decode cX9_spit 44 = .ok (.aload_n 0, 1) := by decide +kernel
theorem dX9_spit_45 : decode cX9_spit 45 = .ok (.getfield 52, 3) := by decide +kernel
theorem dX9_spit_48 : decode cX9_spit 48 = .ok (.getfield 128, 3) := by decide +kernel
theorem dX9_spit_51 : decode cX9_spit 51 = .ok (.bipush 40, 2) := by decide +kernel
theorem dX9_spit_53 : decode cX9_spit 53 = .ok (.iaload, 1) := by decide +kernel
theorem dX9_spit_54 : decode cX9_spit 54 = .ok (.aload_n 0, 1) := by decide +kernel
theorem dX9_spit_55 : decode cX9_spit 55 = .ok (.getfield 52, 3) := by decide +kernel
theorem dX9_spit_58 : decode cX9_spit 58 = .ok (.getfield 128, 3) := by decide +kernel
theorem dX9_spit_61 : decode cX9_spit 61 = .ok (.bipush 35, 2) := by decide +kernel
theorem dX9_spit_63 : decode cX9_spit 63 = .ok (.iload_n 1, 1) := by decide +kernel
theorem dX9_spit_64 : decode cX9_spit 64 = .ok (.iadd, 1) := by decide +kernel
theorem dX9_spit_65 : decode cX9_spit 65 = .ok (.iaload, 1) := by decide +kernel
theorem dX9_spit_66 : decode cX9_spit 66 = .ok (.iadd, 1) := by decide +kernel
theorem dX9_spit_67 : decode cX9_spit 67 = .ok (.invokestatic 180, 3) := by decide +kernel
theorem dX9_spit_70 : decode cX9_spit 70 = .ok (.iastore, 1) := by decide +kernel
theorem dX9_spit_71 : decode cX9_spit 71 = .ok (.aload_n 0, 1) := by decide +kernel
theorem dX9_spit_72 : decode cX9_spit 72 = .ok (.getfield 52, 3) := by decide +kernel
theorem dX9_spit_75 : decode cX9_spit 75 = .ok (.getfield 128, 3) := by decide +kernel
theorem dX9_spit_78 : decode cX9_spit 78 = .ok (.bipush 35, 2) := by decide +kernel
theorem dX9_spit_80 : decode cX9_spit 80 = .ok (.iload_n 1, 1) := by decide +kernel
theorem dX9_spit_81 : decode cX9_spit 81 = .ok (.iadd, 1) := by decide +kernel
theorem dX9_spit_82 : decode cX9_spit 82 = .ok (.iconst 0, 1) := by decide +kernel
theorem dX9_spit_83 : decode cX9_spit 83 = .ok (.iastore, 1) := by decide +kernel
theorem dX9_spit_84 : decode cX9_spit 84 = .ok (.aload_n 0, 1) := by decide +kernel
theorem dX9_spit_85 : decode cX9_spit 85 = .ok (.getfield 52, 3) := by decide +kernel
theorem dX9_spit_88 : decode cX9_spit 88 = .ok (.getfield 128, 3) := by decide +kernel
theorem dX9_spit_91 : decode cX9_spit 91 = .ok (.bipush 40, 2) := by decide +kernel
theorem dX9_spit_93 : decode cX9_spit 93 = .ok (.iaload, 1) := by decide +kernel
theorem dX9_spit_94 : decode cX9_spit 94 = .ok (.ireturn, 1) := by decide +kernel
theorem dX9_undo_0 : decode cX9_undo 0 = .ok (.aload_n 0, 1) := by decide +kernel
theorem dX9_undo_1 : decode cX9_undo 1 = .ok (.getfield 52, 3) := by decide +kernel
theorem dX9_undo_4 : decode cX9_undo 4 = .ok (.invokevirtual 187, 3) := by decide +kernel
theorem dX9_undo_7 : decode cX9_undo 7 = .ok (.ifCond .eq 13, 3) := by decide +kernel
theorem dX9_undo_10 : decode cX9_undo 10 = .ok (.aload_n 0, 1) := by decide +kernel
theorem dX9_undo_11 : decode cX9_undo 11 = .ok (.getfield 52, 3) := by decide +kernel
theorem dX9_undo_14 : decode cX9_undo 14 = .ok (.getfield 191, 3) := by decide +kernel
theorem dX9_undo_17 : decode cX9_undo 17 = .ok (.goto 5, 3) := by decide +kernel
theorem dX9_undo_20 : decode cX9_undo 20 = .ok (.bipush (-2), 2) := by decide +kernel
theorem dX9_undo_22 : decode cX9_undo 22 = .ok (.ireturn, 1) := by decide +kernel
theorem dX9_startTrial_0 : decode cX9_startTrial 0 = .ok (.aload_n 0, 1) := by decide +kernel
theorem dX9_startTrial_1 : decode cX9_startTrial 1 = .ok (.getfield 52, 3) := by decide +kernel
theorem dX9_startTrial_4 : decode cX9_startTrial 4 = .ok (.getfield 128, 3) := by decide +kernel
theorem dX9_startTrial_7 : decode cX9_startTrial 7 = .ok (.iconst 0, 1) := by decide +kernel
theorem dX9_startTrial_8 : decode cX9_startTrial 8 = .ok (.aload_n 0, 1) := by decide +kernel
theorem dX9_startTrial_9 : decode cX9_startTrial 9 = .ok (.getfield 91, 3) := by decide +kernel
theorem dX9_startTrial_12 : decode cX9_startTrial 12 = .ok (.iconst 0, 1) := by decide +kernel
theorem dX9_startTrial_13 : decode cX9_startTrial 13 = .ok (.bipush 41, 2) := by decide +kernel
theorem dX9_startTrial_15 : decode cX9_startTrial 15 = .ok (.invokestatic 292, 3) := by decide +kernel
theorem dX9_startTrial_18 : decode cX9_startTrial 18 = .ok (.aload_n 0, 1) := by decide +kernel
theorem dX9_startTrial_19 : decode cX9_startTrial 19 = .ok (.getfield 69, 3) := by decide +kernel
theorem dX9_startTrial_22 : decode cX9_startTrial 22 = .ok (.aload_n 0, 1) := by decide +kernel
theorem dX9_startTrial_23 : decode cX9_startTrial 23 = .ok (.aload_n 0, 1) := by decide +kernel
theorem dX9_startTrial_24 : decode cX9_startTrial 24 = .ok (.getfield 52, 3) := by decide +kernel
theorem dX9_startTrial_27 : decode cX9_startTrial 27 = .ok (.getfield 121, 3) := by decide +kernel
theorem dX9_startTrial_30 : decode cX9_startTrial 30 = .ok (.invokevirtual 153, 3) := by decide +kernel
theorem dX9_startTrial_33 : decode cX9_startTrial 33 = .ok (.invokevirtual 157, 3) := by decide +kernel
theorem dX9_startTrial_36 : decode cX9_startTrial 36 = .ok (.return_, 1) := by decide +kernel
theorem dX9_ahead_0 : decode cX9_ahead 0 = .ok (.iload_n 3, 1) := by decide +kernel
theorem dX9_ahead_1 : decode cX9_ahead 1 = .ok (.ifCond .ne 11, 3) := by decide +kernel
theorem dX9_ahead_4 : decode cX9_ahead 4 = .ok (.aload_n 0, 1) := by decide +kernel
theorem dX9_ahead_5 : decode cX9_ahead 5 = .ok (.iload_n 1, 1) := by decide +kernel
theorem dX9_ahead_6 : decode cX9_ahead 6 = .ok (.invokevirtual 124, 3) := by decide +kernel
theorem dX9_ahead_9 : decode cX9_ahead 9 = .ok (.ifCond .ne 34, 3) := by decide +kernel
theorem dX9_ahead_12 : decode cX9_ahead 12 = .ok (.iload_n 3, 1) := by decide +kernel
theorem dX9_ahead_13 : decode cX9_ahead 13 = .ok (.iconst 1, 1) := by decide +kernel
theorem dX9_ahead_14 : decode cX9_ahead 14 = .ok (.if_icmp .ne 11, 3) := by decide +kernel
theorem dX9_ahead_17 : decode cX9_ahead 17 = .ok (.aload_n 0, 1) := by decide +kernel
theorem dX9_ahead_18 : decode cX9_ahead 18 = .ok (.iload_n 1, 1) := by decide +kernel
theorem dX9_ahead_19 : decode cX9_ahead 19 = .ok (.invokevirtual 140, 3) := by decide +kernel
theorem dX9_ahead_22 : decode cX9_ahead 22 = .ok (.ifCond .ne 21, 3) := by decide +kernel
theorem dX9_ahead_25 : decode cX9_ahead 25 = .ok (.iload_n 3, 1) := by decide +kernel
theorem dX9_ahead_26 : decode cX9_ahead 26 = .ok (.iconst 2, 1) := by decide +kernel
theorem dX9_ahead_27 : decode cX9_ahead 27 = .ok (.if_icmp .ne 20, 3) := by decide +kernel
theorem dX9_ahead_30 : decode cX9_ahead 30 = .ok (.aload_n 0, 1) := by decide +kernel
theorem dX9_ahead_31 : decode cX9_ahead 31 = .ok (.getfield 52, 3) := by decide +kernel
theorem dX9_ahead_34 : decode cX9_ahead 34 = .ok (.getfield 62, 3) := by decide +kernel
theorem dX9_ahead_37 : decode cX9_ahead 37 = .ok (.getfield 146, 3) := by decide +kernel
theorem dX9_ahead_40 : decode cX9_ahead 40 = .ok (.ifCond .eq 7, 3) := by decide +kernel
theorem dX9_ahead_43 : decode cX9_ahead 43 = .ok (.iconst 1, 1) := by decide +kernel
theorem dX9_ahead_44 : decode cX9_ahead 44 = .ok (.goto 4, 3) := by decide +kernel
theorem dX9_ahead_47 : decode cX9_ahead 47 = .ok (.iconst 0, 1) := by decide +kernel
theorem dX9_ahead_48 : decode cX9_ahead 48 = .ok (.istore 4, 2) := by decide +kernel
theorem dX9_ahead_50 : decode cX9_ahead 50 = .ok (.iload 4, 2) := by decide +kernel
theorem dX9_ahead_52 : decode cX9_ahead 52 = .ok (.ifCond .eq 13, 3) := by decide +kernel
theorem dX9_ahead_55 : decode cX9_ahead 55 = .ok (.iload_n 2, 1) := by decide +kernel
theorem dX9_ahead_56 : decode cX9_ahead 56 = .ok (.ifCond .lt 9, 3) := by decide +kernel
theorem dX9_ahead_59 : decode cX9_ahead 59 = .ok (.iload_n 2, 1) := by decide +kernel
theorem dX9_ahead_60 : decode cX9_ahead 60 = .ok (.bipush 100, 2) := by decide +kernel
theorem dX9_ahead_62 : decode cX9_ahead 62 = .ok (.if_icmp .le 6, 3) := by decide +kernel
theorem dX9_ahead_65 : decode cX9_ahead 65 = .ok (.bipush (-2), 2) := by decide +kernel
theorem dX9_ahead_67 : decode cX9_ahead 67 = .ok (.ireturn, 1) := by decide +kernel
theorem dX9_ahead_68 : decode cX9_ahead 68 = .ok (.aload_n 0, 1) := by decide +kernel
theorem dX9_ahead_69 : decode cX9_ahead 69 = .ok (.invokevirtual 194, 3) := by decide +kernel
theorem dX9_ahead_72 : decode cX9_ahead 72 = .ok (.iconst 0, 1) := by decide +kernel
theorem dX9_ahead_73 : decode cX9_ahead 73 = .ok (.istore 5, 2) := by decide +kernel
theorem dX9_ahead_75 : decode cX9_ahead 75 = .ok (.iload 5, 2) := by decide +kernel
theorem dX9_ahead_77 : decode cX9_ahead 77 = .ok (.iload_n 2, 1) := by decide +kernel
theorem dX9_ahead_78 : decode cX9_ahead 78 = .ok (.if_icmp .ge 22, 3) := by decide +kernel
theorem dX9_ahead_81 : decode cX9_ahead 81 = .ok (.aload_n 0, 1) := by decide +kernel
theorem dX9_ahead_82 : decode cX9_ahead 82 = .ok (.getfield 69, 3) := by decide +kernel
theorem dX9_ahead_85 : decode cX9_ahead 85 = .ok (.aload_n 0, 1) := by decide +kernel
theorem dX9_ahead_86 : decode cX9_ahead 86 = .ok (.getfield 91, 3) := by decide +kernel
theorem dX9_ahead_89 : decode cX9_ahead 89 = .ok (.iconst 0, 1) := by decide +kernel
theorem dX9_ahead_90 : decode cX9_ahead 90 = .ok (.invokevirtual 161, 3) := by decide +kernel
theorem dX9_ahead_93 : decode cX9_ahead 93 = .ok (.pop, 1) := by decide +kernel
theorem dX9_ahead_94 : decode cX9_ahead 94 = .ok (.iinc 5 1, 3) := by decide +kernel
theorem dX9_ahead_97 : decode cX9_ahead 97 = .ok (.goto (-22), 3) := by decide +kernel
theorem dX9_ahead_100 : decode cX9_ahead 100 = .ok (.iload_n 3, 1) := by decide +kernel
theorem dX9_ahead_101 : decode cX9_ahead 101 = .ok (.lookupswitch 46 #[(0, 27), (1, 36)], 27) := by decide +kernel
theorem dX9_ahead_128 : decode cX9_ahead 128 = .ok (.aload_n 0, 1) := by decide +kernel
theorem dX9_ahead_129 : decode cX9_ahead 129 = .ok (.getfield 91, 3) := by decide +kernel
theorem dX9_ahead_132 : decode cX9_ahead 132 = .ok (.iconst 0, 1) := by decide +kernel
theorem dX9_ahead_133 : decode cX9_ahead 133 = .ok (.iload_n 1, 1) := by decide +kernel
theorem dX9_ahead_134 : decode cX9_ahead 134 = .ok (.iadd, 1) := by decide +kernel
theorem dX9_ahead_135 : decode cX9_ahead 135 = .ok (.iaload, 1) := by decide +kernel
theorem dX9_ahead_136 : decode cX9_ahead 136 = .ok (.ireturn, 1) := by decide +kernel
theorem dX9_ahead_137 : decode cX9_ahead 137 = .ok (.aload_n 0, 1) := by decide +kernel
theorem dX9_ahead_138 : decode cX9_ahead 138 = .ok (.getfield 91, 3) := by decide +kernel
theorem dX9_ahead_141 : decode cX9_ahead 141 = .ok (.bipush 35, 2) := by decide +kernel
theorem dX9_ahead_143 : decode cX9_ahead 143 = .ok (.iload_n 1, 1) := by decide +kernel
theorem dX9_ahead_144 : decode cX9_ahead 144 = .ok (.iadd, 1) := by decide +kernel
theorem dX9_ahead_145 : decode cX9_ahead 145 = .ok (.iaload, 1) := by decide +kernel
theorem dX9_ahead_146 : decode cX9_ahead 146 = .ok (.ireturn, 1) := by decide +kernel
theorem dX9_ahead_147 : decode cX9_ahead 147 = .ok (.aload_n 0, 1) := by decide +kernel
theorem dX9_ahead_148 : decode cX9_ahead 148 = .ok (.getfield 91, 3) := by decide +kernel
theorem dX9_ahead_151 : decode cX9_ahead 151 = .ok (.bipush 38, 2) := by decide +kernel
theorem dX9_ahead_153 : decode cX9_ahead 153 = .ok (.iaload, 1) := by decide +kernel
theorem dX9_ahead_154 : decode cX9_ahead 154 = .ok (.invokestatic 197, 3) := by decide +kernel
theorem dX9_ahead_157 : decode cX9_ahead 157 = .ok (.ireturn, 1) := by decide +kernel
theorem dX9_freezes_0 : decode cX9_freezes 0 = .ok (.aload_n 0, 1) := by decide +kernel
theorem dX9_freezes_1 : decode cX9_freezes 1 = .ok (.iload_n 1, 1) := by decide +kernel
theorem dX9_freezes_2 : decode cX9_freezes 2 = .ok (.invokevirtual 124, 3) := by decide +kernel
theorem dX9_freezes_5 : decode cX9_freezes 5 = .ok (.ifCond .eq 11, 3) := by decide +kernel
theorem dX9_freezes_8 : decode cX9_freezes 8 = .ok (.aload_n 0, 1) := by decide +kernel
theorem dX9_freezes_9 : decode cX9_freezes 9 = .ok (.iload_n 1, 1) := by decide +kernel
theorem dX9_freezes_10 : decode cX9_freezes 10 = .ok (.invokevirtual 134, 3) := by decide +kernel
theorem dX9_freezes_13 : decode cX9_freezes 13 = .ok (.ifCond .eq 5, 3) := by decide +kernel
theorem dX9_freezes_16 : decode cX9_freezes 16 = .ok (.iconst (-1), 1) := by decide +kernel
theorem dX9_freezes_17 : decode cX9_freezes 17 = .ok (.ireturn, 1) := by decide +kernel
theorem dX9_freezes_18 : decode cX9_freezes 18 = .ok (.aload_n 0, 1) := by decide +kernel
theorem dX9_freezes_19 : decode cX9_freezes 19 = .ok (.invokevirtual 194, 3) := by decide +kernel
theorem dX9_freezes_22 : decode cX9_freezes 22 = .ok (.iconst 0, 1) := by decide +kernel
theorem dX9_freezes_23 : decode cX9_freezes 23 = .ok (.istore_n 2, 1) := by decide +kernel
theorem dX9_freezes_24 : decode cX9_freezes 24 = .ok (.iload_n 2, 1) := by decide +kernel
theorem dX9_freezes_25 : decode cX9_freezes 25 = .ok (.sipush 200, 3) := by decide +kernel
theorem dX9_freezes_28 : decode cX9_freezes 28 = .ok (.if_icmp .ge 46, 3) := by decide +kernel
theorem dX9_freezes_31 : decode cX9_freezes 31 = .ok (.aload_n 0, 1) := by decide +kernel
theorem dX9_freezes_32 : decode cX9_freezes 32 = .ok (.getfield 91, 3) := by decide +kernel
theorem dX9_freezes_35 : decode cX9_freezes 35 = .ok (.bipush 39, 2) := by decide +kernel
theorem dX9_freezes_37 : decode cX9_freezes 37 = .ok (.iaload, 1) := by decide +kernel
theorem dX9_freezes_38 : decode cX9_freezes 38 = .ok (.istore_n 3, 1) := by decide +kernel
theorem dX9_freezes_39 : decode cX9_freezes 39 = .ok (.aload_n 0, 1) := by decide +kernel
theorem dX9_freezes_40 : decode cX9_freezes 40 = .ok (.getfield 69, 3) := by decide +kernel
theorem dX9_freezes_43 : decode cX9_freezes 43 = .ok (.aload_n 0, 1) := by decide +kernel
theorem dX9_freezes_44 : decode cX9_freezes 44 = .ok (.getfield 91, 3) := by decide +kernel
theorem dX9_freezes_47 : decode cX9_freezes 47 = .ok (.iconst 0, 1) := by decide +kernel
theorem dX9_freezes_48 : decode cX9_freezes 48 = .ok (.invokevirtual 161, 3) := by decide +kernel
theorem dX9_freezes_51 : decode cX9_freezes 51 = .ok (.pop, 1) := by decide +kernel
theorem dX9_freezes_52 : decode cX9_freezes 52 = .ok (.aload_n 0, 1) := by decide +kernel
theorem dX9_freezes_53 : decode cX9_freezes 53 = .ok (.getfield 91, 3) := by decide +kernel
theorem dX9_freezes_56 : decode cX9_freezes 56 = .ok (.bipush 38, 2) := by decide +kernel
theorem dX9_freezes_58 : decode cX9_freezes 58 = .ok (.iaload, 1) := by decide +kernel
theorem dX9_freezes_59 : decode cX9_freezes 59 = .ok (.iconst 1, 1) := by decide +kernel
theorem dX9_freezes_60 : decode cX9_freezes 60 = .ok (.iload_n 1, 1) := by decide +kernel
theorem dX9_freezes_61 : decode cX9_freezes 61 = .ok (.ishl, 1) := by decide +kernel
theorem dX9_freezes_62 : decode cX9_freezes 62 = .ok (.iand, 1) := by decide +kernel
theorem dX9_freezes_63 : decode cX9_freezes 63 = .ok (.ifCond .eq 5, 3) := by decide +kernel
theorem dX9_freezes_66 : decode cX9_freezes 66 = .ok (.iload_n 3, 1) := by decide +kernel
theorem dX9_freezes_67 : decode cX9_freezes 67 = .ok (.ireturn, 1) := by decide +kernel
theorem dX9_freezes_68 : decode cX9_freezes 68 = .ok (.iinc 2 1, 3) := by decide +kernel
theorem dX9_freezes_71 : decode cX9_freezes 71 = .ok (.goto (-47), 3) := by decide +kernel
theorem dX9_freezes_74 : decode cX9_freezes 74 = .ok (.bipush (-2), 2) := by decide +kernel
theorem dX9_freezes_76 : decode cX9_freezes 76 = .ok (.ireturn, 1) := by decide +kernel
theorem dX9_round_0 : decode cX9_round 0 = .ok (.aload_n 0, 1) := by decide +kernel
theorem dX9_round_1 : decode cX9_round 1 = .ok (.iload_n 1, 1) := by decide +kernel
theorem dX9_round_2 : decode cX9_round 2 = .ok (.invokevirtual 140, 3) := by decide +kernel
theorem dX9_round_5 : decode cX9_round 5 = .ok (.ifCond .eq 23, 3) := by decide +kernel
theorem dX9_round_8 : decode cX9_round 8 = .ok (.iload_n 2, 1) := by decide +kernel
theorem dX9_round_9 : decode cX9_round 9 = .ok (.iconst 1, 1) := by decide +kernel
theorem dX9_round_10 : decode cX9_round 10 = .ok (.if_icmp .lt 18, 3) := by decide +kernel
theorem dX9_round_13 : decode cX9_round 13 = .ok (.iload_n 2, 1) := by decide +kernel
theorem dX9_round_14 : decode cX9_round 14 = .ok (.iconst 4, 1) := by decide +kernel
theorem dX9_round_15 : decode cX9_round 15 = .ok (.if_icmp .gt 13, 3) := by decide +kernel
theorem dX9_round_18 : decode cX9_round 18 = .ok (.iload_n 3, 1) := by decide +kernel
theorem dX9_round_19 : decode cX9_round 19 = .ok (.iconst (-1), 1) := by decide +kernel
theorem dX9_round_20 : decode cX9_round 20 = .ok (.if_icmp .lt 8, 3) := by decide +kernel
theorem dX9_round_23 : decode cX9_round 23 = .ok (.iload_n 3, 1) := by decide +kernel
theorem dX9_round_24 : decode cX9_round 24 = .ok (.iconst 4, 1) := by decide +kernel
theorem dX9_round_25 : decode cX9_round 25 = .ok (.if_icmp .lt 6, 3) := by decide +kernel
theorem dX9_round_28 : decode cX9_round 28 = .ok (.bipush (-3), 2) := by decide +kernel
theorem dX9_round_30 : decode cX9_round 30 = .ok (.ireturn, 1) := by decide +kernel
theorem dX9_round_31 : decode cX9_round 31 = .ok (.aload_n 0, 1) := by decide +kernel
theorem dX9_round_32 : decode cX9_round 32 = .ok (.getfield 78, 3) := by decide +kernel
theorem dX9_round_35 : decode cX9_round 35 = .ok (.aload_n 0, 1) := by decide +kernel
theorem dX9_round_36 : decode cX9_round 36 = .ok (.getfield 52, 3) := by decide +kernel
theorem dX9_round_39 : decode cX9_round 39 = .ok (.getfield 128, 3) := by decide +kernel
theorem dX9_round_42 : decode cX9_round 42 = .ok (.iload_n 1, 1) := by decide +kernel
theorem dX9_round_43 : decode cX9_round 43 = .ok (.iload_n 2, 1) := by decide +kernel
theorem dX9_round_44 : decode cX9_round 44 = .ok (.invokevirtual 203, 3) := by decide +kernel
theorem dX9_round_47 : decode cX9_round 47 = .ok (.aload_n 0, 1) := by decide +kernel
theorem dX9_round_48 : decode cX9_round 48 = .ok (.getfield 78, 3) := by decide +kernel
theorem dX9_round_51 : decode cX9_round 51 = .ok (.getfield 207, 3) := by decide +kernel
theorem dX9_round_54 : decode cX9_round 54 = .ok (.ifCond .lt 8, 3) := by decide +kernel
theorem dX9_round_57 : decode cX9_round 57 = .ok (.iload_n 3, 1) := by decide +kernel
theorem dX9_round_58 : decode cX9_round 58 = .ok (.iload_n 2, 1) := by decide +kernel
theorem dX9_round_59 : decode cX9_round 59 = .ok (.if_icmp .lt 6, 3) := by decide +kernel
theorem dX9_round_62 : decode cX9_round 62 = .ok (.bipush (-2), 2) := by decide +kernel
theorem dX9_round_64 : decode cX9_round 64 = .ok (.ireturn, 1) := by decide +kernel
theorem dX9_round_65 : decode cX9_round 65 = .ok (.iload_n 3, 1) := by decide +kernel
theorem dX9_round_66 : decode cX9_round 66 = .ok (.ifCond .ge 13, 3) := by decide +kernel
theorem dX9_round_69 : decode cX9_round 69 = .ok (.aload_n 0, 1) := by decide +kernel
theorem dX9_round_70 : decode cX9_round 70 = .ok (.getfield 78, 3) := by decide +kernel
theorem dX9_round_73 : decode cX9_round 73 = .ok (.getfield 207, 3) := by decide +kernel
theorem dX9_round_76 : decode cX9_round 76 = .ok (.goto 12, 3) := by decide +kernel
theorem dX9_round_79 : decode cX9_round 79 = .ok (.aload_n 0, 1) := by decide +kernel
theorem dX9_round_80 : decode cX9_round 80 = .ok (.getfield 78, 3) := by decide +kernel
theorem dX9_round_83 : decode cX9_round 83 = .ok (.getfield 210, 3) := by decide +kernel
theorem dX9_round_86 : decode cX9_round 86 = .ok (.iload_n 3, 1) := by decide +kernel
theorem dX9_round_87 : decode cX9_round 87 = .ok (.iaload, 1) := by decide +kernel
theorem dX9_round_88 : decode cX9_round 88 = .ok (.ireturn, 1) := by decide +kernel
theorem dX9_span_0 : decode cX9_span 0 = .ok (.aload_n 0, 1) := by decide +kernel
theorem dX9_span_1 : decode cX9_span 1 = .ok (.iload_n 1, 1) := by decide +kernel
theorem dX9_span_2 : decode cX9_span 2 = .ok (.invokevirtual 140, 3) := by decide +kernel
theorem dX9_span_5 : decode cX9_span 5 = .ok (.ifCond .eq 22, 3) := by decide +kernel
theorem dX9_span_8 : decode cX9_span 8 = .ok (.iload_n 2, 1) := by decide +kernel
theorem dX9_span_9 : decode cX9_span 9 = .ok (.iconst 1, 1) := by decide +kernel
theorem dX9_span_10 : decode cX9_span 10 = .ok (.if_icmp .lt 17, 3) := by decide +kernel
theorem dX9_span_13 : decode cX9_span 13 = .ok (.iload_n 2, 1) := by decide +kernel
theorem dX9_span_14 : decode cX9_span 14 = .ok (.iconst 4, 1) := by decide +kernel
theorem dX9_span_15 : decode cX9_span 15 = .ok (.if_icmp .gt 12, 3) := by decide +kernel
theorem dX9_span_18 : decode cX9_span 18 = .ok (.iload_n 3, 1) := by decide +kernel
theorem dX9_span_19 : decode cX9_span 19 = .ok (.ifCond .lt 8, 3) := by decide +kernel
theorem dX9_span_22 : decode cX9_span 22 = .ok (.iload_n 3, 1) := by decide +kernel
theorem dX9_span_23 : decode cX9_span 23 = .ok (.iconst 1, 1) := by decide +kernel
theorem dX9_span_24 : decode cX9_span 24 = .ok (.if_icmp .le 5, 3) := by decide +kernel
theorem dX9_span_27 : decode cX9_span 27 = .ok (.iconst (-1), 1) := by decide +kernel
theorem dX9_span_28 : decode cX9_span 28 = .ok (.ireturn, 1) := by decide +kernel
theorem dX9_span_29 : decode cX9_span 29 = .ok (.aload_n 0, 1) := by decide +kernel
theorem dX9_span_30 : decode cX9_span 30 = .ok (.getfield 78, 3) := by decide +kernel
theorem dX9_span_33 : decode cX9_span 33 = .ok (.aload_n 0, 1) := by decide +kernel
theorem dX9_span_34 : decode cX9_span 34 = .ok (.getfield 52, 3) := by decide +kernel
theorem dX9_span_37 : decode cX9_span 37 = .ok (.getfield 128, 3) := by decide +kernel
theorem dX9_span_40 : decode cX9_span 40 = .ok (.iload_n 1, 1) := by decide +kernel
theorem dX9_span_41 : decode cX9_span 41 = .ok (.iload_n 2, 1) := by decide +kernel
theorem dX9_span_42 : decode cX9_span 42 = .ok (.invokevirtual 203, 3) := by decide +kernel
theorem dX9_span_45 : decode cX9_span 45 = .ok (.aload_n 0, 1) := by decide +kernel
theorem dX9_span_46 : decode cX9_span 46 = .ok (.getfield 78, 3) := by decide +kernel
theorem dX9_span_49 : decode cX9_span 49 = .ok (.getfield 213, 3) := by decide +kernel
theorem dX9_span_52 : decode cX9_span 52 = .ok (.ifCond .ge 6, 3) := by decide +kernel
theorem dX9_span_55 : decode cX9_span 55 = .ok (.bipush (-2), 2) := by decide +kernel
theorem dX9_span_57 : decode cX9_span 57 = .ok (.ireturn, 1) := by decide +kernel
theorem dX9_span_58 : decode cX9_span 58 = .ok (.iload_n 3, 1) := by decide +kernel
theorem dX9_span_59 : decode cX9_span 59 = .ok (.ifCond .ne 13, 3) := by decide +kernel
theorem dX9_span_62 : decode cX9_span 62 = .ok (.aload_n 0, 1) := by decide +kernel
theorem dX9_span_63 : decode cX9_span 63 = .ok (.getfield 78, 3) := by decide +kernel
theorem dX9_span_66 : decode cX9_span 66 = .ok (.getfield 216, 3) := by decide +kernel
theorem dX9_span_69 : decode cX9_span 69 = .ok (.goto 10, 3) := by decide +kernel
theorem dX9_span_72 : decode cX9_span 72 = .ok (.aload_n 0, 1) := by decide +kernel
theorem dX9_span_73 : decode cX9_span 73 = .ok (.getfield 78, 3) := by decide +kernel
theorem dX9_span_76 : decode cX9_span 76 = .ok (.getfield 213, 3) := by decide +kernel
theorem dX9_span_79 : decode cX9_span 79 = .ok (.ireturn, 1) := by decide +kernel
theorem dX9_isTrialLength_0 : decode cX9_isTrialLength 0 = .ok (.iload_n 0, 1) := by decide +kernel
theorem dX9_isTrialLength_1 : decode cX9_isTrialLength 1 = .ok (.iconst 1, 1) := by decide +kernel
theorem dX9_isTrialLength_2 : decode cX9_isTrialLength 2 = .ok (.if_icmp .lt 13, 3) := by decide +kernel
theorem dX9_isTrialLength_5 : decode cX9_isTrialLength 5 = .ok (.iload_n 0, 1) := by decide +kernel
theorem dX9_isTrialLength_6 : decode cX9_isTrialLength 6 = .ok (.bipush 60, 2) := by decide +kernel
theorem dX9_isTrialLength_8 : decode cX9_isTrialLength 8 = .ok (.if_icmp .gt 7, 3) := by decide +kernel
theorem dX9_isTrialLength_11 : decode cX9_isTrialLength 11 = .ok (.iconst 1, 1) := by decide +kernel
theorem dX9_isTrialLength_12 : decode cX9_isTrialLength 12 = .ok (.goto 4, 3) := by decide +kernel
theorem dX9_isTrialLength_15 : decode cX9_isTrialLength 15 = .ok (.iconst 0, 1) := by decide +kernel
theorem dX9_isTrialLength_16 : decode cX9_isTrialLength 16 = .ok (.ireturn, 1) := by decide +kernel
theorem dX9_staysWarm_0 : decode cX9_staysWarm 0 = .ok (.iconst 0, 1) := by decide +kernel
theorem dX9_staysWarm_1 : decode cX9_staysWarm 1 = .ok (.istore_n 3, 1) := by decide +kernel
theorem dX9_staysWarm_2 : decode cX9_staysWarm 2 = .ok (.iload_n 3, 1) := by decide +kernel
theorem dX9_staysWarm_3 : decode cX9_staysWarm 3 = .ok (.iload_n 1, 1) := by decide +kernel
theorem dX9_staysWarm_4 : decode cX9_staysWarm 4 = .ok (.if_icmp .ge 36, 3) := by decide +kernel
theorem dX9_staysWarm_7 : decode cX9_staysWarm 7 = .ok (.aload_n 0, 1) := by decide +kernel
theorem dX9_staysWarm_8 : decode cX9_staysWarm 8 = .ok (.getfield 69, 3) := by decide +kernel
theorem dX9_staysWarm_11 : decode cX9_staysWarm 11 = .ok (.aload_n 0, 1) := by decide +kernel
theorem dX9_staysWarm_12 : decode cX9_staysWarm 12 = .ok (.getfield 91, 3) := by decide +kernel
theorem dX9_staysWarm_15 : decode cX9_staysWarm 15 = .ok (.iconst 0, 1) := by decide +kernel
theorem dX9_staysWarm_16 : decode cX9_staysWarm 16 = .ok (.invokevirtual 161, 3) := by decide +kernel
theorem dX9_staysWarm_19 : decode cX9_staysWarm 19 = .ok (.pop, 1) := by decide +kernel
theorem dX9_staysWarm_20 : decode cX9_staysWarm 20 = .ok (.aload_n 0, 1) := by decide +kernel
theorem dX9_staysWarm_21 : decode cX9_staysWarm 21 = .ok (.getfield 91, 3) := by decide +kernel
theorem dX9_staysWarm_24 : decode cX9_staysWarm 24 = .ok (.bipush 38, 2) := by decide +kernel
theorem dX9_staysWarm_26 : decode cX9_staysWarm 26 = .ok (.iaload, 1) := by decide +kernel
theorem dX9_staysWarm_27 : decode cX9_staysWarm 27 = .ok (.iload_n 2, 1) := by decide +kernel
theorem dX9_staysWarm_28 : decode cX9_staysWarm 28 = .ok (.iand, 1) := by decide +kernel
theorem dX9_staysWarm_29 : decode cX9_staysWarm 29 = .ok (.ifCond .eq 5, 3) := by decide +kernel
theorem dX9_staysWarm_32 : decode cX9_staysWarm 32 = .ok (.iconst 0, 1) := by decide +kernel
theorem dX9_staysWarm_33 : decode cX9_staysWarm 33 = .ok (.ireturn, 1) := by decide +kernel
theorem dX9_staysWarm_34 : decode cX9_staysWarm 34 = .ok (.iinc 3 1, 3) := by decide +kernel
theorem dX9_staysWarm_37 : decode cX9_staysWarm 37 = .ok (.goto (-35), 3) := by decide +kernel
theorem dX9_staysWarm_40 : decode cX9_staysWarm 40 = .ok (.iconst 1, 1) := by decide +kernel
theorem dX9_staysWarm_41 : decode cX9_staysWarm 41 = .ok (.ireturn, 1) := by decide +kernel
theorem dX9_logs_0 : decode cX9_logs 0 = .ok (.aload_n 0, 1) := by decide +kernel
theorem dX9_logs_1 : decode cX9_logs 1 = .ok (.iload_n 1, 1) := by decide +kernel
theorem dX9_logs_2 : decode cX9_logs 2 = .ok (.invokevirtual 124, 3) := by decide +kernel
theorem dX9_logs_5 : decode cX9_logs 5 = .ok (.ifCond .eq 18, 3) := by decide +kernel
theorem dX9_logs_8 : decode cX9_logs 8 = .ok (.aload_n 0, 1) := by decide +kernel
theorem dX9_logs_9 : decode cX9_logs 9 = .ok (.iload_n 1, 1) := by decide +kernel
theorem dX9_logs_10 : decode cX9_logs 10 = .ok (.invokevirtual 134, 3) := by decide +kernel
theorem dX9_logs_13 : decode cX9_logs 13 = .ok (.ifCond .ne 10, 3) := by decide +kernel
theorem dX9_logs_16 : decode cX9_logs 16 = .ok (.iload_n 2, 1) := by decide +kernel
theorem dX9_logs_17 : decode cX9_logs 17 = .ok (.invokestatic 219, 3) := by decide +kernel
theorem dX9_logs_20 : decode cX9_logs 20 = .ok (.ifCond .ne 5, 3) := by decide +kernel
theorem dX9_logs_23 : decode cX9_logs 23 = .ok (.iconst (-1), 1) := by decide +kernel
theorem dX9_logs_24 : decode cX9_logs 24 = .ok (.ireturn, 1) := by decide +kernel
theorem dX9_logs_25 : decode cX9_logs 25 = .ok (.iconst 0, 1) := by decide +kernel
theorem dX9_logs_26 : decode cX9_logs 26 = .ok (.istore_n 3, 1) := by decide +kernel
theorem dX9_logs_27 : decode cX9_logs 27 = .ok (.iload_n 3, 1) := by decide +kernel
theorem dX9_logs_28 : decode cX9_logs 28 = .ok (.bipush 99, 2) := by decide +kernel
theorem dX9_logs_30 : decode cX9_logs 30 = .ok (.if_icmp .gt 36, 3) := by decide +kernel
theorem dX9_logs_33 : decode cX9_logs 33 = .ok (.aload_n 0, 1) := by decide +kernel
theorem dX9_logs_34 : decode cX9_logs 34 = .ok (.invokevirtual 194, 3) := by decide +kernel
theorem dX9_logs_37 : decode cX9_logs 37 = .ok (.aload_n 0, 1) := by decide +kernel
theorem dX9_logs_38 : decode cX9_logs 38 = .ok (.getfield 91, 3) := by decide +kernel
theorem dX9_logs_41 : decode cX9_logs 41 = .ok (.bipush 8, 2) := by decide +kernel
theorem dX9_logs_43 : decode cX9_logs 43 = .ok (.iload_n 1, 1) := by decide +kernel
theorem dX9_logs_44 : decode cX9_logs 44 = .ok (.iadd, 1) := by decide +kernel
theorem dX9_logs_45 : decode cX9_logs 45 = .ok (.iload_n 3, 1) := by decide +kernel
theorem dX9_logs_46 : decode cX9_logs 46 = .ok (.iastore, 1) := by decide +kernel
theorem dX9_logs_47 : decode cX9_logs 47 = .ok (.aload_n 0, 1) := by decide +kernel
theorem dX9_logs_48 : decode cX9_logs 48 = .ok (.iload_n 2, 1) := by decide +kernel
theorem dX9_logs_49 : decode cX9_logs 49 = .ok (.iconst 1, 1) := by decide +kernel
theorem dX9_logs_50 : decode cX9_logs 50 = .ok (.iload_n 1, 1) := by decide +kernel
theorem dX9_logs_51 : decode cX9_logs 51 = .ok (.ishl, 1) := by decide +kernel
theorem dX9_logs_52 : decode cX9_logs 52 = .ok (.invokevirtual 222, 3) := by decide +kernel
theorem dX9_logs_55 : decode cX9_logs 55 = .ok (.ifCond .eq 5, 3) := by decide +kernel
theorem dX9_logs_58 : decode cX9_logs 58 = .ok (.iload_n 3, 1) := by decide +kernel
theorem dX9_logs_59 : decode cX9_logs 59 = .ok (.ireturn, 1) := by decide +kernel
theorem dX9_logs_60 : decode cX9_logs 60 = .ok (.iinc 3 1, 3) := by decide +kernel
theorem dX9_logs_63 : decode cX9_logs 63 = .ok (.goto (-36), 3) := by decide +kernel
theorem dX9_logs_66 : decode cX9_logs 66 = .ok (.bipush (-2), 2) := by decide +kernel
theorem dX9_logs_68 : decode cX9_logs 68 = .ok (.ireturn, 1) := by decide +kernel
theorem dX9_rate_0 : decode cX9_rate 0 = .ok (.aload_n 0, 1) := by decide +kernel
theorem dX9_rate_1 : decode cX9_rate 1 = .ok (.getfield 52, 3) := by decide +kernel
theorem dX9_rate_4 : decode cX9_rate 4 = .ok (.getfield 62, 3) := by decide +kernel
theorem dX9_rate_7 : decode cX9_rate 7 = .ok (.getfield 146, 3) := by decide +kernel
theorem dX9_rate_10 : decode cX9_rate 10 = .ok (.ifCond .eq 10, 3) := by decide +kernel
theorem dX9_rate_13 : decode cX9_rate 13 = .ok (.iload_n 1, 1) := by decide +kernel
theorem dX9_rate_14 : decode cX9_rate 14 = .ok (.invokestatic 219, 3) := by decide +kernel
theorem dX9_rate_17 : decode cX9_rate 17 = .ok (.ifCond .ne 5, 3) := by decide +kernel
theorem dX9_rate_20 : decode cX9_rate 20 = .ok (.iconst (-1), 1) := by decide +kernel
theorem dX9_rate_21 : decode cX9_rate 21 = .ok (.ireturn, 1) := by decide +kernel
theorem dX9_rate_22 : decode cX9_rate 22 = .ok (.aload_n 0, 1) := by decide +kernel
theorem dX9_rate_23 : decode cX9_rate 23 = .ok (.getfield 52, 3) := by decide +kernel
theorem dX9_rate_26 : decode cX9_rate 26 = .ok (.getfield 128, 3) := by decide +kernel
theorem dX9_rate_29 : decode cX9_rate 29 = .ok (.bipush 38, 2) := by decide +kernel
theorem dX9_rate_31 : decode cX9_rate 31 = .ok (.iaload, 1) := by decide +kernel
theorem dX9_rate_32 : decode cX9_rate 32 = .ok (.iconst (-1), 1) := by decide +kernel
theorem dX9_rate_33 : decode cX9_rate 33 = .ok (.ixor, 1) := by decide +kernel
theorem dX9_rate_34 : decode cX9_rate 34 = .ok (.istore_n 2, 1) := by decide +kernel
theorem dX9_rate_35 : decode cX9_rate 35 = .ok (.bipush 100, 2) := by decide +kernel
theorem dX9_rate_37 : decode cX9_rate 37 = .ok (.istore_n 3, 1) := by decide +kernel
theorem dX9_rate_38 : decode cX9_rate 38 = .ok (.iload_n 3, 1) := by decide +kernel
theorem dX9_rate_39 : decode cX9_rate 39 = .ok (.ifCond .lt 32, 3) := by decide +kernel
theorem dX9_rate_42 : decode cX9_rate 42 = .ok (.aload_n 0, 1) := by decide +kernel
theorem dX9_rate_43 : decode cX9_rate 43 = .ok (.invokevirtual 194, 3) := by decide +kernel
theorem dX9_rate_46 : decode cX9_rate 46 = .ok (.aload_n 0, 1) := by decide +kernel
theorem dX9_rate_47 : decode cX9_rate 47 = .ok (.getfield 69, 3) := by decide +kernel
theorem dX9_rate_50 : decode cX9_rate 50 = .ok (.iload_n 3, 1) := by decide +kernel
theorem dX9_rate_51 : decode cX9_rate 51 = .ok (.putfield 225, 3) := by decide +kernel
theorem dX9_rate_54 : decode cX9_rate 54 = .ok (.aload_n 0, 1) := by decide +kernel
theorem dX9_rate_55 : decode cX9_rate 55 = .ok (.iload_n 1, 1) := by decide +kernel
theorem dX9_rate_56 : decode cX9_rate 56 = .ok (.iload_n 2, 1) := by decide +kernel
theorem dX9_rate_57 : decode cX9_rate 57 = .ok (.invokevirtual 222, 3) := by decide +kernel
theorem dX9_rate_60 : decode cX9_rate 60 = .ok (.ifCond .eq 5, 3) := by decide +kernel
theorem dX9_rate_63 : decode cX9_rate 63 = .ok (.iload_n 3, 1) := by decide +kernel
theorem dX9_rate_64 : decode cX9_rate 64 = .ok (.ireturn, 1) := by decide +kernel
theorem dX9_rate_65 : decode cX9_rate 65 = .ok (.iinc 3 (-1), 3) := by decide +kernel
theorem dX9_rate_68 : decode cX9_rate 68 = .ok (.goto (-30), 3) := by decide +kernel
theorem dX9_rate_71 : decode cX9_rate 71 = .ok (.bipush (-2), 2) := by decide +kernel
theorem dX9_rate_73 : decode cX9_rate 73 = .ok (.ireturn, 1) := by decide +kernel
theorem dX9_allWarmth_0 : decode cX9_allWarmth 0 = .ok (.iconst 0, 1) := by decide +kernel
theorem dX9_allWarmth_1 : decode cX9_allWarmth 1 = .ok (.istore_n 1, 1) := by decide +kernel
theorem dX9_allWarmth_2 : decode cX9_allWarmth 2 = .ok (.iconst 0, 1) := by decide +kernel
theorem dX9_allWarmth_3 : decode cX9_allWarmth 3 = .ok (.istore_n 2, 1) := by decide +kernel
theorem dX9_allWarmth_4 : decode cX9_allWarmth 4 = .ok (.iload_n 2, 1) := by decide +kernel
theorem dX9_allWarmth_5 : decode cX9_allWarmth 5 = .ok (.aload_n 0, 1) := by decide +kernel
theorem dX9_allWarmth_6 : decode cX9_allWarmth 6 = .ok (.getfield 52, 3) := by decide +kernel
theorem dX9_allWarmth_9 : decode cX9_allWarmth 9 = .ok (.getfield 62, 3) := by decide +kernel
theorem dX9_allWarmth_12 : decode cX9_allWarmth 12 = .ok (.getfield 111, 3) := by decide +kernel
theorem dX9_allWarmth_15 : decode cX9_allWarmth 15 = .ok (.if_icmp .ge 35, 3) := by decide +kernel
theorem dX9_allWarmth_18 : decode cX9_allWarmth 18 = .ok (.iload_n 1, 1) := by decide +kernel
theorem dX9_allWarmth_19 : decode cX9_allWarmth 19 = .ok (.aload_n 0, 1) := by decide +kernel
theorem dX9_allWarmth_20 : decode cX9_allWarmth 20 = .ok (.iload_n 2, 1) := by decide +kernel
theorem dX9_allWarmth_21 : decode cX9_allWarmth 21 = .ok (.invokevirtual 134, 3) := by decide +kernel
theorem dX9_allWarmth_24 : decode cX9_allWarmth 24 = .ok (.ifCond .eq 7, 3) := by decide +kernel
theorem dX9_allWarmth_27 : decode cX9_allWarmth 27 = .ok (.iconst 0, 1) := by decide +kernel
theorem dX9_allWarmth_28 : decode cX9_allWarmth 28 = .ok (.goto 14, 3) := by decide +kernel
theorem dX9_allWarmth_31 : decode cX9_allWarmth 31 = .ok (.aload_n 0, 1) := by decide +kernel
theorem dX9_allWarmth_32 : decode cX9_allWarmth 32 = .ok (.getfield 52, 3) := by decide +kernel
theorem dX9_allWarmth_35 : decode cX9_allWarmth 35 = .ok (.getfield 128, 3) := by decide +kernel
theorem dX9_allWarmth_38 : decode cX9_allWarmth 38 = .ok (.iconst 0, 1) := by decide +kernel
theorem dX9_allWarmth_39 : decode cX9_allWarmth 39 = .ok (.iload_n 2, 1) := by decide +kernel
theorem dX9_allWarmth_40 : decode cX9_allWarmth 40 = .ok (.iadd, 1) := by decide +kernel
theorem dX9_allWarmth_41 : decode cX9_allWarmth 41 = .ok (.iaload, 1) := by decide +kernel
theorem dX9_allWarmth_42 : decode cX9_allWarmth 42 = .ok (.iadd, 1) := by decide +kernel
theorem dX9_allWarmth_43 : decode cX9_allWarmth 43 = .ok (.istore_n 1, 1) := by decide +kernel
theorem dX9_allWarmth_44 : decode cX9_allWarmth 44 = .ok (.iinc 2 1, 3) := by decide +kernel
theorem dX9_allWarmth_47 : decode cX9_allWarmth 47 = .ok (.goto (-43), 3) := by decide +kernel
theorem dX9_allWarmth_50 : decode cX9_allWarmth 50 = .ok (.iload_n 1, 1) := by decide +kernel
theorem dX9_allWarmth_51 : decode cX9_allWarmth 51 = .ok (.ireturn, 1) := by decide +kernel
theorem dX9_levy_0 : decode cX9_levy 0 = .ok (.aload_n 0, 1) := by decide +kernel
theorem dX9_levy_1 : decode cX9_levy 1 = .ok (.iload_n 2, 1) := by decide +kernel
theorem dX9_levy_2 : decode cX9_levy 2 = .ok (.invokevirtual 124, 3) := by decide +kernel
theorem dX9_levy_5 : decode cX9_levy 5 = .ok (.ifCond .eq 14, 3) := by decide +kernel
theorem dX9_levy_8 : decode cX9_levy 8 = .ok (.iload_n 1, 1) := by decide +kernel
theorem dX9_levy_9 : decode cX9_levy 9 = .ok (.ifCond .lt 10, 3) := by decide +kernel
theorem dX9_levy_12 : decode cX9_levy 12 = .ok (.iload_n 1, 1) := by decide +kernel
theorem dX9_levy_13 : decode cX9_levy 13 = .ok (.sipush 9999, 3) := by decide +kernel
theorem dX9_levy_16 : decode cX9_levy 16 = .ok (.if_icmp .le 5, 3) := by decide +kernel
theorem dX9_levy_19 : decode cX9_levy 19 = .ok (.iconst (-1), 1) := by decide +kernel
theorem dX9_levy_20 : decode cX9_levy 20 = .ok (.ireturn, 1) := by decide +kernel
theorem dX9_levy_21 : decode cX9_levy 21 = .ok (.aload_n 0, 1) := by decide +kernel
theorem dX9_levy_22 : decode cX9_levy 22 = .ok (.invokevirtual 228, 3) := by decide +kernel
theorem dX9_levy_25 : decode cX9_levy 25 = .ok (.istore_n 3, 1) := by decide +kernel
theorem dX9_levy_26 : decode cX9_levy 26 = .ok (.aload_n 0, 1) := by decide +kernel
theorem dX9_levy_27 : decode cX9_levy 27 = .ok (.iload_n 2, 1) := by decide +kernel
theorem dX9_levy_28 : decode cX9_levy 28 = .ok (.invokevirtual 134, 3) := by decide +kernel
theorem dX9_levy_31 : decode cX9_levy 31 = .ok (.ifCond .ne 8, 3) := by decide +kernel
theorem dX9_levy_34 : decode cX9_levy 34 = .ok (.iload_n 3, 1) := by decide +kernel
theorem dX9_levy_35 : decode cX9_levy 35 = .ok (.iconst 1, 1) := by decide +kernel
theorem dX9_levy_36 : decode cX9_levy 36 = .ok (.if_icmp .ge 5, 3) := by decide +kernel
theorem dX9_levy_39 : decode cX9_levy 39 = .ok (.iconst 0, 1) := by decide +kernel
theorem dX9_levy_40 : decode cX9_levy 40 = .ok (.ireturn, 1) := by decide +kernel
theorem dX9_levy_41 : decode cX9_levy 41 = .ok (.iload_n 1, 1) := by decide +kernel
theorem dX9_levy_42 : decode cX9_levy 42 = .ok (.istore 4, 2) := by decide +kernel
theorem dX9_levy_44 : decode cX9_levy 44 = .ok (.iconst 0, 1) := by decide +kernel
theorem dX9_levy_45 : decode cX9_levy 45 = .ok (.istore 5, 2) := by decide +kernel
theorem dX9_levy_47 : decode cX9_levy 47 = .ok (.iload_n 1, 1) := by decide +kernel
theorem dX9_levy_48 : decode cX9_levy 48 = .ok (.aload_n 0, 1) := by decide +kernel
theorem dX9_levy_49 : decode cX9_levy 49 = .ok (.getfield 52, 3) := by decide +kernel
theorem dX9_levy_52 : decode cX9_levy 52 = .ok (.getfield 128, 3) := by decide +kernel
theorem dX9_levy_55 : decode cX9_levy 55 = .ok (.iconst 0, 1) := by decide +kernel
theorem dX9_levy_56 : decode cX9_levy 56 = .ok (.iload_n 2, 1) := by decide +kernel
theorem dX9_levy_57 : decode cX9_levy 57 = .ok (.iadd, 1) := by decide +kernel
theorem dX9_levy_58 : decode cX9_levy 58 = .ok (.iaload, 1) := by decide +kernel
theorem dX9_levy_59 : decode cX9_levy 59 = .ok (.imul, 1) := by decide +kernel
theorem dX9_levy_60 : decode cX9_levy 60 = .ok (.iload_n 3, 1) := by decide +kernel
theorem dX9_levy_61 : decode cX9_levy 61 = .ok (.irem, 1) := by decide +kernel
theorem dX9_levy_62 : decode cX9_levy 62 = .ok (.istore 6, 2) := by decide +kernel
theorem dX9_levy_64 : decode cX9_levy 64 = .ok (.iconst 0, 1) := by decide +kernel
theorem dX9_levy_65 : decode cX9_levy 65 = .ok (.istore 7, 2) := by decide +kernel
theorem dX9_levy_67 : decode cX9_levy 67 = .ok (.iload 7, 2) := by decide +kernel
theorem dX9_levy_69 : decode cX9_levy 69 = .ok (.aload_n 0, 1) := by decide +kernel
theorem dX9_levy_70 : decode cX9_levy 70 = .ok (.getfield 52, 3) := by decide +kernel
theorem dX9_levy_73 : decode cX9_levy 73 = .ok (.getfield 62, 3) := by decide +kernel
theorem dX9_levy_76 : decode cX9_levy 76 = .ok (.getfield 111, 3) := by decide +kernel
theorem dX9_levy_79 : decode cX9_levy 79 = .ok (.if_icmp .ge 73, 3) := by decide +kernel
theorem dX9_levy_82 : decode cX9_levy 82 = .ok (.aload_n 0, 1) := by decide +kernel
theorem dX9_levy_83 : decode cX9_levy 83 = .ok (.iload 7, 2) := by decide +kernel
theorem dX9_levy_85 : decode cX9_levy 85 = .ok (.invokevirtual 134, 3) := by decide +kernel
theorem dX9_levy_88 : decode cX9_levy 88 = .ok (.ifCond .eq 6, 3) := by decide +kernel
theorem dX9_levy_91 : decode cX9_levy 91 = .ok (.goto 55, 3) := by decide +kernel
theorem dX9_levy_94 : decode cX9_levy 94 = .ok (.iload_n 1, 1) := by decide +kernel
theorem dX9_levy_95 : decode cX9_levy 95 = .ok (.aload_n 0, 1) := by decide +kernel
theorem dX9_levy_96 : decode cX9_levy 96 = .ok (.getfield 52, 3) := by decide +kernel
theorem dX9_levy_99 : decode cX9_levy 99 = .ok (.getfield 128, 3) := by decide +kernel
theorem dX9_levy_102 : decode cX9_levy 102 = .ok (.iconst 0, 1) := by decide +kernel
theorem dX9_levy_103 : decode cX9_levy 103 = .ok (.iload 7, 2) := by decide +kernel
theorem dX9_levy_105 : decode cX9_levy 105 = .ok (.iadd, 1) := by decide +kernel
theorem dX9_levy_106 : decode cX9_levy 106 = .ok (.iaload, 1) := by decide +kernel
theorem dX9_levy_107 : decode cX9_levy 107 = .ok (.imul, 1) := by decide +kernel
theorem dX9_levy_108 : decode cX9_levy 108 = .ok (.istore 8, 2) := by decide +kernel
theorem dX9_levy_110 : decode cX9_levy 110 = .ok (.iload 4, 2) := by decide +kernel
theorem dX9_levy_112 : decode cX9_levy 112 = .ok (.iload 8, 2) := by decide +kernel
theorem dX9_levy_114 : decode cX9_levy 114 = .ok (.iload_n 3, 1) := by decide +kernel
theorem dX9_levy_115 : decode cX9_levy 115 = .ok (.idiv, 1) := by decide +kernel
theorem dX9_levy_116 : decode cX9_levy 116 = .ok (.isub, 1) := by decide +kernel
theorem dX9_levy_117 : decode cX9_levy 117 = .ok (.istore 4, 2) := by decide +kernel
theorem dX9_levy_119 : decode cX9_levy 119 = .ok (.iload 8, 2) := by decide +kernel
theorem dX9_levy_121 : decode cX9_levy 121 = .ok (.iload_n 3, 1) := by decide +kernel
theorem dX9_levy_122 : decode cX9_levy 122 = .ok (.irem, 1) := by decide +kernel
theorem dX9_levy_123 : decode cX9_levy 123 = .ok (.iload 6, 2) := by decide +kernel
theorem dX9_levy_125 : decode cX9_levy 125 = .ok (.if_icmp .gt 18, 3) := by decide +kernel
theorem dX9_levy_128 : decode cX9_levy 128 = .ok (.iload 8, 2) := by decide +kernel
theorem dX9_levy_130 : decode cX9_levy 130 = .ok (.iload_n 3, 1) := by decide +kernel
theorem dX9_levy_131 : decode cX9_levy 131 = .ok (.irem, 1) := by decide +kernel
theorem dX9_levy_132 : decode cX9_levy 132 = .ok (.iload 6, 2) := by decide +kernel
theorem dX9_levy_134 : decode cX9_levy 134 = .ok (.if_icmp .ne 12, 3) := by decide +kernel
theorem dX9_levy_137 : decode cX9_levy 137 = .ok (.iload 7, 2) := by decide +kernel
theorem dX9_levy_139 : decode cX9_levy 139 = .ok (.iload_n 2, 1) := by decide +kernel
theorem dX9_levy_140 : decode cX9_levy 140 = .ok (.if_icmp .ge 6, 3) := by decide +kernel
theorem dX9_levy_143 : decode cX9_levy 143 = .ok (.iinc 5 1, 3) := by decide +kernel
theorem dX9_levy_146 : decode cX9_levy 146 = .ok (.iinc 7 1, 3) := by decide +kernel
theorem dX9_levy_149 : decode cX9_levy 149 = .ok (.goto (-82), 3) := by decide +kernel
theorem dX9_levy_152 : decode cX9_levy 152 = .ok (.iload_n 1, 1) := by decide +kernel
theorem dX9_levy_153 : decode cX9_levy 153 = .ok (.aload_n 0, 1) := by decide +kernel
theorem dX9_levy_154 : decode cX9_levy 154 = .ok (.getfield 52, 3) := by decide +kernel
theorem dX9_levy_157 : decode cX9_levy 157 = .ok (.getfield 128, 3) := by decide +kernel
theorem dX9_levy_160 : decode cX9_levy 160 = .ok (.iconst 0, 1) := by decide +kernel
theorem dX9_levy_161 : decode cX9_levy 161 = .ok (.iload_n 2, 1) := by decide +kernel
theorem dX9_levy_162 : decode cX9_levy 162 = .ok (.iadd, 1) := by decide +kernel
theorem dX9_levy_163 : decode cX9_levy 163 = .ok (.iaload, 1) := by decide +kernel
theorem dX9_levy_164 : decode cX9_levy 164 = .ok (.imul, 1) := by decide +kernel
theorem dX9_levy_165 : decode cX9_levy 165 = .ok (.iload_n 3, 1) := by decide +kernel
theorem dX9_levy_166 : decode cX9_levy 166 = .ok (.idiv, 1) := by decide +kernel
theorem dX9_levy_167 : decode cX9_levy 167 = .ok (.istore 7, 2) := by decide +kernel
theorem dX9_levy_169 : decode cX9_levy 169 = .ok (.iload 5, 2) := by decide +kernel
theorem dX9_levy_171 : decode cX9_levy 171 = .ok (.iload 4, 2) := by decide +kernel
theorem dX9_levy_173 : decode cX9_levy 173 = .ok (.if_icmp .ge 10, 3) := by decide +kernel
theorem dX9_levy_176 : decode cX9_levy 176 = .ok (.iload 7, 2) := by decide +kernel
theorem dX9_levy_178 : decode cX9_levy 178 = .ok (.iconst 1, 1) := by decide +kernel
theorem dX9_levy_179 : decode cX9_levy 179 = .ok (.iadd, 1) := by decide +kernel
theorem dX9_levy_180 : decode cX9_levy 180 = .ok (.goto 5, 3) := by decide +kernel
theorem dX9_levy_183 : decode cX9_levy 183 = .ok (.iload 7, 2) := by decide +kernel
theorem dX9_levy_185 : decode cX9_levy 185 = .ok (.ireturn, 1) := by decide +kernel
theorem dX9_lanesBetween_0 : decode cX9_lanesBetween 0 = .ok (.iconst 1, 1) := by decide +kernel
theorem dX9_lanesBetween_1 : decode cX9_lanesBetween 1 = .ok (.iload_n 1, 1) := by decide +kernel
theorem dX9_lanesBetween_2 : decode cX9_lanesBetween 2 = .ok (.ishl, 1) := by decide +kernel
theorem dX9_lanesBetween_3 : decode cX9_lanesBetween 3 = .ok (.istore_n 3, 1) := by decide +kernel
theorem dX9_lanesBetween_4 : decode cX9_lanesBetween 4 = .ok (.iconst 0, 1) := by decide +kernel
theorem dX9_lanesBetween_5 : decode cX9_lanesBetween 5 = .ok (.istore 4, 2) := by decide +kernel
theorem dX9_lanesBetween_7 : decode cX9_lanesBetween 7 = .ok (.iload 4, 2) := by decide +kernel
theorem dX9_lanesBetween_9 : decode cX9_lanesBetween 9 = .ok (.bipush 8, 2) := by decide +kernel
theorem dX9_lanesBetween_11 : decode cX9_lanesBetween 11 = .ok (.if_icmp .ge 77, 3) := by decide +kernel
theorem dX9_lanesBetween_14 : decode cX9_lanesBetween 14 = .ok (.iload_n 3, 1) := by decide +kernel
theorem dX9_lanesBetween_15 : decode cX9_lanesBetween 15 = .ok (.iload_n 2, 1) := by decide +kernel
theorem dX9_lanesBetween_16 : decode cX9_lanesBetween 16 = .ok (.ishr, 1) := by decide +kernel
theorem dX9_lanesBetween_17 : decode cX9_lanesBetween 17 = .ok (.iconst 1, 1) := by decide +kernel
theorem dX9_lanesBetween_18 : decode cX9_lanesBetween 18 = .ok (.iand, 1) := by decide +kernel
theorem dX9_lanesBetween_19 : decode cX9_lanesBetween 19 = .ok (.ifCond .eq 6, 3) := by decide +kernel
theorem dX9_lanesBetween_22 : decode cX9_lanesBetween 22 = .ok (.iload 4, 2) := by decide +kernel
theorem dX9_lanesBetween_24 : decode cX9_lanesBetween 24 = .ok (.ireturn, 1) := by decide +kernel
theorem dX9_lanesBetween_25 : decode cX9_lanesBetween 25 = .ok (.iload_n 3, 1) := by decide +kernel
theorem dX9_lanesBetween_26 : decode cX9_lanesBetween 26 = .ok (.istore 5, 2) := by decide +kernel
theorem dX9_lanesBetween_28 : decode cX9_lanesBetween 28 = .ok (.iconst 0, 1) := by decide +kernel
theorem dX9_lanesBetween_29 : decode cX9_lanesBetween 29 = .ok (.istore 6, 2) := by decide +kernel
theorem dX9_lanesBetween_31 : decode cX9_lanesBetween 31 = .ok (.iload 6, 2) := by decide +kernel
theorem dX9_lanesBetween_33 : decode cX9_lanesBetween 33 = .ok (.aload_n 0, 1) := by decide +kernel
theorem dX9_lanesBetween_34 : decode cX9_lanesBetween 34 = .ok (.getfield 52, 3) := by decide +kernel
theorem dX9_lanesBetween_37 : decode cX9_lanesBetween 37 = .ok (.getfield 62, 3) := by decide +kernel
theorem dX9_lanesBetween_40 : decode cX9_lanesBetween 40 = .ok (.getfield 111, 3) := by decide +kernel
theorem dX9_lanesBetween_43 : decode cX9_lanesBetween 43 = .ok (.if_icmp .ge 39, 3) := by decide +kernel
theorem dX9_lanesBetween_46 : decode cX9_lanesBetween 46 = .ok (.iload_n 3, 1) := by decide +kernel
theorem dX9_lanesBetween_47 : decode cX9_lanesBetween 47 = .ok (.iload 5, 2) := by decide +kernel
theorem dX9_lanesBetween_49 : decode cX9_lanesBetween 49 = .ok (.iload 6, 2) := by decide +kernel
theorem dX9_lanesBetween_51 : decode cX9_lanesBetween 51 = .ok (.ishr, 1) := by decide +kernel
theorem dX9_lanesBetween_52 : decode cX9_lanesBetween 52 = .ok (.iconst 1, 1) := by decide +kernel
theorem dX9_lanesBetween_53 : decode cX9_lanesBetween 53 = .ok (.iand, 1) := by decide +kernel
theorem dX9_lanesBetween_54 : decode cX9_lanesBetween 54 = .ok (.ifCond .ne 7, 3) := by decide +kernel
theorem dX9_lanesBetween_57 : decode cX9_lanesBetween 57 = .ok (.iconst 0, 1) := by decide +kernel
theorem dX9_lanesBetween_58 : decode cX9_lanesBetween 58 = .ok (.goto 16, 3) := by decide +kernel
theorem dX9_lanesBetween_61 : decode cX9_lanesBetween 61 = .ok (.aload_n 0, 1) := by decide +kernel
theorem dX9_lanesBetween_62 : decode cX9_lanesBetween 62 = .ok (.getfield 52, 3) := by decide +kernel
theorem dX9_lanesBetween_65 : decode cX9_lanesBetween 65 = .ok (.getfield 62, 3) := by decide +kernel
theorem dX9_lanesBetween_68 : decode cX9_lanesBetween 68 = .ok (.getfield 137, 3) := by decide +kernel
theorem dX9_lanesBetween_71 : decode cX9_lanesBetween 71 = .ok (.iload 6, 2) := by decide +kernel
theorem dX9_lanesBetween_73 : decode cX9_lanesBetween 73 = .ok (.iaload, 1) := by decide +kernel
theorem dX9_lanesBetween_74 : decode cX9_lanesBetween 74 = .ok (.ior, 1) := by decide +kernel
theorem dX9_lanesBetween_75 : decode cX9_lanesBetween 75 = .ok (.istore_n 3, 1) := by decide +kernel
theorem dX9_lanesBetween_76 : decode cX9_lanesBetween 76 = .ok (.iinc 6 1, 3) := by decide +kernel
theorem dX9_lanesBetween_79 : decode cX9_lanesBetween 79 = .ok (.goto (-48), 3) := by decide +kernel
theorem dX9_lanesBetween_82 : decode cX9_lanesBetween 82 = .ok (.iinc 4 1, 3) := by decide +kernel
theorem dX9_lanesBetween_85 : decode cX9_lanesBetween 85 = .ok (.goto (-78), 3) := by decide +kernel
theorem dX9_lanesBetween_88 : decode cX9_lanesBetween 88 = .ok (.bipush 8, 2) := by decide +kernel
theorem dX9_lanesBetween_90 : decode cX9_lanesBetween 90 = .ok (.ireturn, 1) := by decide +kernel
def fX9_lift (p1 : Int32) (st : St) : Option (Int32 × St) := br (fX9_isOfficer st p1) (fun x2 => if x2 = 0 then (some ((-1 : Int32), st)) else (gd (ix ((32 : Int32) + p1) 41) (nm (st.1 122 ((32 : Int32) + p1).toNatClampNeg) (fun x5 => br (fX9_isHouse st x5) (fun x7 => if x7 = 0 then (some ((-1 : Int32), st)) else (gd (ix ((16 : Int32) + x5) 41) (if (1 : Int32) ≤ (st.1 122 ((16 : Int32) + x5).toNatClampNeg) then (br (fX2_remember 120 st) (fun s12 => gd (ix ((16 : Int32) + x5) 41) (nm (s12.1 122 ((16 : Int32) + x5).toNatClampNeg) (fun x14 => br (fX8_room 122 41 s12 p1) (fun x17 => nm (if x17 < (x14 / (2 : Int32)) then x17 else (x14 / (2 : Int32))) (fun x18 => gd (ix ((35 : Int32) + p1) 41) (gd (ix ((35 : Int32) + p1) 41) (nm (ui s12 122 ((35 : Int32) + p1).toNatClampNeg ((s12.1 122 ((35 : Int32) + p1).toNatClampNeg) + x18)) (fun s21 => gd (ix ((0 : Int32) + x5) 41) (gd (ix ((0 : Int32) + x5) 41) (nm (ui s21 122 ((0 : Int32) + x5).toNatClampNeg (if (((s21.1 122 ((0 : Int32) + x5).toNatClampNeg) + x14) - x18) < (999 : Int32) then (((s21.1 122 ((0 : Int32) + x5).toNatClampNeg) + x14) - x18) else (999 : Int32))) (fun s24 => gd (ix ((16 : Int32) + x5) 41) (nm (ui s24 122 ((16 : Int32) + x5).toNatClampNeg (0 : Int32)) (fun s26 => some (x18, s26))))))))))))))) else (some ((-1 : Int32), st)))))))))
set_option maxRecDepth 100000 in
theorem tX9_lift (l : Launch) (E : Ev) (st : St) (sz : Nat) (hL : ∀ k, fxC k = true → k ∈ eL E) (p1 : Int32) {res : (Int32 × St)} (hf : fX9_lift  p1 st = some res) : Met l yX9_lift (.code yX9_lift cX9_lift 5 (some .int) :: uW) (rmk 2) (va_Pc [.ref (eq E 0), .int p1] (Pre E st sz)) (QWi E res.2 sz res.1) 0 0 (Af E sz) := by
  refine Met_in (by decide) (Nat.le_of_ble_eq_true rfl) ?_
  intro p e s m below meth c X hr hlk hz G ls hl
  have hx := X.1.1
  have hb := X.1.2.1
  have hl : lv_has ls 5 [(0, .ref (eq E 0)), (1, .int p1)] := hl
  unfold fX9_lift at hf
  refine lv_aload_n hx hb dX9_lift_0 rfl (lv_at hl 0 rfl) ?_
  refine lv_iload_n hx hb dX9_lift_1 rfl (lv_at hl 1 rfl) ?_
  obtain ⟨x2, h1, hf⟩ := br_s hf
  refine cVRi (As := [.int p1]) (rest := []) X G kc_X9_140 (tX9_isOfficer l E st _ hL  p1 h1) (rcv X G (hL 0 rfl) (cO9 rfl) rfl) rfl rfl (rmk_le (by omega) (by decide)) rfl hl.1 rfl (Nat.le_of_ble_eq_true rfl) dX9_lift_2 ⟨Nat.zero_le _, Nat.zero_le _⟩ ?_
  refine lv_if_ne (tgt := 10) hx hb dX9_lift_5 (by decide) (fun c3 => ?_) (fun c3 => ?_)
  · have hf := it_f hf c3
    refine lv_aload_n hx hb dX9_lift_10 rfl (lv_at hl 0 rfl) ?_
    refine gf9 X G (hL 0 rfl) rfl 7 (by decide) rfl kf_X9_52 iwX9 dX9_lift_11 ?_
    refine gf2 X G (hL 120 rfl) rfl 1 (by decide) rfl kf_X9_128 iwX2 dX9_lift_14 ?_
    refine lv_bipush (v := (32 : Int32)) hx hb dX9_lift_17 (by decide) ?_
    refine lv_iload_n hx hb dX9_lift_19 rfl (lv_at hl 1 rfl) ?_
    refine lv_iadd hx hb dX9_lift_20 ?_
    obtain ⟨h4, hf⟩ := gd_s hf
    refine ia_ld (k := 122) (n := 41) X G (hL 122 rfl) rfl (by decide) (ix_in h4) dX9_lift_21 ?_
    refine lv_topi (fun x5 ex5 => ?_)
    have hf := nm_s hf x5 ex5
    refine lv_istore_n (lv' := [(2, .int x5), (0, .ref (eq E 0)), (1, .int p1)]) hx hb dX9_lift_22 rfl hl (by decide) rfl (fun ls hl => ?_)
    refine lv_aload_n hx hb dX9_lift_23 rfl (lv_at hl 1 rfl) ?_
    refine lv_iload_n hx hb dX9_lift_24 rfl (lv_at hl 0 rfl) ?_
    obtain ⟨x7, h6, hf⟩ := br_s hf
    refine cVRi (As := [.int x5]) (rest := []) X G kc_X9_124 (tX9_isHouse l E st _ hL  x5 h6) (rcv X G (hL 0 rfl) (cO9 rfl) rfl) rfl rfl (rmk_le (by omega) (by decide)) rfl hl.1 rfl (Nat.le_of_ble_eq_true rfl) dX9_lift_25 ⟨Nat.zero_le _, Nat.zero_le _⟩ ?_
    refine lv_if_eq (tgt := 47) hx hb dX9_lift_28 (by decide) (fun c8 => ?_) (fun c8 => ?_)
    · have hf := it_t hf c8
      refine lv_iconst (v := (-1 : Int32)) hx hb dX9_lift_47 (by decide) ?_
      exact rtWi X hlk G hr (so_i hf) dX9_lift_48
    · have hf := it_f hf c8
      refine lv_aload_n hx hb dX9_lift_31 rfl (lv_at hl 1 rfl) ?_
      refine gf9 X G (hL 0 rfl) rfl 7 (by decide) rfl kf_X9_52 iwX9 dX9_lift_32 ?_
      refine gf2 X G (hL 120 rfl) rfl 1 (by decide) rfl kf_X9_128 iwX2 dX9_lift_35 ?_
      refine lv_bipush (v := (16 : Int32)) hx hb dX9_lift_38 (by decide) ?_
      refine lv_iload_n hx hb dX9_lift_40 rfl (lv_at hl 0 rfl) ?_
      refine lv_iadd hx hb dX9_lift_41 ?_
      obtain ⟨h9, hf⟩ := gd_s hf
      refine ia_ld (k := 122) (n := 41) X G (hL 122 rfl) rfl (by decide) (ix_in h9) dX9_lift_42 ?_
      refine lv_iconst (v := (1 : Int32)) hx hb dX9_lift_43 (by decide) ?_
      refine lv_icmp_ge (tgt := 49) hx hb dX9_lift_44 (by decide) (fun c10 => ?_) (fun c10 => ?_)
      · have hf := it_t hf c10
        refine lv_aload_n hx hb dX9_lift_49 rfl (lv_at hl 1 rfl) ?_
        refine gf9 X G (hL 0 rfl) rfl 7 (by decide) rfl kf_X9_52 iwX9 dX9_lift_50 ?_
        obtain ⟨s12, h11, hf⟩ := br_s hf
        refine cVWv (As := []) (rest := []) X G kc_X9_150 (tX2_remember l E st _ hL (ok_120 hL)  h11) (rcv X G (hL 120 rfl) (cO2 rfl) rfl) rfl rfl (rmk_le (by omega) (by decide)) rfl hl.1 rfl (Nat.le_of_ble_eq_true rfl) dX9_lift_53 ⟨Nat.zero_le _, Nat.zero_le _⟩ (fun H locs G => ?_)
        refine lv_aload_n hx hb dX9_lift_56 rfl (lv_at hl 1 rfl) ?_
        refine gf9 X G (hL 0 rfl) rfl 7 (by decide) rfl kf_X9_52 iwX9 dX9_lift_57 ?_
        refine gf2 X G (hL 120 rfl) rfl 1 (by decide) rfl kf_X9_128 iwX2 dX9_lift_60 ?_
        refine lv_bipush (v := (16 : Int32)) hx hb dX9_lift_63 (by decide) ?_
        refine lv_iload_n hx hb dX9_lift_65 rfl (lv_at hl 0 rfl) ?_
        refine lv_iadd hx hb dX9_lift_66 ?_
        obtain ⟨h13, hf⟩ := gd_s hf
        refine ia_ld (k := 122) (n := 41) X G (hL 122 rfl) rfl (by decide) (ix_in h13) dX9_lift_67 ?_
        refine lv_topi (fun x14 ex14 => ?_)
        have hf := nm_s hf x14 ex14
        refine lv_istore_n (lv' := [(3, .int x14), (2, .int x5), (0, .ref (eq E 0)), (1, .int p1)]) hx hb dX9_lift_68 rfl hl (by decide) rfl (fun ls hl => ?_)
        refine lv_iload_n hx hb dX9_lift_69 rfl (lv_at hl 0 rfl) ?_
        refine lv_iconst (v := (2 : Int32)) hx hb dX9_lift_70 (by decide) ?_
        refine lv_idiv hx hb dX9_lift_71 (by decide) ?_
        refine lv_aload_n hx hb dX9_lift_72 rfl (lv_at hl 2 rfl) ?_
        refine gf9 X G (hL 0 rfl) rfl 9 (by decide) rfl kf_X9_69 iwX9 dX9_lift_73 ?_
        refine lv_aload_n hx hb dX9_lift_76 rfl (lv_at hl 2 rfl) ?_
        refine gf9 X G (hL 0 rfl) rfl 7 (by decide) rfl kf_X9_52 iwX9 dX9_lift_77 ?_
        refine gf2 X G (hL 120 rfl) rfl 1 (by decide) rfl kf_X9_128 iwX2 dX9_lift_80 ?_
        refine lv_iload_n hx hb dX9_lift_83 rfl (lv_at hl 3 rfl) ?_
        obtain ⟨x17, h16, hf⟩ := br_s hf
        refine cVRi (As := [.ref (eq E 122), .int p1]) (rest := [.int (x14 / (2 : Int32))]) X G kc_X9_176 (tX8_room l E s12 _ hL (hL 122 rfl) rfl (by decide) p1 h16) (rcv X G (hL 50 rfl) (cO8 rfl) rfl) rfl rfl (rmk_le (by omega) (by decide)) rfl hl.1 rfl (Nat.le_of_ble_eq_true rfl) dX9_lift_84 ⟨Nat.zero_le _, Nat.zero_le _⟩ ?_
        refine va_mmin hx hb (X.1.2.2.1.trans hl.1.symm) X.1.2.2.2.1 (X.1.2.2.2.2 _ km_X9_180) (X.1.2.2.2.2 _ ks_Math_min) (X.1.2.2.2.2 _ ki_Math) (X.1.2.2.2.2 _ kd_Math_min) (rmk_1 (by omega)) (rmk_l (by omega) (Nat.le_of_ble_eq_true rfl)) (Nat.zero_le _) (Nat.zero_le _) dX9_lift_87 ?_
        refine lv_topi (fun x18 ex18 => ?_)
        have hf := nm_s hf x18 ex18
        refine lv_istore (lv' := [(4, .int x18), (3, .int x14), (2, .int x5), (0, .ref (eq E 0)), (1, .int p1)]) hx hb dX9_lift_90 hl (by decide) rfl (fun ls hl => ?_)
        refine lv_aload_n hx hb dX9_lift_92 rfl (lv_at hl 3 rfl) ?_
        refine gf9 X G (hL 0 rfl) rfl 7 (by decide) rfl kf_X9_52 iwX9 dX9_lift_93 ?_
        refine gf2 X G (hL 120 rfl) rfl 1 (by decide) rfl kf_X9_128 iwX2 dX9_lift_96 ?_
        refine lv_bipush (v := (35 : Int32)) hx hb dX9_lift_99 (by decide) ?_
        refine lv_iload_n hx hb dX9_lift_101 rfl (lv_at hl 4 rfl) ?_
        refine lv_iadd hx hb dX9_lift_102 ?_
        refine lv_dup2_11 hx hb dX9_lift_103 rfl rfl ?_
        obtain ⟨h19, hf⟩ := gd_s hf
        refine ia_ld (k := 122) (n := 41) X G (hL 122 rfl) rfl (by decide) (ix_in h19) dX9_lift_104 ?_
        refine lv_iload hx hb dX9_lift_105 (lv_at hl 0 rfl) ?_
        refine lv_iadd hx hb dX9_lift_107 ?_
        obtain ⟨h20, hf⟩ := gd_s hf
        refine ia_st (k := 122) (n := 41) X G (hL 122 rfl) rfl (by decide) (ix_in h20) dX9_lift_108 (fun s21 es21 H locs G => ?_)
        have hf := nm_s hf s21 es21
        refine lv_aload_n hx hb dX9_lift_109 rfl (lv_at hl 3 rfl) ?_
        refine gf9 X G (hL 0 rfl) rfl 7 (by decide) rfl kf_X9_52 iwX9 dX9_lift_110 ?_
        refine gf2 X G (hL 120 rfl) rfl 1 (by decide) rfl kf_X9_128 iwX2 dX9_lift_113 ?_
        refine lv_iconst (v := (0 : Int32)) hx hb dX9_lift_116 (by decide) ?_
        refine lv_iload_n hx hb dX9_lift_117 rfl (lv_at hl 2 rfl) ?_
        refine lv_iadd hx hb dX9_lift_118 ?_
        refine lv_sipush (v := (999 : Int32)) hx hb dX9_lift_119 (by decide) ?_
        refine lv_aload_n hx hb dX9_lift_122 rfl (lv_at hl 3 rfl) ?_
        refine gf9 X G (hL 0 rfl) rfl 7 (by decide) rfl kf_X9_52 iwX9 dX9_lift_123 ?_
        refine gf2 X G (hL 120 rfl) rfl 1 (by decide) rfl kf_X9_128 iwX2 dX9_lift_126 ?_
        refine lv_iconst (v := (0 : Int32)) hx hb dX9_lift_129 (by decide) ?_
        refine lv_iload_n hx hb dX9_lift_130 rfl (lv_at hl 2 rfl) ?_
        refine lv_iadd hx hb dX9_lift_131 ?_
        obtain ⟨h22, hf⟩ := gd_s hf
        refine ia_ld (k := 122) (n := 41) X G (hL 122 rfl) rfl (by decide) (ix_in h22) dX9_lift_132 ?_
        refine lv_iload_n hx hb dX9_lift_133 rfl (lv_at hl 1 rfl) ?_
        refine lv_iadd hx hb dX9_lift_134 ?_
        refine lv_iload hx hb dX9_lift_135 (lv_at hl 0 rfl) ?_
        refine lv_isub hx hb dX9_lift_137 ?_
        refine va_mmin hx hb (X.1.2.2.1.trans hl.1.symm) X.1.2.2.2.1 (X.1.2.2.2.2 _ km_X9_180) (X.1.2.2.2.2 _ ks_Math_min) (X.1.2.2.2.2 _ ki_Math) (X.1.2.2.2.2 _ kd_Math_min) (rmk_1 (by omega)) (rmk_l (by omega) (Nat.le_of_ble_eq_true rfl)) (Nat.zero_le _) (Nat.zero_le _) dX9_lift_138 ?_
        obtain ⟨h23, hf⟩ := gd_s hf
        refine ia_st (k := 122) (n := 41) X G (hL 122 rfl) rfl (by decide) (ix_in h23) dX9_lift_141 (fun s24 es24 H locs G => ?_)
        have hf := nm_s hf s24 es24
        refine lv_aload_n hx hb dX9_lift_142 rfl (lv_at hl 3 rfl) ?_
        refine gf9 X G (hL 0 rfl) rfl 7 (by decide) rfl kf_X9_52 iwX9 dX9_lift_143 ?_
        refine gf2 X G (hL 120 rfl) rfl 1 (by decide) rfl kf_X9_128 iwX2 dX9_lift_146 ?_
        refine lv_bipush (v := (16 : Int32)) hx hb dX9_lift_149 (by decide) ?_
        refine lv_iload_n hx hb dX9_lift_151 rfl (lv_at hl 2 rfl) ?_
        refine lv_iadd hx hb dX9_lift_152 ?_
        refine lv_iconst (v := (0 : Int32)) hx hb dX9_lift_153 (by decide) ?_
        obtain ⟨h25, hf⟩ := gd_s hf
        refine ia_st (k := 122) (n := 41) X G (hL 122 rfl) rfl (by decide) (ix_in h25) dX9_lift_154 (fun s26 es26 H locs G => ?_)
        have hf := nm_s hf s26 es26
        refine lv_iload hx hb dX9_lift_155 (lv_at hl 0 rfl) ?_
        exact rtWi X hlk G hr (so_i hf) dX9_lift_157
      · have hf := it_f hf c10
        refine lv_iconst (v := (-1 : Int32)) hx hb dX9_lift_47 (by decide) ?_
        exact rtWi X hlk G hr (so_i hf) dX9_lift_48
  · have hf := it_t hf c3
    refine lv_iconst (v := (-1 : Int32)) hx hb dX9_lift_8 (by decide) ?_
    exact rtWi X hlk G hr (so_i hf) dX9_lift_9
def fX9_spit (p1 : Int32) (st : St) : Option (Int32 × St) := br (fX9_isOfficer st p1) (fun x2 => if x2 = 0 then (some ((-1 : Int32), st)) else (gd (ix ((35 : Int32) + p1) 41) (if (1 : Int32) ≤ (st.1 122 ((35 : Int32) + p1).toNatClampNeg) then (br (fX2_remember 120 st) (fun s7 => gd (ix ((35 : Int32) + p1) 41) (nm (ui s7 122 40 (if ((s7.1 122 40) + (s7.1 122 ((35 : Int32) + p1).toNatClampNeg)) < (99999 : Int32) then ((s7.1 122 40) + (s7.1 122 ((35 : Int32) + p1).toNatClampNeg)) else (99999 : Int32))) (fun s11 => gd (ix ((35 : Int32) + p1) 41) (nm (ui s11 122 ((35 : Int32) + p1).toNatClampNeg (0 : Int32)) (fun s13 => some ((s13.1 122 40), s13))))))) else (some ((-1 : Int32), st)))))
set_option maxRecDepth 100000 in
theorem tX9_spit (l : Launch) (E : Ev) (st : St) (sz : Nat) (hL : ∀ k, fxC k = true → k ∈ eL E) (p1 : Int32) {res : (Int32 × St)} (hf : fX9_spit  p1 st = some res) : Met l yX9_spit (.code yX9_spit cX9_spit 2 (some .int) :: uW) (rmk 2) (va_Pc [.ref (eq E 0), .int p1] (Pre E st sz)) (QWi E res.2 sz res.1) 0 0 (Af E sz) := by
  refine Met_in (by decide) (Nat.le_of_ble_eq_true rfl) ?_
  intro p e s m below meth c X hr hlk hz G ls hl
  have hx := X.1.1
  have hb := X.1.2.1
  have hl : lv_has ls 2 [(0, .ref (eq E 0)), (1, .int p1)] := hl
  unfold fX9_spit at hf
  refine lv_aload_n hx hb dX9_spit_0 rfl (lv_at hl 0 rfl) ?_
  refine lv_iload_n hx hb dX9_spit_1 rfl (lv_at hl 1 rfl) ?_
  obtain ⟨x2, h1, hf⟩ := br_s hf
  refine cVRi (As := [.int p1]) (rest := []) X G kc_X9_140 (tX9_isOfficer l E st _ hL  p1 h1) (rcv X G (hL 0 rfl) (cO9 rfl) rfl) rfl rfl (rmk_le (by omega) (by decide)) rfl hl.1 rfl (Nat.le_of_ble_eq_true rfl) dX9_spit_2 ⟨Nat.zero_le _, Nat.zero_le _⟩ ?_
  refine lv_if_eq (tgt := 24) hx hb dX9_spit_5 (by decide) (fun c3 => ?_) (fun c3 => ?_)
  · have hf := it_t hf c3
    refine lv_iconst (v := (-1 : Int32)) hx hb dX9_spit_24 (by decide) ?_
    exact rtWi X hlk G hr (so_i hf) dX9_spit_25
  · have hf := it_f hf c3
    refine lv_aload_n hx hb dX9_spit_8 rfl (lv_at hl 0 rfl) ?_
    refine gf9 X G (hL 0 rfl) rfl 7 (by decide) rfl kf_X9_52 iwX9 dX9_spit_9 ?_
    refine gf2 X G (hL 120 rfl) rfl 1 (by decide) rfl kf_X9_128 iwX2 dX9_spit_12 ?_
    refine lv_bipush (v := (35 : Int32)) hx hb dX9_spit_15 (by decide) ?_
    refine lv_iload_n hx hb dX9_spit_17 rfl (lv_at hl 1 rfl) ?_
    refine lv_iadd hx hb dX9_spit_18 ?_
    obtain ⟨h4, hf⟩ := gd_s hf
    refine ia_ld (k := 122) (n := 41) X G (hL 122 rfl) rfl (by decide) (ix_in h4) dX9_spit_19 ?_
    refine lv_iconst (v := (1 : Int32)) hx hb dX9_spit_20 (by decide) ?_
    refine lv_icmp_ge (tgt := 26) hx hb dX9_spit_21 (by decide) (fun c5 => ?_) (fun c5 => ?_)
    · have hf := it_t hf c5
      refine lv_aload_n hx hb dX9_spit_26 rfl (lv_at hl 0 rfl) ?_
      refine gf9 X G (hL 0 rfl) rfl 7 (by decide) rfl kf_X9_52 iwX9 dX9_spit_27 ?_
      obtain ⟨s7, h6, hf⟩ := br_s hf
      refine cVWv (As := []) (rest := []) X G kc_X9_150 (tX2_remember l E st _ hL (ok_120 hL)  h6) (rcv X G (hL 120 rfl) (cO2 rfl) rfl) rfl rfl (rmk_le (by omega) (by decide)) rfl hl.1 rfl (Nat.le_of_ble_eq_true rfl) dX9_spit_30 ⟨Nat.zero_le _, Nat.zero_le _⟩ (fun H locs G => ?_)
      refine lv_aload_n hx hb dX9_spit_33 rfl (lv_at hl 0 rfl) ?_
      refine gf9 X G (hL 0 rfl) rfl 7 (by decide) rfl kf_X9_52 iwX9 dX9_spit_34 ?_
      refine gf2 X G (hL 120 rfl) rfl 1 (by decide) rfl kf_X9_128 iwX2 dX9_spit_37 ?_
      refine lv_bipush (v := (40 : Int32)) hx hb dX9_spit_40 (by decide) ?_
      refine lv_ldc (v := (99999 : Int32)) hx hb X.1.2.2.2.1 (X.1.2.2.2.2 _ kk_X9_186) dX9_spit_42 ?_
      refine lv_aload_n hx hb dX9_spit_44 rfl (lv_at hl 0 rfl) ?_
      refine gf9 X G (hL 0 rfl) rfl 7 (by decide) rfl kf_X9_52 iwX9 dX9_spit_45 ?_
      refine gf2 X G (hL 120 rfl) rfl 1 (by decide) rfl kf_X9_128 iwX2 dX9_spit_48 ?_
      refine lv_bipush (v := (40 : Int32)) hx hb dX9_spit_51 (by decide) ?_
      refine ia_ldc (k := 122) (n := 41) X G (hL 122 rfl) rfl (by decide) 40 (by decide) dX9_spit_53 ?_
      refine lv_aload_n hx hb dX9_spit_54 rfl (lv_at hl 0 rfl) ?_
      refine gf9 X G (hL 0 rfl) rfl 7 (by decide) rfl kf_X9_52 iwX9 dX9_spit_55 ?_
      refine gf2 X G (hL 120 rfl) rfl 1 (by decide) rfl kf_X9_128 iwX2 dX9_spit_58 ?_
      refine lv_bipush (v := (35 : Int32)) hx hb dX9_spit_61 (by decide) ?_
      refine lv_iload_n hx hb dX9_spit_63 rfl (lv_at hl 1 rfl) ?_
      refine lv_iadd hx hb dX9_spit_64 ?_
      obtain ⟨h9, hf⟩ := gd_s hf
      refine ia_ld (k := 122) (n := 41) X G (hL 122 rfl) rfl (by decide) (ix_in h9) dX9_spit_65 ?_
      refine lv_iadd hx hb dX9_spit_66 ?_
      refine va_mmin hx hb (X.1.2.2.1.trans hl.1.symm) X.1.2.2.2.1 (X.1.2.2.2.2 _ km_X9_180) (X.1.2.2.2.2 _ ks_Math_min) (X.1.2.2.2.2 _ ki_Math) (X.1.2.2.2.2 _ kd_Math_min) (rmk_1 (by omega)) (rmk_l (by omega) (Nat.le_of_ble_eq_true rfl)) (Nat.zero_le _) (Nat.zero_le _) dX9_spit_67 ?_
      refine ia_stc (k := 122) (n := 41) X G (hL 122 rfl) rfl (by decide) 40 (by decide) dX9_spit_70 (fun s11 es11 H locs G => ?_)
      have hf := nm_s hf s11 es11
      refine lv_aload_n hx hb dX9_spit_71 rfl (lv_at hl 0 rfl) ?_
      refine gf9 X G (hL 0 rfl) rfl 7 (by decide) rfl kf_X9_52 iwX9 dX9_spit_72 ?_
      refine gf2 X G (hL 120 rfl) rfl 1 (by decide) rfl kf_X9_128 iwX2 dX9_spit_75 ?_
      refine lv_bipush (v := (35 : Int32)) hx hb dX9_spit_78 (by decide) ?_
      refine lv_iload_n hx hb dX9_spit_80 rfl (lv_at hl 1 rfl) ?_
      refine lv_iadd hx hb dX9_spit_81 ?_
      refine lv_iconst (v := (0 : Int32)) hx hb dX9_spit_82 (by decide) ?_
      obtain ⟨h12, hf⟩ := gd_s hf
      refine ia_st (k := 122) (n := 41) X G (hL 122 rfl) rfl (by decide) (ix_in h12) dX9_spit_83 (fun s13 es13 H locs G => ?_)
      have hf := nm_s hf s13 es13
      refine lv_aload_n hx hb dX9_spit_84 rfl (lv_at hl 0 rfl) ?_
      refine gf9 X G (hL 0 rfl) rfl 7 (by decide) rfl kf_X9_52 iwX9 dX9_spit_85 ?_
      refine gf2 X G (hL 120 rfl) rfl 1 (by decide) rfl kf_X9_128 iwX2 dX9_spit_88 ?_
      refine lv_bipush (v := (40 : Int32)) hx hb dX9_spit_91 (by decide) ?_
      refine ia_ldc (k := 122) (n := 41) X G (hL 122 rfl) rfl (by decide) 40 (by decide) dX9_spit_93 ?_
      exact rtWi X hlk G hr (so_i hf) dX9_spit_94
    · have hf := it_f hf c5
      refine lv_iconst (v := (-1 : Int32)) hx hb dX9_spit_24 (by decide) ?_
      exact rtWi X hlk G hr (so_i hf) dX9_spit_25
def fX9_undo (st : St) : Option (Int32 × St) := bw (fX2_takeBack 120 st) (fun x3 s2 => if x3 = 0 then (some ((-2 : Int32), s2)) else (some ((s2.1 120 3), s2)))
set_option maxRecDepth 100000 in
theorem tX9_undo (l : Launch) (E : Ev) (st : St) (sz : Nat) (hL : ∀ k, fxC k = true → k ∈ eL E)  {res : (Int32 × St)} (hf : fX9_undo   st = some res) : Met l yX9_undo (.code yX9_undo cX9_undo 1 (some .int) :: uW) (rmk 2) (va_Pc [.ref (eq E 0)] (Pre E st sz)) (QWi E res.2 sz res.1) 0 0 (Af E sz) := by
  refine Met_in (by decide) (Nat.le_of_ble_eq_true rfl) ?_
  intro p e s m below meth c X hr hlk hz G ls hl
  have hx := X.1.1
  have hb := X.1.2.1
  have hl : lv_has ls 1 [(0, .ref (eq E 0))] := hl
  unfold fX9_undo at hf
  refine lv_aload_n hx hb dX9_undo_0 rfl (lv_at hl 0 rfl) ?_
  refine gf9 X G (hL 0 rfl) rfl 7 (by decide) rfl kf_X9_52 iwX9 dX9_undo_1 ?_
  obtain ⟨x3, s2, h1, hf⟩ := bw_s hf
  refine cVWi (As := []) (rest := []) X G kc_X9_187 (tX2_takeBack l E st _ hL (ok_120 hL)  h1) (rcv X G (hL 120 rfl) (cO2 rfl) rfl) rfl rfl (rmk_le (by omega) (by decide)) rfl hl.1 rfl (Nat.le_of_ble_eq_true rfl) dX9_undo_4 ⟨Nat.zero_le _, Nat.zero_le _⟩ (fun H locs G => ?_)
  refine lv_if_eq (tgt := 20) hx hb dX9_undo_7 (by decide) (fun c4 => ?_) (fun c4 => ?_)
  · have hf := it_t hf c4
    refine lv_bipush (v := (-2 : Int32)) hx hb dX9_undo_20 (by decide) ?_
    exact rtWi X hlk G hr (so_i hf) dX9_undo_22
  · have hf := it_f hf c4
    refine lv_aload_n hx hb dX9_undo_10 rfl (lv_at hl 0 rfl) ?_
    refine gf9 X G (hL 0 rfl) rfl 7 (by decide) rfl kf_X9_52 iwX9 dX9_undo_11 ?_
    refine gf2 X G (hL 120 rfl) rfl 3 (by decide) rfl kf_X9_191 iwX2 dX9_undo_14 ?_
    refine lv_goto (tgt := 22) hx hb dX9_undo_17 (by decide) ?_
    exact rtWi X hlk G hr (so_i hf) dX9_undo_22
def fX9_startTrial (st : St) : Option St := nm (ur st 13 (va_cpy (st.1 122) (st.1 13) 0 0 41)) (fun s1 => br (fX9_ruleAt s1 (s1.1 120 8)) (fun x3 => br (fX8_follow x3 s1) (fun s5 => some s5)))
set_option maxRecDepth 100000 in
theorem tX9_startTrial (l : Launch) (E : Ev) (st : St) (sz : Nat) (hL : ∀ k, fxC k = true → k ∈ eL E)  {res : St} (hf : fX9_startTrial   st = some res) : Met l yX9_startTrial (.code yX9_startTrial cX9_startTrial 1 none :: uW) (rmk 1) (va_Pc [.ref (eq E 0)] (Pre E st sz)) (QWv E res sz) 0 0 (Af E sz) := by
  refine Met_in (by decide) (Nat.le_of_ble_eq_true rfl) ?_
  intro p e s m below meth c X hr hlk hz G ls hl
  have hx := X.1.1
  have hb := X.1.2.1
  have hl : lv_has ls 1 [(0, .ref (eq E 0))] := hl
  unfold fX9_startTrial at hf
  refine lv_aload_n hx hb dX9_startTrial_0 rfl (lv_at hl 0 rfl) ?_
  refine gf9 X G (hL 0 rfl) rfl 7 (by decide) rfl kf_X9_52 iwX9 dX9_startTrial_1 ?_
  refine gf2 X G (hL 120 rfl) rfl 1 (by decide) rfl kf_X9_128 iwX2 dX9_startTrial_4 ?_
  refine lv_iconst (v := (0 : Int32)) hx hb dX9_startTrial_7 (by decide) ?_
  refine lv_aload_n hx hb dX9_startTrial_8 rfl (lv_at hl 0 rfl) ?_
  refine gf9 X G (hL 0 rfl) rfl 12 (by decide) rfl kf_X9_91 iwX9 dX9_startTrial_9 ?_
  refine lv_iconst (v := (0 : Int32)) hx hb dX9_startTrial_12 (by decide) ?_
  refine lv_bipush (v := (41 : Int32)) hx hb dX9_startTrial_13 (by decide) ?_
  refine a_copyc (k0 := 122) (n0 := 41) (k1 := 13) (n1 := 41) X G hl.1 (hL 122 rfl) (hL 13 rfl) rfl (by decide) rfl (by decide) km_X9_292 kn_acopy ks_acopy ki_System 0 0 41 (by decide) (rmk_1 (by omega)) (rmk_l (by omega) (Nat.le_of_ble_eq_true rfl)) dX9_startTrial_15 (fun s1 es1 H locs G => ?_)
  have hf := nm_s hf s1 es1
  refine lv_aload_n hx hb dX9_startTrial_18 rfl (lv_at hl 0 rfl) ?_
  refine gf9 X G (hL 0 rfl) rfl 9 (by decide) rfl kf_X9_69 iwX9 dX9_startTrial_19 ?_
  refine lv_aload_n hx hb dX9_startTrial_22 rfl (lv_at hl 0 rfl) ?_
  refine lv_aload_n hx hb dX9_startTrial_23 rfl (lv_at hl 0 rfl) ?_
  refine gf9 X G (hL 0 rfl) rfl 7 (by decide) rfl kf_X9_52 iwX9 dX9_startTrial_24 ?_
  refine gf2 X G (hL 120 rfl) rfl 8 (by decide) rfl kf_X9_121 iwX2 dX9_startTrial_27 ?_
  obtain ⟨x3, h2, hf⟩ := br_s hf
  refine cVRq (As := [.int (s1.1 120 8)]) (rest := [.ref (eq E 50)]) X G kc_X9_153 (tX9_ruleAt l E s1 _ hL  (s1.1 120 8) h2) (rcv X G (hL 0 rfl) (cO9 rfl) rfl) rfl rfl (rmk_le (by omega) (by decide)) rfl hl.1 rfl (Nat.le_of_ble_eq_true rfl) dX9_startTrial_30 ⟨Nat.zero_le _, Nat.zero_le _⟩ ?_
  obtain ⟨s5, h4, hf⟩ := br_s hf
  refine cVWv (As := [va_rf (x3.map E.2.2.2.1)]) (rest := []) X G kc_X9_157 (tX8_follow l E s1 _ hL   h4) (rcv X G (hL 50 rfl) (cO8 rfl) rfl) rfl rfl (rmk_le (by omega) (by decide)) rfl hl.1 rfl (Nat.le_of_ble_eq_true rfl) dX9_startTrial_33 ⟨Nat.zero_le _, Nat.zero_le _⟩ (fun H locs G => ?_)
  exact rtWv X hlk G hr (so_i hf) dX9_startTrial_36
def fX9_ahead_L75 (L : List Nat) (p1 : Int32) (p2 : Int32) (p3 : Int32) : Nat → Int32 → St → Option (Int32 × St)
  | 0, _, _ => none
  | n + 1, y5, st => if p2 ≤ y5 then (if p3 = 0 then (gd (ix ((0 : Int32) + p1) 41) (some ((st.1 13 ((0 : Int32) + p1).toNatClampNeg), st))) else (if p3 = 1 then (gd (ix ((35 : Int32) + p1) 41) (some ((st.1 13 ((35 : Int32) + p1).toNatClampNeg), st))) else (br (fJ6_bitCount_0f7a4 (st.1 13 38)) (fun x4 => some (x4, st))))) else (bw (fX8_pass L 13 41 (0 : Int32) st) (fun x4 s3 => nm (y5 + (1 : Int32)) (fun x5 => (fX9_ahead_L75 L p1 p2 p3 n) x5 s3)))
set_option maxRecDepth 100000 in
theorem wX9_ahead_L75 {p : Program} {l : Launch} {e : Env} {s : State} {m : MethodId} {args : Array Value} {below : List Frame} {meth : Method} {c : Code} {E : Ev} (hL : ∀ k, fxC k = true → k ∈ eL E) {L : List Nat} {p1 : Int32} {p2 : Int32} {p3 : Int32} (hLL : L = eL E) {sz : Nat} {res : (Int32 × St)} (X : CX p s m args c E RX9 cX9_ahead 6 (Af E sz)) (hr : meth.sig.returnType = (some .int)) (hlk : meth.locks = false) : ∀ (n : Nat) (y5 : Int32) (st : St) (H : Heap) (locs : List Loc), fX9_ahead_L75 L p1 p2 p3  n y5 st = some res → Gd E st (Af E sz) s H locs → ∀ ls : Array Slot, lv_has ls 6 [(0, .ref (eq E 0)), (1, .int p1), (2, .int p2), (3, .int p3), (5, .int y5)] → W p l e (rmk 5) s m args below meth c H locs 0 0 (MQ below (QWi E res.2 sz res.1) args s 0 0 (Af E sz)) (F0 m 75 ls []) := by
  have hx := X.1.1
  have hb := X.1.2.1
  intro n
  induction n with
  | zero =>
    intro y5 st H locs hf G ls hl
    cases (show (none : Option (Int32 × St)) = some res from hf)
  | succ n ih =>
    intro y5 st H locs hf G ls hl
    rw [fX9_ahead_L75] at hf
    refine lv_iload hx hb dX9_ahead_75 (lv_at hl 4 rfl) ?_
    refine lv_iload_n hx hb dX9_ahead_77 rfl (lv_at hl 2 rfl) ?_
    refine lv_icmp_ge (tgt := 100) hx hb dX9_ahead_78 (by decide) (fun c1 => ?_) (fun c1 => ?_)
    · have hf := it_t hf c1
      refine lv_iload_n hx hb dX9_ahead_100 rfl (lv_at hl 3 rfl) ?_
      refine lk2 (t0 := 128) (t1 := 137) (td := 147) hx hb dX9_ahead_101 (by decide) (by decide) (by decide) (fun c0 => ?_) (fun c0 c1 => ?_) (fun c0 c1 => ?_)
      · have hf := it_t hf c0
        refine lv_aload_n hx hb dX9_ahead_128 rfl (lv_at hl 0 rfl) ?_
        refine gf9 X G (hL 0 rfl) rfl 12 (by decide) rfl kf_X9_91 iwX9 dX9_ahead_129 ?_
        refine lv_iconst (v := (0 : Int32)) hx hb dX9_ahead_132 (by decide) ?_
        refine lv_iload_n hx hb dX9_ahead_133 rfl (lv_at hl 1 rfl) ?_
        refine lv_iadd hx hb dX9_ahead_134 ?_
        obtain ⟨h2, hf⟩ := gd_s hf
        refine ia_ld (k := 13) (n := 41) X G (hL 13 rfl) rfl (by decide) (ix_in h2) dX9_ahead_135 ?_
        exact rtWi X hlk G hr (so_i hf) dX9_ahead_136
      · have hf := it_t (it_f hf c0) c1
        refine lv_aload_n hx hb dX9_ahead_137 rfl (lv_at hl 0 rfl) ?_
        refine gf9 X G (hL 0 rfl) rfl 12 (by decide) rfl kf_X9_91 iwX9 dX9_ahead_138 ?_
        refine lv_bipush (v := (35 : Int32)) hx hb dX9_ahead_141 (by decide) ?_
        refine lv_iload_n hx hb dX9_ahead_143 rfl (lv_at hl 1 rfl) ?_
        refine lv_iadd hx hb dX9_ahead_144 ?_
        obtain ⟨h2, hf⟩ := gd_s hf
        refine ia_ld (k := 13) (n := 41) X G (hL 13 rfl) rfl (by decide) (ix_in h2) dX9_ahead_145 ?_
        exact rtWi X hlk G hr (so_i hf) dX9_ahead_146
      · have hf := it_f (it_f hf c0) c1
        refine lv_aload_n hx hb dX9_ahead_147 rfl (lv_at hl 0 rfl) ?_
        refine gf9 X G (hL 0 rfl) rfl 12 (by decide) rfl kf_X9_91 iwX9 dX9_ahead_148 ?_
        refine lv_bipush (v := (38 : Int32)) hx hb dX9_ahead_151 (by decide) ?_
        refine ia_ldc (k := 13) (n := 41) X G (hL 13 rfl) rfl (by decide) 38 (by decide) dX9_ahead_153 ?_
        obtain ⟨x4, h3, hf⟩ := br_s hf
        refine cSRi (As := [.int (st.1 13 38)]) (rest := []) X G kc_X9_197 (tJ6_bitCount_0f7a4 l E st _  (st.1 13 38) h3) rfl rfl (rmk_le (by omega) (by decide)) rfl hl.1 rfl (Nat.le_of_ble_eq_true rfl) dX9_ahead_154 ⟨Nat.zero_le _, Nat.zero_le _⟩ ?_
        exact rtWi X hlk G hr (so_i hf) dX9_ahead_157
    · have hf := it_f hf c1
      refine lv_aload_n hx hb dX9_ahead_81 rfl (lv_at hl 0 rfl) ?_
      refine gf9 X G (hL 0 rfl) rfl 9 (by decide) rfl kf_X9_69 iwX9 dX9_ahead_82 ?_
      refine lv_aload_n hx hb dX9_ahead_85 rfl (lv_at hl 0 rfl) ?_
      refine gf9 X G (hL 0 rfl) rfl 12 (by decide) rfl kf_X9_91 iwX9 dX9_ahead_86 ?_
      refine lv_iconst (v := (0 : Int32)) hx hb dX9_ahead_89 (by decide) ?_
      obtain ⟨x4, s3, h2, hf⟩ := bw_s hf
      refine cVWi (As := [.ref (eq E 13), .int (0 : Int32)]) (rest := []) X G kc_X9_161 (tX8_pass l E st _ hL hLL (hL 13 rfl) rfl (by decide) (0 : Int32) h2) (rcv X G (hL 50 rfl) (cO8 rfl) rfl) rfl rfl (rmk_le (by omega) (by decide)) rfl hl.1 rfl (Nat.le_of_ble_eq_true rfl) dX9_ahead_90 ⟨Nat.zero_le _, Nat.zero_le _⟩ (fun H locs G => ?_)
      refine lv_pop hx hb dX9_ahead_93 rfl ?_
      obtain ⟨x5, ex5⟩ : ∃ y : Int32, y = (y5 + (1 : Int32)) := ⟨_, rfl⟩
      have hf := nm_s hf x5 ex5
      refine lv_iinc (k := 4) (v := x5) (lv' := [(5, .int x5), (0, .ref (eq E 0)), (1, .int p1), (2, .int p2), (3, .int p3)]) hx hb dX9_ahead_94 hl rfl (by rw [ex5]; rfl) (by decide) rfl (fun ls hl => ?_)
      refine lv_goto (tgt := 75) hx hb dX9_ahead_97 (by decide) ?_
      exact ih x5 s3 _ _ hf G _ (lv_sub hl [1, 2, 3, 4, 0] rfl)
def fX9_ahead_B48 (L : List Nat) (p1 : Int32) (p2 : Int32) (p3 : Int32) (z0 : Int32) (st : St) : Option (Int32 × St) := if z0 = 0 then (some ((-2 : Int32), st)) else (if p2 < 0 then (some ((-2 : Int32), st)) else (if p2 ≤ (100 : Int32) then (br (fX9_startTrial st) (fun s5 => fX9_ahead_L75 L p1 p2 p3 10000 (0 : Int32) s5)) else (some ((-2 : Int32), st))))
set_option maxRecDepth 100000 in
theorem wX9_ahead_B48 {p : Program} {l : Launch} {e : Env} {s : State} {m : MethodId} {args : Array Value} {below : List Frame} {meth : Method} {c : Code} {E : Ev} (hL : ∀ k, fxC k = true → k ∈ eL E) {L : List Nat} {p1 : Int32} {p2 : Int32} {p3 : Int32} (hLL : L = eL E) {sz : Nat} {res : (Int32 × St)} (X : CX p s m args c E RX9 cX9_ahead 6 (Af E sz)) (hr : meth.sig.returnType = (some .int)) (hlk : meth.locks = false) : ∀ (z0 : Int32) (st : St) (H : Heap) (locs : List Loc), fX9_ahead_B48 L p1 p2 p3  z0 st = some res → Gd E st (Af E sz) s H locs → ∀ ls : Array Slot, lv_has ls 6 [(0, .ref (eq E 0)), (1, .int p1), (2, .int p2), (3, .int p3)] → W p l e (rmk 5) s m args below meth c H locs 0 0 (MQ below (QWi E res.2 sz res.1) args s 0 0 (Af E sz)) (F0 m 48 ls [.int z0]) := by
  have hx := X.1.1
  have hb := X.1.2.1
  intro z0 st H locs hf G ls hl
  unfold fX9_ahead_B48 at hf
  refine lv_istore (lv' := [(4, .int z0), (0, .ref (eq E 0)), (1, .int p1), (2, .int p2), (3, .int p3)]) hx hb dX9_ahead_48 hl (by decide) rfl (fun ls hl => ?_)
  refine lv_iload hx hb dX9_ahead_50 (lv_at hl 0 rfl) ?_
  refine lv_if_eq (tgt := 65) hx hb dX9_ahead_52 (by decide) (fun c1 => ?_) (fun c1 => ?_)
  · have hf := it_t hf c1
    refine lv_bipush (v := (-2 : Int32)) hx hb dX9_ahead_65 (by decide) ?_
    exact rtWi X hlk G hr (so_i hf) dX9_ahead_67
  · have hf := it_f hf c1
    refine lv_iload_n hx hb dX9_ahead_55 rfl (lv_at hl 3 rfl) ?_
    refine lv_if_lt (tgt := 65) hx hb dX9_ahead_56 (by decide) (fun c2 => ?_) (fun c2 => ?_)
    · have hf := it_t hf c2
      refine lv_bipush (v := (-2 : Int32)) hx hb dX9_ahead_65 (by decide) ?_
      exact rtWi X hlk G hr (so_i hf) dX9_ahead_67
    · have hf := it_f hf c2
      refine lv_iload_n hx hb dX9_ahead_59 rfl (lv_at hl 3 rfl) ?_
      refine lv_bipush (v := (100 : Int32)) hx hb dX9_ahead_60 (by decide) ?_
      refine lv_icmp_le (tgt := 68) hx hb dX9_ahead_62 (by decide) (fun c3 => ?_) (fun c3 => ?_)
      · have hf := it_t hf c3
        refine lv_aload_n hx hb dX9_ahead_68 rfl (lv_at hl 1 rfl) ?_
        obtain ⟨s5, h4, hf⟩ := br_s hf
        refine cVWv (As := []) (rest := []) X G kc_X9_194 (tX9_startTrial l E st _ hL   h4) (rcv X G (hL 0 rfl) (cO9 rfl) rfl) rfl rfl (rmk_le (by omega) (by decide)) rfl hl.1 rfl (Nat.le_of_ble_eq_true rfl) dX9_ahead_69 ⟨Nat.zero_le _, Nat.zero_le _⟩ (fun H locs G => ?_)
        refine lv_iconst (v := (0 : Int32)) hx hb dX9_ahead_72 (by decide) ?_
        refine lv_istore (lv' := [(5, .int (0 : Int32)), (4, .int z0), (0, .ref (eq E 0)), (1, .int p1), (2, .int p2), (3, .int p3)]) hx hb dX9_ahead_73 hl (by decide) rfl (fun ls hl => ?_)
        exact wX9_ahead_L75 hL hLL X hr hlk 10000 (0 : Int32) s5 _ _ hf G _ (lv_sub hl [2, 3, 4, 5, 0] rfl)
      · have hf := it_f hf c3
        refine lv_bipush (v := (-2 : Int32)) hx hb dX9_ahead_65 (by decide) ?_
        exact rtWi X hlk G hr (so_i hf) dX9_ahead_67
def fX9_ahead_B47 (L : List Nat) (p1 : Int32) (p2 : Int32) (p3 : Int32) (st : St) : Option (Int32 × St) := fX9_ahead_B48 L p1 p2 p3 (0 : Int32) st
set_option maxRecDepth 100000 in
theorem wX9_ahead_B47 {p : Program} {l : Launch} {e : Env} {s : State} {m : MethodId} {args : Array Value} {below : List Frame} {meth : Method} {c : Code} {E : Ev} (hL : ∀ k, fxC k = true → k ∈ eL E) {L : List Nat} {p1 : Int32} {p2 : Int32} {p3 : Int32} (hLL : L = eL E) {sz : Nat} {res : (Int32 × St)} (X : CX p s m args c E RX9 cX9_ahead 6 (Af E sz)) (hr : meth.sig.returnType = (some .int)) (hlk : meth.locks = false) : ∀  (st : St) (H : Heap) (locs : List Loc), fX9_ahead_B47 L p1 p2 p3   st = some res → Gd E st (Af E sz) s H locs → ∀ ls : Array Slot, lv_has ls 6 [(0, .ref (eq E 0)), (1, .int p1), (2, .int p2), (3, .int p3)] → W p l e (rmk 5) s m args below meth c H locs 0 0 (MQ below (QWi E res.2 sz res.1) args s 0 0 (Af E sz)) (F0 m 47 ls []) := by
  have hx := X.1.1
  have hb := X.1.2.1
  intro  st H locs hf G ls hl
  unfold fX9_ahead_B47 at hf
  refine lv_iconst (v := (0 : Int32)) hx hb dX9_ahead_47 (by decide) ?_
  exact wX9_ahead_B48 hL hLL X hr hlk (0 : Int32) st _ _ hf G _ (lv_sub hl [0, 1, 2, 3] rfl)
def fX9_ahead_B43 (L : List Nat) (p1 : Int32) (p2 : Int32) (p3 : Int32) (st : St) : Option (Int32 × St) := fX9_ahead_B48 L p1 p2 p3 (1 : Int32) st
set_option maxRecDepth 100000 in
theorem wX9_ahead_B43 {p : Program} {l : Launch} {e : Env} {s : State} {m : MethodId} {args : Array Value} {below : List Frame} {meth : Method} {c : Code} {E : Ev} (hL : ∀ k, fxC k = true → k ∈ eL E) {L : List Nat} {p1 : Int32} {p2 : Int32} {p3 : Int32} (hLL : L = eL E) {sz : Nat} {res : (Int32 × St)} (X : CX p s m args c E RX9 cX9_ahead 6 (Af E sz)) (hr : meth.sig.returnType = (some .int)) (hlk : meth.locks = false) : ∀  (st : St) (H : Heap) (locs : List Loc), fX9_ahead_B43 L p1 p2 p3   st = some res → Gd E st (Af E sz) s H locs → ∀ ls : Array Slot, lv_has ls 6 [(0, .ref (eq E 0)), (1, .int p1), (2, .int p2), (3, .int p3)] → W p l e (rmk 5) s m args below meth c H locs 0 0 (MQ below (QWi E res.2 sz res.1) args s 0 0 (Af E sz)) (F0 m 43 ls []) := by
  have hx := X.1.1
  have hb := X.1.2.1
  intro  st H locs hf G ls hl
  unfold fX9_ahead_B43 at hf
  refine lv_iconst (v := (1 : Int32)) hx hb dX9_ahead_43 (by decide) ?_
  refine lv_goto (tgt := 48) hx hb dX9_ahead_44 (by decide) ?_
  exact wX9_ahead_B48 hL hLL X hr hlk (1 : Int32) st _ _ hf G _ (lv_sub hl [0, 1, 2, 3] rfl)
def fX9_ahead_B25 (L : List Nat) (p1 : Int32) (p2 : Int32) (p3 : Int32) (st : St) : Option (Int32 × St) := if p3 = (2 : Int32) then (if (st.1 134 0) = 0 then (fX9_ahead_B47 L p1 p2 p3 st) else (fX9_ahead_B43 L p1 p2 p3 st)) else (fX9_ahead_B47 L p1 p2 p3 st)
set_option maxRecDepth 100000 in
theorem wX9_ahead_B25 {p : Program} {l : Launch} {e : Env} {s : State} {m : MethodId} {args : Array Value} {below : List Frame} {meth : Method} {c : Code} {E : Ev} (hL : ∀ k, fxC k = true → k ∈ eL E) {L : List Nat} {p1 : Int32} {p2 : Int32} {p3 : Int32} (hLL : L = eL E) {sz : Nat} {res : (Int32 × St)} (X : CX p s m args c E RX9 cX9_ahead 6 (Af E sz)) (hr : meth.sig.returnType = (some .int)) (hlk : meth.locks = false) : ∀  (st : St) (H : Heap) (locs : List Loc), fX9_ahead_B25 L p1 p2 p3   st = some res → Gd E st (Af E sz) s H locs → ∀ ls : Array Slot, lv_has ls 6 [(0, .ref (eq E 0)), (1, .int p1), (2, .int p2), (3, .int p3)] → W p l e (rmk 5) s m args below meth c H locs 0 0 (MQ below (QWi E res.2 sz res.1) args s 0 0 (Af E sz)) (F0 m 25 ls []) := by
  have hx := X.1.1
  have hb := X.1.2.1
  intro  st H locs hf G ls hl
  unfold fX9_ahead_B25 at hf
  refine lv_iload_n hx hb dX9_ahead_25 rfl (lv_at hl 3 rfl) ?_
  refine lv_iconst (v := (2 : Int32)) hx hb dX9_ahead_26 (by decide) ?_
  refine lv_icmp_ne (tgt := 47) hx hb dX9_ahead_27 (by decide) (fun c1 => ?_) (fun c1 => ?_)
  · have hf := it_f hf c1
    exact wX9_ahead_B47 hL hLL X hr hlk st _ _ hf G _ (lv_sub hl [0, 1, 2, 3] rfl)
  · have hf := it_t hf c1
    refine lv_aload_n hx hb dX9_ahead_30 rfl (lv_at hl 0 rfl) ?_
    refine gf9 X G (hL 0 rfl) rfl 7 (by decide) rfl kf_X9_52 iwX9 dX9_ahead_31 ?_
    refine gf2 X G (hL 120 rfl) rfl 0 (by decide) rfl kf_X9_62 iwX2 dX9_ahead_34 ?_
    refine gf1 X G (hL 134 rfl) rfl 0 (by decide) rfl kf_X9_146 iwX1 dX9_ahead_37 ?_
    refine lv_if_eq (tgt := 47) hx hb dX9_ahead_40 (by decide) (fun c2 => ?_) (fun c2 => ?_)
    · have hf := it_t hf c2
      exact wX9_ahead_B47 hL hLL X hr hlk st _ _ hf G _ (lv_sub hl [0, 1, 2, 3] rfl)
    · have hf := it_f hf c2
      exact wX9_ahead_B43 hL hLL X hr hlk st _ _ hf G _ (lv_sub hl [0, 1, 2, 3] rfl)
def fX9_ahead_B12 (L : List Nat) (p1 : Int32) (p2 : Int32) (p3 : Int32) (st : St) : Option (Int32 × St) := if p3 = (1 : Int32) then (br (fX9_isOfficer st p1) (fun x3 => if x3 = 0 then (fX9_ahead_B25 L p1 p2 p3 st) else (fX9_ahead_B43 L p1 p2 p3 st))) else (fX9_ahead_B25 L p1 p2 p3 st)
set_option maxRecDepth 100000 in
theorem wX9_ahead_B12 {p : Program} {l : Launch} {e : Env} {s : State} {m : MethodId} {args : Array Value} {below : List Frame} {meth : Method} {c : Code} {E : Ev} (hL : ∀ k, fxC k = true → k ∈ eL E) {L : List Nat} {p1 : Int32} {p2 : Int32} {p3 : Int32} (hLL : L = eL E) {sz : Nat} {res : (Int32 × St)} (X : CX p s m args c E RX9 cX9_ahead 6 (Af E sz)) (hr : meth.sig.returnType = (some .int)) (hlk : meth.locks = false) : ∀  (st : St) (H : Heap) (locs : List Loc), fX9_ahead_B12 L p1 p2 p3   st = some res → Gd E st (Af E sz) s H locs → ∀ ls : Array Slot, lv_has ls 6 [(0, .ref (eq E 0)), (1, .int p1), (2, .int p2), (3, .int p3)] → W p l e (rmk 5) s m args below meth c H locs 0 0 (MQ below (QWi E res.2 sz res.1) args s 0 0 (Af E sz)) (F0 m 12 ls []) := by
  have hx := X.1.1
  have hb := X.1.2.1
  intro  st H locs hf G ls hl
  unfold fX9_ahead_B12 at hf
  refine lv_iload_n hx hb dX9_ahead_12 rfl (lv_at hl 3 rfl) ?_
  refine lv_iconst (v := (1 : Int32)) hx hb dX9_ahead_13 (by decide) ?_
  refine lv_icmp_ne (tgt := 25) hx hb dX9_ahead_14 (by decide) (fun c1 => ?_) (fun c1 => ?_)
  · have hf := it_f hf c1
    exact wX9_ahead_B25 hL hLL X hr hlk st _ _ hf G _ (lv_sub hl [0, 1, 2, 3] rfl)
  · have hf := it_t hf c1
    refine lv_aload_n hx hb dX9_ahead_17 rfl (lv_at hl 0 rfl) ?_
    refine lv_iload_n hx hb dX9_ahead_18 rfl (lv_at hl 1 rfl) ?_
    obtain ⟨x3, h2, hf⟩ := br_s hf
    refine cVRi (As := [.int p1]) (rest := []) X G kc_X9_140 (tX9_isOfficer l E st _ hL  p1 h2) (rcv X G (hL 0 rfl) (cO9 rfl) rfl) rfl rfl (rmk_le (by omega) (by decide)) rfl hl.1 rfl (Nat.le_of_ble_eq_true rfl) dX9_ahead_19 ⟨Nat.zero_le _, Nat.zero_le _⟩ ?_
    refine lv_if_ne (tgt := 43) hx hb dX9_ahead_22 (by decide) (fun c4 => ?_) (fun c4 => ?_)
    · have hf := it_f hf c4
      exact wX9_ahead_B43 hL hLL X hr hlk st _ _ hf G _ (lv_sub hl [0, 1, 2, 3] rfl)
    · have hf := it_t hf c4
      exact wX9_ahead_B25 hL hLL X hr hlk st _ _ hf G _ (lv_sub hl [0, 1, 2, 3] rfl)
def fX9_ahead (L : List Nat) (p1 : Int32) (p2 : Int32) (p3 : Int32) (st : St) : Option (Int32 × St) := if p3 = 0 then (br (fX9_isHouse st p1) (fun x3 => if x3 = 0 then (fX9_ahead_B12 L p1 p2 p3 st) else (fX9_ahead_B43 L p1 p2 p3 st))) else (fX9_ahead_B12 L p1 p2 p3 st)
set_option maxRecDepth 100000 in
theorem tX9_ahead (l : Launch) (E : Ev) (st : St) (sz : Nat) (hL : ∀ k, fxC k = true → k ∈ eL E) {L : List Nat} (hLL : L = eL E) (p1 : Int32) (p2 : Int32) (p3 : Int32) {res : (Int32 × St)} (hf : fX9_ahead L p1 p2 p3 st = some res) : Met l yX9_ahead (.code yX9_ahead cX9_ahead 6 (some .int) :: uW) (rmk 5) (va_Pc [.ref (eq E 0), .int p1, .int p2, .int p3] (Pre E st sz)) (QWi E res.2 sz res.1) 0 0 (Af E sz) := by
  refine Met_in (by decide) (Nat.le_of_ble_eq_true rfl) ?_
  intro p e s m below meth c X hr hlk hz G ls hl
  have hx := X.1.1
  have hb := X.1.2.1
  have hl : lv_has ls 6 [(0, .ref (eq E 0)), (1, .int p1), (2, .int p2), (3, .int p3)] := hl
  unfold fX9_ahead at hf
  refine lv_iload_n hx hb dX9_ahead_0 rfl (lv_at hl 3 rfl) ?_
  refine lv_if_ne (tgt := 12) hx hb dX9_ahead_1 (by decide) (fun c1 => ?_) (fun c1 => ?_)
  · have hf := it_f hf c1
    exact wX9_ahead_B12 hL hLL X hr hlk st _ _ hf G _ (lv_sub hl [0, 1, 2, 3] rfl)
  · have hf := it_t hf c1
    refine lv_aload_n hx hb dX9_ahead_4 rfl (lv_at hl 0 rfl) ?_
    refine lv_iload_n hx hb dX9_ahead_5 rfl (lv_at hl 1 rfl) ?_
    obtain ⟨x3, h2, hf⟩ := br_s hf
    refine cVRi (As := [.int p1]) (rest := []) X G kc_X9_124 (tX9_isHouse l E st _ hL  p1 h2) (rcv X G (hL 0 rfl) (cO9 rfl) rfl) rfl rfl (rmk_le (by omega) (by decide)) rfl hl.1 rfl (Nat.le_of_ble_eq_true rfl) dX9_ahead_6 ⟨Nat.zero_le _, Nat.zero_le _⟩ ?_
    refine lv_if_ne (tgt := 43) hx hb dX9_ahead_9 (by decide) (fun c4 => ?_) (fun c4 => ?_)
    · have hf := it_f hf c4
      exact wX9_ahead_B43 hL hLL X hr hlk st _ _ hf G _ (lv_sub hl [0, 1, 2, 3] rfl)
    · have hf := it_t hf c4
      exact wX9_ahead_B12 hL hLL X hr hlk st _ _ hf G _ (lv_sub hl [0, 1, 2, 3] rfl)
def fX9_freezes_L24 (L : List Nat) (p1 : Int32) : Nat → Int32 → St → Option (Int32 × St)
  | 0, _, _ => none
  | n + 1, y2, st => if (200 : Int32) ≤ y2 then (some ((-2 : Int32), st)) else (nm (st.1 13 39) (fun x3 => bw (fX8_pass L 13 41 (0 : Int32) st) (fun x6 s5 => if ((s5.1 13 38) &&& ((1 : Int32) <<< (p1 &&& 31))) = 0 then (nm (y2 + (1 : Int32)) (fun x9 => (fX9_freezes_L24 L p1 n) x9 s5)) else (some (x3, s5)))))
set_option maxRecDepth 100000 in
theorem wX9_freezes_L24 {p : Program} {l : Launch} {e : Env} {s : State} {m : MethodId} {args : Array Value} {below : List Frame} {meth : Method} {c : Code} {E : Ev} (hL : ∀ k, fxC k = true → k ∈ eL E) {L : List Nat} {p1 : Int32} (hLL : L = eL E) {sz : Nat} {res : (Int32 × St)} (X : CX p s m args c E RX9 cX9_freezes 4 (Af E sz)) (hr : meth.sig.returnType = (some .int)) (hlk : meth.locks = false) : ∀ (n : Nat) (y2 : Int32) (st : St) (H : Heap) (locs : List Loc), fX9_freezes_L24 L p1  n y2 st = some res → Gd E st (Af E sz) s H locs → ∀ ls : Array Slot, lv_has ls 4 [(0, .ref (eq E 0)), (1, .int p1), (2, .int y2)] → W p l e (rmk 5) s m args below meth c H locs 0 0 (MQ below (QWi E res.2 sz res.1) args s 0 0 (Af E sz)) (F0 m 24 ls []) := by
  have hx := X.1.1
  have hb := X.1.2.1
  intro n
  induction n with
  | zero =>
    intro y2 st H locs hf G ls hl
    cases (show (none : Option (Int32 × St)) = some res from hf)
  | succ n ih =>
    intro y2 st H locs hf G ls hl
    rw [fX9_freezes_L24] at hf
    refine lv_iload_n hx hb dX9_freezes_24 rfl (lv_at hl 2 rfl) ?_
    refine lv_sipush (v := (200 : Int32)) hx hb dX9_freezes_25 (by decide) ?_
    refine lv_icmp_ge (tgt := 74) hx hb dX9_freezes_28 (by decide) (fun c1 => ?_) (fun c1 => ?_)
    · have hf := it_t hf c1
      refine lv_bipush (v := (-2 : Int32)) hx hb dX9_freezes_74 (by decide) ?_
      exact rtWi X hlk G hr (so_i hf) dX9_freezes_76
    · have hf := it_f hf c1
      refine lv_aload_n hx hb dX9_freezes_31 rfl (lv_at hl 0 rfl) ?_
      refine gf9 X G (hL 0 rfl) rfl 12 (by decide) rfl kf_X9_91 iwX9 dX9_freezes_32 ?_
      refine lv_bipush (v := (39 : Int32)) hx hb dX9_freezes_35 (by decide) ?_
      refine ia_ldc (k := 13) (n := 41) X G (hL 13 rfl) rfl (by decide) 39 (by decide) dX9_freezes_37 ?_
      refine lv_topi (fun x3 ex3 => ?_)
      have hf := nm_s hf x3 ex3
      refine lv_istore_n (lv' := [(3, .int x3), (0, .ref (eq E 0)), (1, .int p1), (2, .int y2)]) hx hb dX9_freezes_38 rfl hl (by decide) rfl (fun ls hl => ?_)
      refine lv_aload_n hx hb dX9_freezes_39 rfl (lv_at hl 1 rfl) ?_
      refine gf9 X G (hL 0 rfl) rfl 9 (by decide) rfl kf_X9_69 iwX9 dX9_freezes_40 ?_
      refine lv_aload_n hx hb dX9_freezes_43 rfl (lv_at hl 1 rfl) ?_
      refine gf9 X G (hL 0 rfl) rfl 12 (by decide) rfl kf_X9_91 iwX9 dX9_freezes_44 ?_
      refine lv_iconst (v := (0 : Int32)) hx hb dX9_freezes_47 (by decide) ?_
      obtain ⟨x6, s5, h4, hf⟩ := bw_s hf
      refine cVWi (As := [.ref (eq E 13), .int (0 : Int32)]) (rest := []) X G kc_X9_161 (tX8_pass l E st _ hL hLL (hL 13 rfl) rfl (by decide) (0 : Int32) h4) (rcv X G (hL 50 rfl) (cO8 rfl) rfl) rfl rfl (rmk_le (by omega) (by decide)) rfl hl.1 rfl (Nat.le_of_ble_eq_true rfl) dX9_freezes_48 ⟨Nat.zero_le _, Nat.zero_le _⟩ (fun H locs G => ?_)
      refine lv_pop hx hb dX9_freezes_51 rfl ?_
      refine lv_aload_n hx hb dX9_freezes_52 rfl (lv_at hl 1 rfl) ?_
      refine gf9 X G (hL 0 rfl) rfl 12 (by decide) rfl kf_X9_91 iwX9 dX9_freezes_53 ?_
      refine lv_bipush (v := (38 : Int32)) hx hb dX9_freezes_56 (by decide) ?_
      refine ia_ldc (k := 13) (n := 41) X G (hL 13 rfl) rfl (by decide) 38 (by decide) dX9_freezes_58 ?_
      refine lv_iconst (v := (1 : Int32)) hx hb dX9_freezes_59 (by decide) ?_
      refine lv_iload_n hx hb dX9_freezes_60 rfl (lv_at hl 2 rfl) ?_
      refine lv_ishl hx hb dX9_freezes_61 ?_
      refine lv_iand hx hb dX9_freezes_62 ?_
      refine lv_if_eq (tgt := 68) hx hb dX9_freezes_63 (by decide) (fun c8 => ?_) (fun c8 => ?_)
      · have hf := it_t hf c8
        obtain ⟨x9, ex9⟩ : ∃ y : Int32, y = (y2 + (1 : Int32)) := ⟨_, rfl⟩
        have hf := nm_s hf x9 ex9
        refine lv_iinc (k := 3) (v := x9) (lv' := [(2, .int x9), (3, .int x3), (0, .ref (eq E 0)), (1, .int p1)]) hx hb dX9_freezes_68 hl rfl (by rw [ex9]; rfl) (by decide) rfl (fun ls hl => ?_)
        refine lv_goto (tgt := 24) hx hb dX9_freezes_71 (by decide) ?_
        exact ih x9 s5 _ _ hf G _ (lv_sub hl [2, 3, 0] rfl)
      · have hf := it_f hf c8
        refine lv_iload_n hx hb dX9_freezes_66 rfl (lv_at hl 0 rfl) ?_
        exact rtWi X hlk G hr (so_i hf) dX9_freezes_67
def fX9_freezes (L : List Nat) (p1 : Int32) (st : St) : Option (Int32 × St) := br (fX9_isHouse st p1) (fun x2 => if x2 = 0 then (some ((-1 : Int32), st)) else (br (fX9_isFrozen st p1) (fun x5 => if x5 = 0 then (br (fX9_startTrial st) (fun s8 => fX9_freezes_L24 L p1 10000 (0 : Int32) s8)) else (some ((-1 : Int32), st)))))
set_option maxRecDepth 100000 in
theorem tX9_freezes (l : Launch) (E : Ev) (st : St) (sz : Nat) (hL : ∀ k, fxC k = true → k ∈ eL E) {L : List Nat} (hLL : L = eL E) (p1 : Int32) {res : (Int32 × St)} (hf : fX9_freezes L p1 st = some res) : Met l yX9_freezes (.code yX9_freezes cX9_freezes 4 (some .int) :: uW) (rmk 5) (va_Pc [.ref (eq E 0), .int p1] (Pre E st sz)) (QWi E res.2 sz res.1) 0 0 (Af E sz) := by
  refine Met_in (by decide) (Nat.le_of_ble_eq_true rfl) ?_
  intro p e s m below meth c X hr hlk hz G ls hl
  have hx := X.1.1
  have hb := X.1.2.1
  have hl : lv_has ls 4 [(0, .ref (eq E 0)), (1, .int p1)] := hl
  unfold fX9_freezes at hf
  refine lv_aload_n hx hb dX9_freezes_0 rfl (lv_at hl 0 rfl) ?_
  refine lv_iload_n hx hb dX9_freezes_1 rfl (lv_at hl 1 rfl) ?_
  obtain ⟨x2, h1, hf⟩ := br_s hf
  refine cVRi (As := [.int p1]) (rest := []) X G kc_X9_124 (tX9_isHouse l E st _ hL  p1 h1) (rcv X G (hL 0 rfl) (cO9 rfl) rfl) rfl rfl (rmk_le (by omega) (by decide)) rfl hl.1 rfl (Nat.le_of_ble_eq_true rfl) dX9_freezes_2 ⟨Nat.zero_le _, Nat.zero_le _⟩ ?_
  refine lv_if_eq (tgt := 16) hx hb dX9_freezes_5 (by decide) (fun c3 => ?_) (fun c3 => ?_)
  · have hf := it_t hf c3
    refine lv_iconst (v := (-1 : Int32)) hx hb dX9_freezes_16 (by decide) ?_
    exact rtWi X hlk G hr (so_i hf) dX9_freezes_17
  · have hf := it_f hf c3
    refine lv_aload_n hx hb dX9_freezes_8 rfl (lv_at hl 0 rfl) ?_
    refine lv_iload_n hx hb dX9_freezes_9 rfl (lv_at hl 1 rfl) ?_
    obtain ⟨x5, h4, hf⟩ := br_s hf
    refine cVRi (As := [.int p1]) (rest := []) X G kc_X9_134 (tX9_isFrozen l E st _ hL  p1 h4) (rcv X G (hL 0 rfl) (cO9 rfl) rfl) rfl rfl (rmk_le (by omega) (by decide)) rfl hl.1 rfl (Nat.le_of_ble_eq_true rfl) dX9_freezes_10 ⟨Nat.zero_le _, Nat.zero_le _⟩ ?_
    refine lv_if_eq (tgt := 18) hx hb dX9_freezes_13 (by decide) (fun c6 => ?_) (fun c6 => ?_)
    · have hf := it_t hf c6
      refine lv_aload_n hx hb dX9_freezes_18 rfl (lv_at hl 0 rfl) ?_
      obtain ⟨s8, h7, hf⟩ := br_s hf
      refine cVWv (As := []) (rest := []) X G kc_X9_194 (tX9_startTrial l E st _ hL   h7) (rcv X G (hL 0 rfl) (cO9 rfl) rfl) rfl rfl (rmk_le (by omega) (by decide)) rfl hl.1 rfl (Nat.le_of_ble_eq_true rfl) dX9_freezes_19 ⟨Nat.zero_le _, Nat.zero_le _⟩ (fun H locs G => ?_)
      refine lv_iconst (v := (0 : Int32)) hx hb dX9_freezes_22 (by decide) ?_
      refine lv_istore_n (lv' := [(2, .int (0 : Int32)), (0, .ref (eq E 0)), (1, .int p1)]) hx hb dX9_freezes_23 rfl hl (by decide) rfl (fun ls hl => ?_)
      exact wX9_freezes_L24 hL hLL X hr hlk 10000 (0 : Int32) s8 _ _ hf G _ (lv_sub hl [1, 2, 0] rfl)
    · have hf := it_f hf c6
      refine lv_iconst (v := (-1 : Int32)) hx hb dX9_freezes_16 (by decide) ?_
      exact rtWi X hlk G hr (so_i hf) dX9_freezes_17
def fX9_round (p1 : Int32) (p2 : Int32) (p3 : Int32) (st : St) : Option (Int32 × St) := br (fX9_isOfficer st p1) (fun x2 => if x2 = 0 then (some ((-3 : Int32), st)) else (if p2 < (1 : Int32) then (some ((-3 : Int32), st)) else (if (4 : Int32) < p2 then (some ((-3 : Int32), st)) else (if p3 < (-1 : Int32) then (some ((-3 : Int32), st)) else (if p3 < (4 : Int32) then (br (fX3_explore 122 41 p1 p2 st) (fun s9 => if (s9.1 60 8) < 0 then (some ((-2 : Int32), s9)) else (if p3 < p2 then (if 0 ≤ p3 then (gd (ix p3 4) (some ((s9.1 68 p3.toNatClampNeg), s9))) else (some ((s9.1 60 8), s9))) else (some ((-2 : Int32), s9))))) else (some ((-3 : Int32), st)))))))
set_option maxRecDepth 100000 in
theorem tX9_round (l : Launch) (E : Ev) (st : St) (sz : Nat) (hL : ∀ k, fxC k = true → k ∈ eL E) (p1 : Int32) (p2 : Int32) (p3 : Int32) {res : (Int32 × St)} (hf : fX9_round  p1 p2 p3 st = some res) : Met l yX9_round (.code yX9_round cX9_round 4 (some .int) :: uW) (rmk 50) (va_Pc [.ref (eq E 0), .int p1, .int p2, .int p3] (Pre E st sz)) (QWi E res.2 sz res.1) 0 0 (Af E sz) := by
  refine Met_in (by decide) (Nat.le_of_ble_eq_true rfl) ?_
  intro p e s m below meth c X hr hlk hz G ls hl
  have hx := X.1.1
  have hb := X.1.2.1
  have hl : lv_has ls 4 [(0, .ref (eq E 0)), (1, .int p1), (2, .int p2), (3, .int p3)] := hl
  unfold fX9_round at hf
  refine lv_aload_n hx hb dX9_round_0 rfl (lv_at hl 0 rfl) ?_
  refine lv_iload_n hx hb dX9_round_1 rfl (lv_at hl 1 rfl) ?_
  obtain ⟨x2, h1, hf⟩ := br_s hf
  refine cVRi (As := [.int p1]) (rest := []) X G kc_X9_140 (tX9_isOfficer l E st _ hL  p1 h1) (rcv X G (hL 0 rfl) (cO9 rfl) rfl) rfl rfl (rmk_le (by omega) (by decide)) rfl hl.1 rfl (Nat.le_of_ble_eq_true rfl) dX9_round_2 ⟨Nat.zero_le _, Nat.zero_le _⟩ ?_
  refine lv_if_eq (tgt := 28) hx hb dX9_round_5 (by decide) (fun c3 => ?_) (fun c3 => ?_)
  · have hf := it_t hf c3
    refine lv_bipush (v := (-3 : Int32)) hx hb dX9_round_28 (by decide) ?_
    exact rtWi X hlk G hr (so_i hf) dX9_round_30
  · have hf := it_f hf c3
    refine lv_iload_n hx hb dX9_round_8 rfl (lv_at hl 2 rfl) ?_
    refine lv_iconst (v := (1 : Int32)) hx hb dX9_round_9 (by decide) ?_
    refine lv_icmp_lt (tgt := 28) hx hb dX9_round_10 (by decide) (fun c4 => ?_) (fun c4 => ?_)
    · have hf := it_t hf c4
      refine lv_bipush (v := (-3 : Int32)) hx hb dX9_round_28 (by decide) ?_
      exact rtWi X hlk G hr (so_i hf) dX9_round_30
    · have hf := it_f hf c4
      refine lv_iload_n hx hb dX9_round_13 rfl (lv_at hl 2 rfl) ?_
      refine lv_iconst (v := (4 : Int32)) hx hb dX9_round_14 (by decide) ?_
      refine lv_icmp_gt (tgt := 28) hx hb dX9_round_15 (by decide) (fun c5 => ?_) (fun c5 => ?_)
      · have hf := it_t hf c5
        refine lv_bipush (v := (-3 : Int32)) hx hb dX9_round_28 (by decide) ?_
        exact rtWi X hlk G hr (so_i hf) dX9_round_30
      · have hf := it_f hf c5
        refine lv_iload_n hx hb dX9_round_18 rfl (lv_at hl 3 rfl) ?_
        refine lv_iconst (v := (-1 : Int32)) hx hb dX9_round_19 (by decide) ?_
        refine lv_icmp_lt (tgt := 28) hx hb dX9_round_20 (by decide) (fun c6 => ?_) (fun c6 => ?_)
        · have hf := it_t hf c6
          refine lv_bipush (v := (-3 : Int32)) hx hb dX9_round_28 (by decide) ?_
          exact rtWi X hlk G hr (so_i hf) dX9_round_30
        · have hf := it_f hf c6
          refine lv_iload_n hx hb dX9_round_23 rfl (lv_at hl 3 rfl) ?_
          refine lv_iconst (v := (4 : Int32)) hx hb dX9_round_24 (by decide) ?_
          refine lv_icmp_lt (tgt := 31) hx hb dX9_round_25 (by decide) (fun c7 => ?_) (fun c7 => ?_)
          · have hf := it_t hf c7
            refine lv_aload_n hx hb dX9_round_31 rfl (lv_at hl 0 rfl) ?_
            refine gf9 X G (hL 0 rfl) rfl 10 (by decide) rfl kf_X9_78 iwX9 dX9_round_32 ?_
            refine lv_aload_n hx hb dX9_round_35 rfl (lv_at hl 0 rfl) ?_
            refine gf9 X G (hL 0 rfl) rfl 7 (by decide) rfl kf_X9_52 iwX9 dX9_round_36 ?_
            refine gf2 X G (hL 120 rfl) rfl 1 (by decide) rfl kf_X9_128 iwX2 dX9_round_39 ?_
            refine lv_iload_n hx hb dX9_round_42 rfl (lv_at hl 1 rfl) ?_
            refine lv_iload_n hx hb dX9_round_43 rfl (lv_at hl 2 rfl) ?_
            obtain ⟨s9, h8, hf⟩ := br_s hf
            refine cVWv (As := [.ref (eq E 122), .int p1, .int p2]) (rest := []) X G kc_X9_203 (tX3_explore l E st _ hL (hL 122 rfl) rfl (by decide) p1 p2 h8) (rcv X G (hL 60 rfl) (cO3 rfl) rfl) rfl rfl (rmk_le (by omega) (by decide)) rfl hl.1 rfl (Nat.le_of_ble_eq_true rfl) dX9_round_44 ⟨Nat.zero_le _, Nat.zero_le _⟩ (fun H locs G => ?_)
            refine lv_aload_n hx hb dX9_round_47 rfl (lv_at hl 0 rfl) ?_
            refine gf9 X G (hL 0 rfl) rfl 10 (by decide) rfl kf_X9_78 iwX9 dX9_round_48 ?_
            refine gf3 X G (hL 60 rfl) rfl 8 (by decide) rfl kf_X9_207 iwX3 dX9_round_51 ?_
            refine lv_if_lt (tgt := 62) hx hb dX9_round_54 (by decide) (fun c10 => ?_) (fun c10 => ?_)
            · have hf := it_t hf c10
              refine lv_bipush (v := (-2 : Int32)) hx hb dX9_round_62 (by decide) ?_
              exact rtWi X hlk G hr (so_i hf) dX9_round_64
            · have hf := it_f hf c10
              refine lv_iload_n hx hb dX9_round_57 rfl (lv_at hl 3 rfl) ?_
              refine lv_iload_n hx hb dX9_round_58 rfl (lv_at hl 2 rfl) ?_
              refine lv_icmp_lt (tgt := 65) hx hb dX9_round_59 (by decide) (fun c11 => ?_) (fun c11 => ?_)
              · have hf := it_t hf c11
                refine lv_iload_n hx hb dX9_round_65 rfl (lv_at hl 3 rfl) ?_
                refine lv_if_ge (tgt := 79) hx hb dX9_round_66 (by decide) (fun c12 => ?_) (fun c12 => ?_)
                · have hf := it_t hf c12
                  refine lv_aload_n hx hb dX9_round_79 rfl (lv_at hl 0 rfl) ?_
                  refine gf9 X G (hL 0 rfl) rfl 10 (by decide) rfl kf_X9_78 iwX9 dX9_round_80 ?_
                  refine gf3 X G (hL 60 rfl) rfl 7 (by decide) rfl kf_X9_210 iwX3 dX9_round_83 ?_
                  refine lv_iload_n hx hb dX9_round_86 rfl (lv_at hl 3 rfl) ?_
                  obtain ⟨h13, hf⟩ := gd_s hf
                  refine ia_ld (k := 68) (n := 4) X G (hL 68 rfl) rfl (by decide) (ix_in h13) dX9_round_87 ?_
                  exact rtWi X hlk G hr (so_i hf) dX9_round_88
                · have hf := it_f hf c12
                  refine lv_aload_n hx hb dX9_round_69 rfl (lv_at hl 0 rfl) ?_
                  refine gf9 X G (hL 0 rfl) rfl 10 (by decide) rfl kf_X9_78 iwX9 dX9_round_70 ?_
                  refine gf3 X G (hL 60 rfl) rfl 8 (by decide) rfl kf_X9_207 iwX3 dX9_round_73 ?_
                  refine lv_goto (tgt := 88) hx hb dX9_round_76 (by decide) ?_
                  exact rtWi X hlk G hr (so_i hf) dX9_round_88
              · have hf := it_f hf c11
                refine lv_bipush (v := (-2 : Int32)) hx hb dX9_round_62 (by decide) ?_
                exact rtWi X hlk G hr (so_i hf) dX9_round_64
          · have hf := it_f hf c7
            refine lv_bipush (v := (-3 : Int32)) hx hb dX9_round_28 (by decide) ?_
            exact rtWi X hlk G hr (so_i hf) dX9_round_30
def fX9_span (p1 : Int32) (p2 : Int32) (p3 : Int32) (st : St) : Option (Int32 × St) := br (fX9_isOfficer st p1) (fun x2 => if x2 = 0 then (some ((-1 : Int32), st)) else (if p2 < (1 : Int32) then (some ((-1 : Int32), st)) else (if (4 : Int32) < p2 then (some ((-1 : Int32), st)) else (if p3 < 0 then (some ((-1 : Int32), st)) else (if p3 ≤ (1 : Int32) then (br (fX3_explore 122 41 p1 p2 st) (fun s9 => if 0 ≤ (s9.1 60 10) then (if p3 = 0 then (some ((s9.1 60 9), s9)) else (some ((s9.1 60 10), s9))) else (some ((-2 : Int32), s9)))) else (some ((-1 : Int32), st)))))))
set_option maxRecDepth 100000 in
theorem tX9_span (l : Launch) (E : Ev) (st : St) (sz : Nat) (hL : ∀ k, fxC k = true → k ∈ eL E) (p1 : Int32) (p2 : Int32) (p3 : Int32) {res : (Int32 × St)} (hf : fX9_span  p1 p2 p3 st = some res) : Met l yX9_span (.code yX9_span cX9_span 4 (some .int) :: uW) (rmk 50) (va_Pc [.ref (eq E 0), .int p1, .int p2, .int p3] (Pre E st sz)) (QWi E res.2 sz res.1) 0 0 (Af E sz) := by
  refine Met_in (by decide) (Nat.le_of_ble_eq_true rfl) ?_
  intro p e s m below meth c X hr hlk hz G ls hl
  have hx := X.1.1
  have hb := X.1.2.1
  have hl : lv_has ls 4 [(0, .ref (eq E 0)), (1, .int p1), (2, .int p2), (3, .int p3)] := hl
  unfold fX9_span at hf
  refine lv_aload_n hx hb dX9_span_0 rfl (lv_at hl 0 rfl) ?_
  refine lv_iload_n hx hb dX9_span_1 rfl (lv_at hl 1 rfl) ?_
  obtain ⟨x2, h1, hf⟩ := br_s hf
  refine cVRi (As := [.int p1]) (rest := []) X G kc_X9_140 (tX9_isOfficer l E st _ hL  p1 h1) (rcv X G (hL 0 rfl) (cO9 rfl) rfl) rfl rfl (rmk_le (by omega) (by decide)) rfl hl.1 rfl (Nat.le_of_ble_eq_true rfl) dX9_span_2 ⟨Nat.zero_le _, Nat.zero_le _⟩ ?_
  refine lv_if_eq (tgt := 27) hx hb dX9_span_5 (by decide) (fun c3 => ?_) (fun c3 => ?_)
  · have hf := it_t hf c3
    refine lv_iconst (v := (-1 : Int32)) hx hb dX9_span_27 (by decide) ?_
    exact rtWi X hlk G hr (so_i hf) dX9_span_28
  · have hf := it_f hf c3
    refine lv_iload_n hx hb dX9_span_8 rfl (lv_at hl 2 rfl) ?_
    refine lv_iconst (v := (1 : Int32)) hx hb dX9_span_9 (by decide) ?_
    refine lv_icmp_lt (tgt := 27) hx hb dX9_span_10 (by decide) (fun c4 => ?_) (fun c4 => ?_)
    · have hf := it_t hf c4
      refine lv_iconst (v := (-1 : Int32)) hx hb dX9_span_27 (by decide) ?_
      exact rtWi X hlk G hr (so_i hf) dX9_span_28
    · have hf := it_f hf c4
      refine lv_iload_n hx hb dX9_span_13 rfl (lv_at hl 2 rfl) ?_
      refine lv_iconst (v := (4 : Int32)) hx hb dX9_span_14 (by decide) ?_
      refine lv_icmp_gt (tgt := 27) hx hb dX9_span_15 (by decide) (fun c5 => ?_) (fun c5 => ?_)
      · have hf := it_t hf c5
        refine lv_iconst (v := (-1 : Int32)) hx hb dX9_span_27 (by decide) ?_
        exact rtWi X hlk G hr (so_i hf) dX9_span_28
      · have hf := it_f hf c5
        refine lv_iload_n hx hb dX9_span_18 rfl (lv_at hl 3 rfl) ?_
        refine lv_if_lt (tgt := 27) hx hb dX9_span_19 (by decide) (fun c6 => ?_) (fun c6 => ?_)
        · have hf := it_t hf c6
          refine lv_iconst (v := (-1 : Int32)) hx hb dX9_span_27 (by decide) ?_
          exact rtWi X hlk G hr (so_i hf) dX9_span_28
        · have hf := it_f hf c6
          refine lv_iload_n hx hb dX9_span_22 rfl (lv_at hl 3 rfl) ?_
          refine lv_iconst (v := (1 : Int32)) hx hb dX9_span_23 (by decide) ?_
          refine lv_icmp_le (tgt := 29) hx hb dX9_span_24 (by decide) (fun c7 => ?_) (fun c7 => ?_)
          · have hf := it_t hf c7
            refine lv_aload_n hx hb dX9_span_29 rfl (lv_at hl 0 rfl) ?_
            refine gf9 X G (hL 0 rfl) rfl 10 (by decide) rfl kf_X9_78 iwX9 dX9_span_30 ?_
            refine lv_aload_n hx hb dX9_span_33 rfl (lv_at hl 0 rfl) ?_
            refine gf9 X G (hL 0 rfl) rfl 7 (by decide) rfl kf_X9_52 iwX9 dX9_span_34 ?_
            refine gf2 X G (hL 120 rfl) rfl 1 (by decide) rfl kf_X9_128 iwX2 dX9_span_37 ?_
            refine lv_iload_n hx hb dX9_span_40 rfl (lv_at hl 1 rfl) ?_
            refine lv_iload_n hx hb dX9_span_41 rfl (lv_at hl 2 rfl) ?_
            obtain ⟨s9, h8, hf⟩ := br_s hf
            refine cVWv (As := [.ref (eq E 122), .int p1, .int p2]) (rest := []) X G kc_X9_203 (tX3_explore l E st _ hL (hL 122 rfl) rfl (by decide) p1 p2 h8) (rcv X G (hL 60 rfl) (cO3 rfl) rfl) rfl rfl (rmk_le (by omega) (by decide)) rfl hl.1 rfl (Nat.le_of_ble_eq_true rfl) dX9_span_42 ⟨Nat.zero_le _, Nat.zero_le _⟩ (fun H locs G => ?_)
            refine lv_aload_n hx hb dX9_span_45 rfl (lv_at hl 0 rfl) ?_
            refine gf9 X G (hL 0 rfl) rfl 10 (by decide) rfl kf_X9_78 iwX9 dX9_span_46 ?_
            refine gf3 X G (hL 60 rfl) rfl 10 (by decide) rfl kf_X9_213 iwX3 dX9_span_49 ?_
            refine lv_if_ge (tgt := 58) hx hb dX9_span_52 (by decide) (fun c10 => ?_) (fun c10 => ?_)
            · have hf := it_t hf c10
              refine lv_iload_n hx hb dX9_span_58 rfl (lv_at hl 3 rfl) ?_
              refine lv_if_ne (tgt := 72) hx hb dX9_span_59 (by decide) (fun c11 => ?_) (fun c11 => ?_)
              · have hf := it_f hf c11
                refine lv_aload_n hx hb dX9_span_72 rfl (lv_at hl 0 rfl) ?_
                refine gf9 X G (hL 0 rfl) rfl 10 (by decide) rfl kf_X9_78 iwX9 dX9_span_73 ?_
                refine gf3 X G (hL 60 rfl) rfl 10 (by decide) rfl kf_X9_213 iwX3 dX9_span_76 ?_
                exact rtWi X hlk G hr (so_i hf) dX9_span_79
              · have hf := it_t hf c11
                refine lv_aload_n hx hb dX9_span_62 rfl (lv_at hl 0 rfl) ?_
                refine gf9 X G (hL 0 rfl) rfl 10 (by decide) rfl kf_X9_78 iwX9 dX9_span_63 ?_
                refine gf3 X G (hL 60 rfl) rfl 9 (by decide) rfl kf_X9_216 iwX3 dX9_span_66 ?_
                refine lv_goto (tgt := 79) hx hb dX9_span_69 (by decide) ?_
                exact rtWi X hlk G hr (so_i hf) dX9_span_79
            · have hf := it_f hf c10
              refine lv_bipush (v := (-2 : Int32)) hx hb dX9_span_55 (by decide) ?_
              exact rtWi X hlk G hr (so_i hf) dX9_span_57
          · have hf := it_f hf c7
            refine lv_iconst (v := (-1 : Int32)) hx hb dX9_span_27 (by decide) ?_
            exact rtWi X hlk G hr (so_i hf) dX9_span_28
def fX9_isTrialLength (p1 : Int32) : Option Int32 := if p1 < (1 : Int32) then (some (0 : Int32)) else (if (60 : Int32) < p1 then (some (0 : Int32)) else (some (1 : Int32)))
set_option maxRecDepth 100000 in
theorem tX9_isTrialLength (l : Launch) (E : Ev) (st : St) (sz : Nat) (p1 : Int32) {res : Int32} (hf : fX9_isTrialLength  p1 = some res) : Met l yX9_isTrialLength (.code yX9_isTrialLength cX9_isTrialLength 1 (some .boolean) :: uW) (rmk 0) (va_Pc [.int p1] (Pre E st sz)) (QRi res) 0 0 (NoF) := by
  refine Met_in (by decide) (Nat.le_of_ble_eq_true rfl) ?_
  intro p e s m below meth c X hr hlk hz G ls hl
  have hx := X.1.1
  have hb := X.1.2.1
  have hl : lv_has ls 1 [(0, .int p1)] := hl
  unfold fX9_isTrialLength at hf
  refine lv_iload_n hx hb dX9_isTrialLength_0 rfl (lv_at hl 0 rfl) ?_
  refine lv_iconst (v := (1 : Int32)) hx hb dX9_isTrialLength_1 (by decide) ?_
  refine lv_icmp_lt (tgt := 15) hx hb dX9_isTrialLength_2 (by decide) (fun c1 => ?_) (fun c1 => ?_)
  · have hf := it_t hf c1
    refine lv_iconst (v := (0 : Int32)) hx hb dX9_isTrialLength_15 (by decide) ?_
    exact rtRz X hlk hr rfl (so_i hf) dX9_isTrialLength_16
  · have hf := it_f hf c1
    refine lv_iload_n hx hb dX9_isTrialLength_5 rfl (lv_at hl 0 rfl) ?_
    refine lv_bipush (v := (60 : Int32)) hx hb dX9_isTrialLength_6 (by decide) ?_
    refine lv_icmp_gt (tgt := 15) hx hb dX9_isTrialLength_8 (by decide) (fun c2 => ?_) (fun c2 => ?_)
    · have hf := it_t hf c2
      refine lv_iconst (v := (0 : Int32)) hx hb dX9_isTrialLength_15 (by decide) ?_
      exact rtRz X hlk hr rfl (so_i hf) dX9_isTrialLength_16
    · have hf := it_f hf c2
      refine lv_iconst (v := (1 : Int32)) hx hb dX9_isTrialLength_11 (by decide) ?_
      refine lv_goto (tgt := 16) hx hb dX9_isTrialLength_12 (by decide) ?_
      exact rtRz X hlk hr rfl (so_i hf) dX9_isTrialLength_16
def fX9_staysWarm_L2 (L : List Nat) (p1 : Int32) (p2 : Int32) : Nat → Int32 → St → Option (Int32 × St)
  | 0, _, _ => none
  | n + 1, y3, st => if p1 ≤ y3 then (some ((1 : Int32), st)) else (bw (fX8_pass L 13 41 (0 : Int32) st) (fun x4 s3 => if ((s3.1 13 38) &&& p2) = 0 then (nm (y3 + (1 : Int32)) (fun x7 => (fX9_staysWarm_L2 L p1 p2 n) x7 s3)) else (some ((0 : Int32), s3))))
set_option maxRecDepth 100000 in
theorem wX9_staysWarm_L2 {p : Program} {l : Launch} {e : Env} {s : State} {m : MethodId} {args : Array Value} {below : List Frame} {meth : Method} {c : Code} {E : Ev} (hL : ∀ k, fxC k = true → k ∈ eL E) {L : List Nat} {p1 : Int32} {p2 : Int32} (hLL : L = eL E) {sz : Nat} {res : (Int32 × St)} (X : CX p s m args c E RX9 cX9_staysWarm 4 (Af E sz)) (hr : meth.sig.returnType = (some .boolean)) (hlk : meth.locks = false) : ∀ (n : Nat) (y3 : Int32) (st : St) (H : Heap) (locs : List Loc), fX9_staysWarm_L2 L p1 p2  n y3 st = some res → Gd E st (Af E sz) s H locs → ∀ ls : Array Slot, lv_has ls 4 [(0, .ref (eq E 0)), (1, .int p1), (2, .int p2), (3, .int y3)] → W p l e (rmk 5) s m args below meth c H locs 0 0 (MQ below (QWi E res.2 sz res.1) args s 0 0 (Af E sz)) (F0 m 2 ls []) := by
  have hx := X.1.1
  have hb := X.1.2.1
  intro n
  induction n with
  | zero =>
    intro y3 st H locs hf G ls hl
    cases (show (none : Option (Int32 × St)) = some res from hf)
  | succ n ih =>
    intro y3 st H locs hf G ls hl
    rw [fX9_staysWarm_L2] at hf
    refine lv_iload_n hx hb dX9_staysWarm_2 rfl (lv_at hl 3 rfl) ?_
    refine lv_iload_n hx hb dX9_staysWarm_3 rfl (lv_at hl 1 rfl) ?_
    refine lv_icmp_ge (tgt := 40) hx hb dX9_staysWarm_4 (by decide) (fun c1 => ?_) (fun c1 => ?_)
    · have hf := it_t hf c1
      refine lv_iconst (v := (1 : Int32)) hx hb dX9_staysWarm_40 (by decide) ?_
      exact rtWz X hlk G hr rfl (so_i hf) dX9_staysWarm_41
    · have hf := it_f hf c1
      refine lv_aload_n hx hb dX9_staysWarm_7 rfl (lv_at hl 0 rfl) ?_
      refine gf9 X G (hL 0 rfl) rfl 9 (by decide) rfl kf_X9_69 iwX9 dX9_staysWarm_8 ?_
      refine lv_aload_n hx hb dX9_staysWarm_11 rfl (lv_at hl 0 rfl) ?_
      refine gf9 X G (hL 0 rfl) rfl 12 (by decide) rfl kf_X9_91 iwX9 dX9_staysWarm_12 ?_
      refine lv_iconst (v := (0 : Int32)) hx hb dX9_staysWarm_15 (by decide) ?_
      obtain ⟨x4, s3, h2, hf⟩ := bw_s hf
      refine cVWi (As := [.ref (eq E 13), .int (0 : Int32)]) (rest := []) X G kc_X9_161 (tX8_pass l E st _ hL hLL (hL 13 rfl) rfl (by decide) (0 : Int32) h2) (rcv X G (hL 50 rfl) (cO8 rfl) rfl) rfl rfl (rmk_le (by omega) (by decide)) rfl hl.1 rfl (Nat.le_of_ble_eq_true rfl) dX9_staysWarm_16 ⟨Nat.zero_le _, Nat.zero_le _⟩ (fun H locs G => ?_)
      refine lv_pop hx hb dX9_staysWarm_19 rfl ?_
      refine lv_aload_n hx hb dX9_staysWarm_20 rfl (lv_at hl 0 rfl) ?_
      refine gf9 X G (hL 0 rfl) rfl 12 (by decide) rfl kf_X9_91 iwX9 dX9_staysWarm_21 ?_
      refine lv_bipush (v := (38 : Int32)) hx hb dX9_staysWarm_24 (by decide) ?_
      refine ia_ldc (k := 13) (n := 41) X G (hL 13 rfl) rfl (by decide) 38 (by decide) dX9_staysWarm_26 ?_
      refine lv_iload_n hx hb dX9_staysWarm_27 rfl (lv_at hl 2 rfl) ?_
      refine lv_iand hx hb dX9_staysWarm_28 ?_
      refine lv_if_eq (tgt := 34) hx hb dX9_staysWarm_29 (by decide) (fun c6 => ?_) (fun c6 => ?_)
      · have hf := it_t hf c6
        obtain ⟨x7, ex7⟩ : ∃ y : Int32, y = (y3 + (1 : Int32)) := ⟨_, rfl⟩
        have hf := nm_s hf x7 ex7
        refine lv_iinc (k := 3) (v := x7) (lv' := [(3, .int x7), (0, .ref (eq E 0)), (1, .int p1), (2, .int p2)]) hx hb dX9_staysWarm_34 hl rfl (by rw [ex7]; rfl) (by decide) rfl (fun ls hl => ?_)
        refine lv_goto (tgt := 2) hx hb dX9_staysWarm_37 (by decide) ?_
        exact ih x7 s3 _ _ hf G _ (lv_sub hl [1, 2, 3, 0] rfl)
      · have hf := it_f hf c6
        refine lv_iconst (v := (0 : Int32)) hx hb dX9_staysWarm_32 (by decide) ?_
        exact rtWz X hlk G hr rfl (so_i hf) dX9_staysWarm_33
def fX9_staysWarm (L : List Nat) (p1 : Int32) (p2 : Int32) (st : St) : Option (Int32 × St) := fX9_staysWarm_L2 L p1 p2 10000 (0 : Int32) st
set_option maxRecDepth 100000 in
theorem tX9_staysWarm (l : Launch) (E : Ev) (st : St) (sz : Nat) (hL : ∀ k, fxC k = true → k ∈ eL E) {L : List Nat} (hLL : L = eL E) (p1 : Int32) (p2 : Int32) {res : (Int32 × St)} (hf : fX9_staysWarm L p1 p2 st = some res) : Met l yX9_staysWarm (.code yX9_staysWarm cX9_staysWarm 4 (some .boolean) :: uW) (rmk 5) (va_Pc [.ref (eq E 0), .int p1, .int p2] (Pre E st sz)) (QWi E res.2 sz res.1) 0 0 (Af E sz) := by
  refine Met_in (by decide) (Nat.le_of_ble_eq_true rfl) ?_
  intro p e s m below meth c X hr hlk hz G ls hl
  have hx := X.1.1
  have hb := X.1.2.1
  have hl : lv_has ls 4 [(0, .ref (eq E 0)), (1, .int p1), (2, .int p2)] := hl
  unfold fX9_staysWarm at hf
  refine lv_iconst (v := (0 : Int32)) hx hb dX9_staysWarm_0 (by decide) ?_
  refine lv_istore_n (lv' := [(3, .int (0 : Int32)), (0, .ref (eq E 0)), (1, .int p1), (2, .int p2)]) hx hb dX9_staysWarm_1 rfl hl (by decide) rfl (fun ls hl => ?_)
  exact wX9_staysWarm_L2 hL hLL X hr hlk 10000 (0 : Int32) st _ _ hf G _ (lv_sub hl [1, 2, 3, 0] rfl)
def fX9_logs_L27 (L : List Nat) (p1 : Int32) (p2 : Int32) : Nat → Int32 → St → Option (Int32 × St)
  | 0, _, _ => none
  | n + 1, y3, st => if (99 : Int32) < y3 then (some ((-2 : Int32), st)) else (br (fX9_startTrial st) (fun s3 => gd (ix ((8 : Int32) + p1) 41) (nm (ui s3 13 ((8 : Int32) + p1).toNatClampNeg y3) (fun s5 => bw (fX9_staysWarm L p2 ((1 : Int32) <<< (p1 &&& 31)) s5) (fun x8 s7 => if x8 = 0 then (nm (y3 + (1 : Int32)) (fun x10 => (fX9_logs_L27 L p1 p2 n) x10 s7)) else (some (y3, s7)))))))
set_option maxRecDepth 100000 in
theorem wX9_logs_L27 {p : Program} {l : Launch} {e : Env} {s : State} {m : MethodId} {args : Array Value} {below : List Frame} {meth : Method} {c : Code} {E : Ev} (hL : ∀ k, fxC k = true → k ∈ eL E) {L : List Nat} {p1 : Int32} {p2 : Int32} (hLL : L = eL E) {sz : Nat} {res : (Int32 × St)} (X : CX p s m args c E RX9 cX9_logs 4 (Af E sz)) (hr : meth.sig.returnType = (some .int)) (hlk : meth.locks = false) : ∀ (n : Nat) (y3 : Int32) (st : St) (H : Heap) (locs : List Loc), fX9_logs_L27 L p1 p2  n y3 st = some res → Gd E st (Af E sz) s H locs → ∀ ls : Array Slot, lv_has ls 4 [(0, .ref (eq E 0)), (1, .int p1), (2, .int p2), (3, .int y3)] → W p l e (rmk 6) s m args below meth c H locs 0 0 (MQ below (QWi E res.2 sz res.1) args s 0 0 (Af E sz)) (F0 m 27 ls []) := by
  have hx := X.1.1
  have hb := X.1.2.1
  intro n
  induction n with
  | zero =>
    intro y3 st H locs hf G ls hl
    cases (show (none : Option (Int32 × St)) = some res from hf)
  | succ n ih =>
    intro y3 st H locs hf G ls hl
    rw [fX9_logs_L27] at hf
    refine lv_iload_n hx hb dX9_logs_27 rfl (lv_at hl 3 rfl) ?_
    refine lv_bipush (v := (99 : Int32)) hx hb dX9_logs_28 (by decide) ?_
    refine lv_icmp_gt (tgt := 66) hx hb dX9_logs_30 (by decide) (fun c1 => ?_) (fun c1 => ?_)
    · have hf := it_t hf c1
      refine lv_bipush (v := (-2 : Int32)) hx hb dX9_logs_66 (by decide) ?_
      exact rtWi X hlk G hr (so_i hf) dX9_logs_68
    · have hf := it_f hf c1
      refine lv_aload_n hx hb dX9_logs_33 rfl (lv_at hl 0 rfl) ?_
      obtain ⟨s3, h2, hf⟩ := br_s hf
      refine cVWv (As := []) (rest := []) X G kc_X9_194 (tX9_startTrial l E st _ hL   h2) (rcv X G (hL 0 rfl) (cO9 rfl) rfl) rfl rfl (rmk_le (by omega) (by decide)) rfl hl.1 rfl (Nat.le_of_ble_eq_true rfl) dX9_logs_34 ⟨Nat.zero_le _, Nat.zero_le _⟩ (fun H locs G => ?_)
      refine lv_aload_n hx hb dX9_logs_37 rfl (lv_at hl 0 rfl) ?_
      refine gf9 X G (hL 0 rfl) rfl 12 (by decide) rfl kf_X9_91 iwX9 dX9_logs_38 ?_
      refine lv_bipush (v := (8 : Int32)) hx hb dX9_logs_41 (by decide) ?_
      refine lv_iload_n hx hb dX9_logs_43 rfl (lv_at hl 1 rfl) ?_
      refine lv_iadd hx hb dX9_logs_44 ?_
      refine lv_iload_n hx hb dX9_logs_45 rfl (lv_at hl 3 rfl) ?_
      obtain ⟨h4, hf⟩ := gd_s hf
      refine ia_st (k := 13) (n := 41) X G (hL 13 rfl) rfl (by decide) (ix_in h4) dX9_logs_46 (fun s5 es5 H locs G => ?_)
      have hf := nm_s hf s5 es5
      refine lv_aload_n hx hb dX9_logs_47 rfl (lv_at hl 0 rfl) ?_
      refine lv_iload_n hx hb dX9_logs_48 rfl (lv_at hl 2 rfl) ?_
      refine lv_iconst (v := (1 : Int32)) hx hb dX9_logs_49 (by decide) ?_
      refine lv_iload_n hx hb dX9_logs_50 rfl (lv_at hl 1 rfl) ?_
      refine lv_ishl hx hb dX9_logs_51 ?_
      obtain ⟨x8, s7, h6, hf⟩ := bw_s hf
      refine cVWi (As := [.int p2, .int ((1 : Int32) <<< (p1 &&& 31))]) (rest := []) X G kc_X9_222 (tX9_staysWarm l E s5 _ hL hLL p2 ((1 : Int32) <<< (p1 &&& 31)) h6) (rcv X G (hL 0 rfl) (cO9 rfl) rfl) rfl rfl (rmk_le (by omega) (by decide)) rfl hl.1 rfl (Nat.le_of_ble_eq_true rfl) dX9_logs_52 ⟨Nat.zero_le _, Nat.zero_le _⟩ (fun H locs G => ?_)
      refine lv_if_eq (tgt := 60) hx hb dX9_logs_55 (by decide) (fun c9 => ?_) (fun c9 => ?_)
      · have hf := it_t hf c9
        obtain ⟨x10, ex10⟩ : ∃ y : Int32, y = (y3 + (1 : Int32)) := ⟨_, rfl⟩
        have hf := nm_s hf x10 ex10
        refine lv_iinc (k := 3) (v := x10) (lv' := [(3, .int x10), (0, .ref (eq E 0)), (1, .int p1), (2, .int p2)]) hx hb dX9_logs_60 hl rfl (by rw [ex10]; rfl) (by decide) rfl (fun ls hl => ?_)
        refine lv_goto (tgt := 27) hx hb dX9_logs_63 (by decide) ?_
        exact ih x10 s7 _ _ hf G _ (lv_sub hl [1, 2, 3, 0] rfl)
      · have hf := it_f hf c9
        refine lv_iload_n hx hb dX9_logs_58 rfl (lv_at hl 3 rfl) ?_
        exact rtWi X hlk G hr (so_i hf) dX9_logs_59
def fX9_logs (L : List Nat) (p1 : Int32) (p2 : Int32) (st : St) : Option (Int32 × St) := br (fX9_isHouse st p1) (fun x2 => if x2 = 0 then (some ((-1 : Int32), st)) else (br (fX9_isFrozen st p1) (fun x5 => if x5 = 0 then (br (fX9_isTrialLength p2) (fun x8 => if x8 = 0 then (some ((-1 : Int32), st)) else (fX9_logs_L27 L p1 p2 10000 (0 : Int32) st))) else (some ((-1 : Int32), st)))))
set_option maxRecDepth 100000 in
theorem tX9_logs (l : Launch) (E : Ev) (st : St) (sz : Nat) (hL : ∀ k, fxC k = true → k ∈ eL E) {L : List Nat} (hLL : L = eL E) (p1 : Int32) (p2 : Int32) {res : (Int32 × St)} (hf : fX9_logs L p1 p2 st = some res) : Met l yX9_logs (.code yX9_logs cX9_logs 4 (some .int) :: uW) (rmk 6) (va_Pc [.ref (eq E 0), .int p1, .int p2] (Pre E st sz)) (QWi E res.2 sz res.1) 0 0 (Af E sz) := by
  refine Met_in (by decide) (Nat.le_of_ble_eq_true rfl) ?_
  intro p e s m below meth c X hr hlk hz G ls hl
  have hx := X.1.1
  have hb := X.1.2.1
  have hl : lv_has ls 4 [(0, .ref (eq E 0)), (1, .int p1), (2, .int p2)] := hl
  unfold fX9_logs at hf
  refine lv_aload_n hx hb dX9_logs_0 rfl (lv_at hl 0 rfl) ?_
  refine lv_iload_n hx hb dX9_logs_1 rfl (lv_at hl 1 rfl) ?_
  obtain ⟨x2, h1, hf⟩ := br_s hf
  refine cVRi (As := [.int p1]) (rest := []) X G kc_X9_124 (tX9_isHouse l E st _ hL  p1 h1) (rcv X G (hL 0 rfl) (cO9 rfl) rfl) rfl rfl (rmk_le (by omega) (by decide)) rfl hl.1 rfl (Nat.le_of_ble_eq_true rfl) dX9_logs_2 ⟨Nat.zero_le _, Nat.zero_le _⟩ ?_
  refine lv_if_eq (tgt := 23) hx hb dX9_logs_5 (by decide) (fun c3 => ?_) (fun c3 => ?_)
  · have hf := it_t hf c3
    refine lv_iconst (v := (-1 : Int32)) hx hb dX9_logs_23 (by decide) ?_
    exact rtWi X hlk G hr (so_i hf) dX9_logs_24
  · have hf := it_f hf c3
    refine lv_aload_n hx hb dX9_logs_8 rfl (lv_at hl 0 rfl) ?_
    refine lv_iload_n hx hb dX9_logs_9 rfl (lv_at hl 1 rfl) ?_
    obtain ⟨x5, h4, hf⟩ := br_s hf
    refine cVRi (As := [.int p1]) (rest := []) X G kc_X9_134 (tX9_isFrozen l E st _ hL  p1 h4) (rcv X G (hL 0 rfl) (cO9 rfl) rfl) rfl rfl (rmk_le (by omega) (by decide)) rfl hl.1 rfl (Nat.le_of_ble_eq_true rfl) dX9_logs_10 ⟨Nat.zero_le _, Nat.zero_le _⟩ ?_
    refine lv_if_ne (tgt := 23) hx hb dX9_logs_13 (by decide) (fun c6 => ?_) (fun c6 => ?_)
    · have hf := it_f hf c6
      refine lv_iconst (v := (-1 : Int32)) hx hb dX9_logs_23 (by decide) ?_
      exact rtWi X hlk G hr (so_i hf) dX9_logs_24
    · have hf := it_t hf c6
      refine lv_iload_n hx hb dX9_logs_16 rfl (lv_at hl 2 rfl) ?_
      obtain ⟨x8, h7, hf⟩ := br_s hf
      refine cSRi (As := [.int p2]) (rest := []) X G kc_X9_219 (tX9_isTrialLength l E st _  p2 h7) rfl rfl (rmk_le (by omega) (by decide)) rfl hl.1 rfl (Nat.le_of_ble_eq_true rfl) dX9_logs_17 ⟨Nat.zero_le _, Nat.zero_le _⟩ ?_
      refine lv_if_ne (tgt := 25) hx hb dX9_logs_20 (by decide) (fun c9 => ?_) (fun c9 => ?_)
      · have hf := it_f hf c9
        refine lv_iconst (v := (0 : Int32)) hx hb dX9_logs_25 (by decide) ?_
        refine lv_istore_n (lv' := [(3, .int (0 : Int32)), (0, .ref (eq E 0)), (1, .int p1), (2, .int p2)]) hx hb dX9_logs_26 rfl hl (by decide) rfl (fun ls hl => ?_)
        exact wX9_logs_L27 hL hLL X hr hlk 10000 (0 : Int32) st _ _ hf G _ (lv_sub hl [1, 2, 3, 0] rfl)
      · have hf := it_t hf c9
        refine lv_iconst (v := (-1 : Int32)) hx hb dX9_logs_23 (by decide) ?_
        exact rtWi X hlk G hr (so_i hf) dX9_logs_24
def fX9_rate_L38 (L : List Nat) (p1 : Int32) : Nat → Int32 → Int32 → St → Option (Int32 × St)
  | 0, _, _, _ => none
  | n + 1, y2, y3, st => if y3 < 0 then (some ((-2 : Int32), st)) else (br (fX9_startTrial st) (fun s3 => nm (ui s3 50 3 y3) (fun s4 => bw (fX9_staysWarm L p1 y2 s4) (fun x7 s6 => if x7 = 0 then (nm (y3 + (-1 : Int32)) (fun x9 => (fX9_rate_L38 L p1 n) y2 x9 s6)) else (some (y3, s6))))))
set_option maxRecDepth 100000 in
theorem wX9_rate_L38 {p : Program} {l : Launch} {e : Env} {s : State} {m : MethodId} {args : Array Value} {below : List Frame} {meth : Method} {c : Code} {E : Ev} (hL : ∀ k, fxC k = true → k ∈ eL E) {L : List Nat} {p1 : Int32} (hLL : L = eL E) {sz : Nat} {res : (Int32 × St)} (X : CX p s m args c E RX9 cX9_rate 4 (Af E sz)) (hr : meth.sig.returnType = (some .int)) (hlk : meth.locks = false) : ∀ (n : Nat) (y2 : Int32) (y3 : Int32) (st : St) (H : Heap) (locs : List Loc), fX9_rate_L38 L p1  n y2 y3 st = some res → Gd E st (Af E sz) s H locs → ∀ ls : Array Slot, lv_has ls 4 [(0, .ref (eq E 0)), (1, .int p1), (2, .int y2), (3, .int y3)] → W p l e (rmk 6) s m args below meth c H locs 0 0 (MQ below (QWi E res.2 sz res.1) args s 0 0 (Af E sz)) (F0 m 38 ls []) := by
  have hx := X.1.1
  have hb := X.1.2.1
  intro n
  induction n with
  | zero =>
    intro y2 y3 st H locs hf G ls hl
    cases (show (none : Option (Int32 × St)) = some res from hf)
  | succ n ih =>
    intro y2 y3 st H locs hf G ls hl
    rw [fX9_rate_L38] at hf
    refine lv_iload_n hx hb dX9_rate_38 rfl (lv_at hl 3 rfl) ?_
    refine lv_if_lt (tgt := 71) hx hb dX9_rate_39 (by decide) (fun c1 => ?_) (fun c1 => ?_)
    · have hf := it_t hf c1
      refine lv_bipush (v := (-2 : Int32)) hx hb dX9_rate_71 (by decide) ?_
      exact rtWi X hlk G hr (so_i hf) dX9_rate_73
    · have hf := it_f hf c1
      refine lv_aload_n hx hb dX9_rate_42 rfl (lv_at hl 0 rfl) ?_
      obtain ⟨s3, h2, hf⟩ := br_s hf
      refine cVWv (As := []) (rest := []) X G kc_X9_194 (tX9_startTrial l E st _ hL   h2) (rcv X G (hL 0 rfl) (cO9 rfl) rfl) rfl rfl (rmk_le (by omega) (by decide)) rfl hl.1 rfl (Nat.le_of_ble_eq_true rfl) dX9_rate_43 ⟨Nat.zero_le _, Nat.zero_le _⟩ (fun H locs G => ?_)
      refine lv_aload_n hx hb dX9_rate_46 rfl (lv_at hl 0 rfl) ?_
      refine gf9 X G (hL 0 rfl) rfl 9 (by decide) rfl kf_X9_69 iwX9 dX9_rate_47 ?_
      refine lv_iload_n hx hb dX9_rate_50 rfl (lv_at hl 3 rfl) ?_
      refine pf8 X G (hL 50 rfl) rfl 3 (by decide) ps8_3 uio kf_X9_225 iwX8 rfl (ty := .int) (by decide +kernel) rfl rfl dX9_rate_51 (fun s4 es4 H locs G => ?_)
      have hf := nm_s hf s4 es4
      refine lv_aload_n hx hb dX9_rate_54 rfl (lv_at hl 0 rfl) ?_
      refine lv_iload_n hx hb dX9_rate_55 rfl (lv_at hl 1 rfl) ?_
      refine lv_iload_n hx hb dX9_rate_56 rfl (lv_at hl 2 rfl) ?_
      obtain ⟨x7, s6, h5, hf⟩ := bw_s hf
      refine cVWi (As := [.int p1, .int y2]) (rest := []) X G kc_X9_222 (tX9_staysWarm l E s4 _ hL hLL p1 y2 h5) (rcv X G (hL 0 rfl) (cO9 rfl) rfl) rfl rfl (rmk_le (by omega) (by decide)) rfl hl.1 rfl (Nat.le_of_ble_eq_true rfl) dX9_rate_57 ⟨Nat.zero_le _, Nat.zero_le _⟩ (fun H locs G => ?_)
      refine lv_if_eq (tgt := 65) hx hb dX9_rate_60 (by decide) (fun c8 => ?_) (fun c8 => ?_)
      · have hf := it_t hf c8
        obtain ⟨x9, ex9⟩ : ∃ y : Int32, y = (y3 + (-1 : Int32)) := ⟨_, rfl⟩
        have hf := nm_s hf x9 ex9
        refine lv_iinc (k := 3) (v := x9) (lv' := [(3, .int x9), (0, .ref (eq E 0)), (1, .int p1), (2, .int y2)]) hx hb dX9_rate_65 hl rfl (by rw [ex9]; rfl) (by decide) rfl (fun ls hl => ?_)
        refine lv_goto (tgt := 38) hx hb dX9_rate_68 (by decide) ?_
        exact ih y2 x9 s6 _ _ hf G _ (lv_sub hl [1, 2, 3, 0] rfl)
      · have hf := it_f hf c8
        refine lv_iload_n hx hb dX9_rate_63 rfl (lv_at hl 3 rfl) ?_
        exact rtWi X hlk G hr (so_i hf) dX9_rate_64
def fX9_rate (L : List Nat) (p1 : Int32) (st : St) : Option (Int32 × St) := if (st.1 134 0) = 0 then (some ((-1 : Int32), st)) else (br (fX9_isTrialLength p1) (fun x3 => if x3 = 0 then (some ((-1 : Int32), st)) else (nm ((st.1 122 38) ^^^ (-1 : Int32)) (fun x6 => fX9_rate_L38 L p1 10000 x6 (100 : Int32) st))))
set_option maxRecDepth 100000 in
theorem tX9_rate (l : Launch) (E : Ev) (st : St) (sz : Nat) (hL : ∀ k, fxC k = true → k ∈ eL E) {L : List Nat} (hLL : L = eL E) (p1 : Int32) {res : (Int32 × St)} (hf : fX9_rate L p1 st = some res) : Met l yX9_rate (.code yX9_rate cX9_rate 4 (some .int) :: uW) (rmk 6) (va_Pc [.ref (eq E 0), .int p1] (Pre E st sz)) (QWi E res.2 sz res.1) 0 0 (Af E sz) := by
  refine Met_in (by decide) (Nat.le_of_ble_eq_true rfl) ?_
  intro p e s m below meth c X hr hlk hz G ls hl
  have hx := X.1.1
  have hb := X.1.2.1
  have hl : lv_has ls 4 [(0, .ref (eq E 0)), (1, .int p1)] := hl
  unfold fX9_rate at hf
  refine lv_aload_n hx hb dX9_rate_0 rfl (lv_at hl 0 rfl) ?_
  refine gf9 X G (hL 0 rfl) rfl 7 (by decide) rfl kf_X9_52 iwX9 dX9_rate_1 ?_
  refine gf2 X G (hL 120 rfl) rfl 0 (by decide) rfl kf_X9_62 iwX2 dX9_rate_4 ?_
  refine gf1 X G (hL 134 rfl) rfl 0 (by decide) rfl kf_X9_146 iwX1 dX9_rate_7 ?_
  refine lv_if_eq (tgt := 20) hx hb dX9_rate_10 (by decide) (fun c1 => ?_) (fun c1 => ?_)
  · have hf := it_t hf c1
    refine lv_iconst (v := (-1 : Int32)) hx hb dX9_rate_20 (by decide) ?_
    exact rtWi X hlk G hr (so_i hf) dX9_rate_21
  · have hf := it_f hf c1
    refine lv_iload_n hx hb dX9_rate_13 rfl (lv_at hl 1 rfl) ?_
    obtain ⟨x3, h2, hf⟩ := br_s hf
    refine cSRi (As := [.int p1]) (rest := []) X G kc_X9_219 (tX9_isTrialLength l E st _  p1 h2) rfl rfl (rmk_le (by omega) (by decide)) rfl hl.1 rfl (Nat.le_of_ble_eq_true rfl) dX9_rate_14 ⟨Nat.zero_le _, Nat.zero_le _⟩ ?_
    refine lv_if_ne (tgt := 22) hx hb dX9_rate_17 (by decide) (fun c4 => ?_) (fun c4 => ?_)
    · have hf := it_f hf c4
      refine lv_aload_n hx hb dX9_rate_22 rfl (lv_at hl 0 rfl) ?_
      refine gf9 X G (hL 0 rfl) rfl 7 (by decide) rfl kf_X9_52 iwX9 dX9_rate_23 ?_
      refine gf2 X G (hL 120 rfl) rfl 1 (by decide) rfl kf_X9_128 iwX2 dX9_rate_26 ?_
      refine lv_bipush (v := (38 : Int32)) hx hb dX9_rate_29 (by decide) ?_
      refine ia_ldc (k := 122) (n := 41) X G (hL 122 rfl) rfl (by decide) 38 (by decide) dX9_rate_31 ?_
      refine lv_iconst (v := (-1 : Int32)) hx hb dX9_rate_32 (by decide) ?_
      refine lv_ixor hx hb dX9_rate_33 ?_
      refine lv_topi (fun x6 ex6 => ?_)
      have hf := nm_s hf x6 ex6
      refine lv_istore_n (lv' := [(2, .int x6), (0, .ref (eq E 0)), (1, .int p1)]) hx hb dX9_rate_34 rfl hl (by decide) rfl (fun ls hl => ?_)
      refine lv_bipush (v := (100 : Int32)) hx hb dX9_rate_35 (by decide) ?_
      refine lv_istore_n (lv' := [(3, .int (100 : Int32)), (2, .int x6), (0, .ref (eq E 0)), (1, .int p1)]) hx hb dX9_rate_37 rfl hl (by decide) rfl (fun ls hl => ?_)
      exact wX9_rate_L38 hL hLL X hr hlk 10000 x6 (100 : Int32) st _ _ hf G _ (lv_sub hl [2, 3, 1, 0] rfl)
    · have hf := it_t hf c4
      refine lv_iconst (v := (-1 : Int32)) hx hb dX9_rate_20 (by decide) ?_
      exact rtWi X hlk G hr (so_i hf) dX9_rate_21
def fX9_allWarmth_B42 (st : St) (k4 : Int32 → Int32 → Option Int32) (y2 : Int32) (z0 : Int32) (z1 : Int32) : Option Int32 := nm (z1 + z0) (fun x1 => nm (y2 + (1 : Int32)) (fun x2 => k4 x1 x2))
set_option maxRecDepth 100000 in
theorem wX9_allWarmth_B42 {p : Program} {l : Launch} {e : Env} {s : State} {m : MethodId} {args : Array Value} {below : List Frame} {meth : Method} {c : Code} {E : Ev} (hL : ∀ k, fxC k = true → k ∈ eL E) {st : St} {sz : Nat} {res : Int32} (X : CX p s m args c E RX9 cX9_allWarmth 3 (Af E sz)) (hr : meth.sig.returnType = (some .int)) (hlk : meth.locks = false) (G : Gd E st (Af E sz) s s.heap []) {k4 : Int32 → Int32 → Option Int32} (hk4 : ∀ (y1 : Int32) (y2 : Int32), k4 y1 y2 = some res → ∀ ls : Array Slot, lv_has ls 3 [(0, .ref (eq E 0)), (1, .int y1), (2, .int y2)] → W p l e (rmk 1) s m args below meth c s.heap [] 0 0 (MQ below (QRi res) args s 0 0 (NoF)) (F0 m 4 ls [])) : ∀ (y2 : Int32) (z0 : Int32) (z1 : Int32), fX9_allWarmth_B42 st k4 y2 z0 z1 = some res → ∀ ls : Array Slot, lv_has ls 3 [(0, .ref (eq E 0)), (2, .int y2)] → W p l e (rmk 1) s m args below meth c s.heap [] 0 0 (MQ below (QRi res) args s 0 0 (NoF)) (F0 m 42 ls [.int z0, .int z1]) := by
  have hx := X.1.1
  have hb := X.1.2.1
  intro y2 z0 z1 hf ls hl
  unfold fX9_allWarmth_B42 at hf
  refine lv_iadd hx hb dX9_allWarmth_42 ?_
  refine lv_topi (fun x1 ex1 => ?_)
  have hf := nm_s hf x1 ex1
  refine lv_istore_n (lv' := [(1, .int x1), (0, .ref (eq E 0)), (2, .int y2)]) hx hb dX9_allWarmth_43 rfl hl (by decide) rfl (fun ls hl => ?_)
  obtain ⟨x2, ex2⟩ : ∃ y : Int32, y = (y2 + (1 : Int32)) := ⟨_, rfl⟩
  have hf := nm_s hf x2 ex2
  refine lv_iinc (k := 2) (v := x2) (lv' := [(2, .int x2), (1, .int x1), (0, .ref (eq E 0))]) hx hb dX9_allWarmth_44 hl rfl (by rw [ex2]; rfl) (by decide) rfl (fun ls hl => ?_)
  refine lv_goto (tgt := 4) hx hb dX9_allWarmth_47 (by decide) ?_
  exact hk4 x1 x2 hf _ (lv_sub hl [2, 1, 0] rfl)
def fX9_allWarmth_L4 (st : St) : Nat → Int32 → Int32 → Option Int32
  | 0, _, _ => none
  | n + 1, y1, y2 => if (st.1 134 4) ≤ y2 then (some y1) else (br (fX9_isFrozen st y2) (fun x3 => if x3 = 0 then (gd (ix ((0 : Int32) + y2) 41) (fX9_allWarmth_B42 st (fX9_allWarmth_L4 st n) y2 (st.1 122 ((0 : Int32) + y2).toNatClampNeg) y1)) else (fX9_allWarmth_B42 st (fX9_allWarmth_L4 st n) y2 (0 : Int32) y1)))
set_option maxRecDepth 100000 in
theorem wX9_allWarmth_L4 {p : Program} {l : Launch} {e : Env} {s : State} {m : MethodId} {args : Array Value} {below : List Frame} {meth : Method} {c : Code} {E : Ev} (hL : ∀ k, fxC k = true → k ∈ eL E) {st : St} {sz : Nat} {res : Int32} (X : CX p s m args c E RX9 cX9_allWarmth 3 (Af E sz)) (hr : meth.sig.returnType = (some .int)) (hlk : meth.locks = false) (G : Gd E st (Af E sz) s s.heap []) : ∀ (n : Nat) (y1 : Int32) (y2 : Int32), fX9_allWarmth_L4 st  n y1 y2 = some res → ∀ ls : Array Slot, lv_has ls 3 [(0, .ref (eq E 0)), (1, .int y1), (2, .int y2)] → W p l e (rmk 1) s m args below meth c s.heap [] 0 0 (MQ below (QRi res) args s 0 0 (NoF)) (F0 m 4 ls []) := by
  have hx := X.1.1
  have hb := X.1.2.1
  intro n
  induction n with
  | zero =>
    intro y1 y2 hf ls hl
    cases (show (none : Option Int32) = some res from hf)
  | succ n ih =>
    intro y1 y2 hf ls hl
    rw [fX9_allWarmth_L4] at hf
    refine lv_iload_n hx hb dX9_allWarmth_4 rfl (lv_at hl 2 rfl) ?_
    refine lv_aload_n hx hb dX9_allWarmth_5 rfl (lv_at hl 0 rfl) ?_
    refine gf9 X G (hL 0 rfl) rfl 7 (by decide) rfl kf_X9_52 iwX9 dX9_allWarmth_6 ?_
    refine gf2 X G (hL 120 rfl) rfl 0 (by decide) rfl kf_X9_62 iwX2 dX9_allWarmth_9 ?_
    refine gf1 X G (hL 134 rfl) rfl 4 (by decide) rfl kf_X9_111 iwX1 dX9_allWarmth_12 ?_
    refine lv_icmp_ge (tgt := 50) hx hb dX9_allWarmth_15 (by decide) (fun c1 => ?_) (fun c1 => ?_)
    · have hf := it_t hf c1
      refine lv_iload_n hx hb dX9_allWarmth_50 rfl (lv_at hl 1 rfl) ?_
      exact rtRi X hlk hr (so_i hf) dX9_allWarmth_51
    · have hf := it_f hf c1
      refine lv_iload_n hx hb dX9_allWarmth_18 rfl (lv_at hl 1 rfl) ?_
      refine lv_aload_n hx hb dX9_allWarmth_19 rfl (lv_at hl 0 rfl) ?_
      refine lv_iload_n hx hb dX9_allWarmth_20 rfl (lv_at hl 2 rfl) ?_
      obtain ⟨x3, h2, hf⟩ := br_s hf
      refine cVRi (As := [.int y2]) (rest := [.int y1]) X G kc_X9_134 (tX9_isFrozen l E st _ hL  y2 h2) (rcv X G (hL 0 rfl) (cO9 rfl) rfl) rfl rfl (rmk_le (by omega) (by decide)) rfl hl.1 rfl (Nat.le_of_ble_eq_true rfl) dX9_allWarmth_21 ⟨Nat.zero_le _, Nat.zero_le _⟩ ?_
      refine lv_if_eq (tgt := 31) hx hb dX9_allWarmth_24 (by decide) (fun c4 => ?_) (fun c4 => ?_)
      · have hf := it_t hf c4
        refine lv_aload_n hx hb dX9_allWarmth_31 rfl (lv_at hl 0 rfl) ?_
        refine gf9 X G (hL 0 rfl) rfl 7 (by decide) rfl kf_X9_52 iwX9 dX9_allWarmth_32 ?_
        refine gf2 X G (hL 120 rfl) rfl 1 (by decide) rfl kf_X9_128 iwX2 dX9_allWarmth_35 ?_
        refine lv_iconst (v := (0 : Int32)) hx hb dX9_allWarmth_38 (by decide) ?_
        refine lv_iload_n hx hb dX9_allWarmth_39 rfl (lv_at hl 2 rfl) ?_
        refine lv_iadd hx hb dX9_allWarmth_40 ?_
        obtain ⟨h5, hf⟩ := gd_s hf
        refine ia_ld (k := 122) (n := 41) X G (hL 122 rfl) rfl (by decide) (ix_in h5) dX9_allWarmth_41 ?_
        exact wX9_allWarmth_B42 hL X hr hlk G ih y2 (st.1 122 ((0 : Int32) + y2).toNatClampNeg) y1 hf _ (lv_sub hl [0, 2] rfl)
      · have hf := it_f hf c4
        refine lv_iconst (v := (0 : Int32)) hx hb dX9_allWarmth_27 (by decide) ?_
        refine lv_goto (tgt := 42) hx hb dX9_allWarmth_28 (by decide) ?_
        exact wX9_allWarmth_B42 hL X hr hlk G ih y2 (0 : Int32) y1 hf _ (lv_sub hl [0, 2] rfl)
def fX9_allWarmth (st : St) : Option Int32 := fX9_allWarmth_L4 st 10000 (0 : Int32) (0 : Int32)
set_option maxRecDepth 100000 in
theorem tX9_allWarmth (l : Launch) (E : Ev) (st : St) (sz : Nat) (hL : ∀ k, fxC k = true → k ∈ eL E)  {res : Int32} (hf : fX9_allWarmth st  = some res) : Met l yX9_allWarmth (.code yX9_allWarmth cX9_allWarmth 3 (some .int) :: uW) (rmk 1) (va_Pc [.ref (eq E 0)] (Pre E st sz)) (QRi res) 0 0 (NoF) := by
  refine Met_in (by decide) (Nat.le_of_ble_eq_true rfl) ?_
  intro p e s m below meth c X hr hlk hz G ls hl
  have hx := X.1.1
  have hb := X.1.2.1
  have hl : lv_has ls 3 [(0, .ref (eq E 0))] := hl
  unfold fX9_allWarmth at hf
  refine lv_iconst (v := (0 : Int32)) hx hb dX9_allWarmth_0 (by decide) ?_
  refine lv_istore_n (lv' := [(1, .int (0 : Int32)), (0, .ref (eq E 0))]) hx hb dX9_allWarmth_1 rfl hl (by decide) rfl (fun ls hl => ?_)
  refine lv_iconst (v := (0 : Int32)) hx hb dX9_allWarmth_2 (by decide) ?_
  refine lv_istore_n (lv' := [(2, .int (0 : Int32)), (1, .int (0 : Int32)), (0, .ref (eq E 0))]) hx hb dX9_allWarmth_3 rfl hl (by decide) rfl (fun ls hl => ?_)
  exact wX9_allWarmth_L4 hL X hr hlk G 10000 (0 : Int32) (0 : Int32) hf _ (lv_sub hl [2, 1, 0] rfl)
def fX9_levy_L67 (p1 : Int32) (p2 : Int32) (st : St) : Nat → Int32 → Int32 → Int32 → Int32 → Int32 → Option Int32
  | 0, _, _, _, _, _ => none
  | n + 1, y3, y4, y5, y6, y7 => if (st.1 134 4) ≤ y7 then (gd (ix ((0 : Int32) + p2) 41) (gd (nz y3) (nm ((p1 * (st.1 122 ((0 : Int32) + p2).toNatClampNeg)) / y3) (fun x4 => if y4 ≤ y5 then (some x4) else (some (x4 + (1 : Int32))))))) else (br (fX9_isFrozen st y7) (fun x3 => if x3 = 0 then (gd (ix ((0 : Int32) + y7) 41) (nm (p1 * (st.1 122 ((0 : Int32) + y7).toNatClampNeg)) (fun x6 => gd (nz y3) (nm (y4 - (x6 / y3)) (fun x8 => gd (nz y3) (if y6 < (irm x6 y3) then (nm (y5 + (1 : Int32)) (fun x11 => nm (y7 + (1 : Int32)) (fun x12 => (fX9_levy_L67 p1 p2 st n) y3 x8 x11 y6 x12))) else (gd (nz y3) (if (irm x6 y3) = y6 then (if p2 ≤ y7 then (nm (y7 + (1 : Int32)) (fun x14 => (fX9_levy_L67 p1 p2 st n) y3 x8 y5 y6 x14)) else (nm (y5 + (1 : Int32)) (fun x14 => nm (y7 + (1 : Int32)) (fun x15 => (fX9_levy_L67 p1 p2 st n) y3 x8 x14 y6 x15)))) else (nm (y7 + (1 : Int32)) (fun x13 => (fX9_levy_L67 p1 p2 st n) y3 x8 y5 y6 x13)))))))))) else (nm (y7 + (1 : Int32)) (fun x5 => (fX9_levy_L67 p1 p2 st n) y3 y4 y5 y6 x5))))
set_option maxRecDepth 100000 in
theorem wX9_levy_L67 {p : Program} {l : Launch} {e : Env} {s : State} {m : MethodId} {args : Array Value} {below : List Frame} {meth : Method} {c : Code} {E : Ev} (hL : ∀ k, fxC k = true → k ∈ eL E) {p1 : Int32} {p2 : Int32} {st : St} {sz : Nat} {res : Int32} (X : CX p s m args c E RX9 cX9_levy 9 (Af E sz)) (hr : meth.sig.returnType = (some .int)) (hlk : meth.locks = false) (G : Gd E st (Af E sz) s s.heap []) : ∀ (n : Nat) (y3 : Int32) (y4 : Int32) (y5 : Int32) (y6 : Int32) (y7 : Int32), fX9_levy_L67 p1 p2 st  n y3 y4 y5 y6 y7 = some res → ∀ ls : Array Slot, lv_has ls 9 [(0, .ref (eq E 0)), (1, .int p1), (2, .int p2), (3, .int y3), (4, .int y4), (5, .int y5), (6, .int y6), (7, .int y7)] → W p l e (rmk 2) s m args below meth c s.heap [] 0 0 (MQ below (QRi res) args s 0 0 (NoF)) (F0 m 67 ls []) := by
  have hx := X.1.1
  have hb := X.1.2.1
  intro n
  induction n with
  | zero =>
    intro y3 y4 y5 y6 y7 hf ls hl
    cases (show (none : Option Int32) = some res from hf)
  | succ n ih =>
    intro y3 y4 y5 y6 y7 hf ls hl
    rw [fX9_levy_L67] at hf
    refine lv_iload hx hb dX9_levy_67 (lv_at hl 7 rfl) ?_
    refine lv_aload_n hx hb dX9_levy_69 rfl (lv_at hl 0 rfl) ?_
    refine gf9 X G (hL 0 rfl) rfl 7 (by decide) rfl kf_X9_52 iwX9 dX9_levy_70 ?_
    refine gf2 X G (hL 120 rfl) rfl 0 (by decide) rfl kf_X9_62 iwX2 dX9_levy_73 ?_
    refine gf1 X G (hL 134 rfl) rfl 4 (by decide) rfl kf_X9_111 iwX1 dX9_levy_76 ?_
    refine lv_icmp_ge (tgt := 152) hx hb dX9_levy_79 (by decide) (fun c1 => ?_) (fun c1 => ?_)
    · have hf := it_t hf c1
      refine lv_iload_n hx hb dX9_levy_152 rfl (lv_at hl 1 rfl) ?_
      refine lv_aload_n hx hb dX9_levy_153 rfl (lv_at hl 0 rfl) ?_
      refine gf9 X G (hL 0 rfl) rfl 7 (by decide) rfl kf_X9_52 iwX9 dX9_levy_154 ?_
      refine gf2 X G (hL 120 rfl) rfl 1 (by decide) rfl kf_X9_128 iwX2 dX9_levy_157 ?_
      refine lv_iconst (v := (0 : Int32)) hx hb dX9_levy_160 (by decide) ?_
      refine lv_iload_n hx hb dX9_levy_161 rfl (lv_at hl 2 rfl) ?_
      refine lv_iadd hx hb dX9_levy_162 ?_
      obtain ⟨h2, hf⟩ := gd_s hf
      refine ia_ld (k := 122) (n := 41) X G (hL 122 rfl) rfl (by decide) (ix_in h2) dX9_levy_163 ?_
      refine lv_imul hx hb dX9_levy_164 ?_
      refine lv_iload_n hx hb dX9_levy_165 rfl (lv_at hl 3 rfl) ?_
      obtain ⟨h3, hf⟩ := gd_s hf
      refine lv_idiv hx hb dX9_levy_166 (nz_n h3) ?_
      refine lv_topi (fun x4 ex4 => ?_)
      have hf := nm_s hf x4 ex4
      refine lv_istore (lv' := [(7, .int x4), (0, .ref (eq E 0)), (1, .int p1), (2, .int p2), (3, .int y3), (4, .int y4), (5, .int y5), (6, .int y6)]) hx hb dX9_levy_167 hl (by decide) rfl (fun ls hl => ?_)
      refine lv_iload hx hb dX9_levy_169 (lv_at hl 6 rfl) ?_
      refine lv_iload hx hb dX9_levy_171 (lv_at hl 5 rfl) ?_
      refine lv_icmp_ge (tgt := 183) hx hb dX9_levy_173 (by decide) (fun c5 => ?_) (fun c5 => ?_)
      · have hf := it_t hf c5
        refine lv_iload hx hb dX9_levy_183 (lv_at hl 0 rfl) ?_
        exact rtRi X hlk hr (so_i hf) dX9_levy_185
      · have hf := it_f hf c5
        refine lv_iload hx hb dX9_levy_176 (lv_at hl 0 rfl) ?_
        refine lv_iconst (v := (1 : Int32)) hx hb dX9_levy_178 (by decide) ?_
        refine lv_iadd hx hb dX9_levy_179 ?_
        refine lv_goto (tgt := 185) hx hb dX9_levy_180 (by decide) ?_
        exact rtRi X hlk hr (so_i hf) dX9_levy_185
    · have hf := it_f hf c1
      refine lv_aload_n hx hb dX9_levy_82 rfl (lv_at hl 0 rfl) ?_
      refine lv_iload hx hb dX9_levy_83 (lv_at hl 7 rfl) ?_
      obtain ⟨x3, h2, hf⟩ := br_s hf
      refine cVRi (As := [.int y7]) (rest := []) X G kc_X9_134 (tX9_isFrozen l E st _ hL  y7 h2) (rcv X G (hL 0 rfl) (cO9 rfl) rfl) rfl rfl (rmk_le (by omega) (by decide)) rfl hl.1 rfl (Nat.le_of_ble_eq_true rfl) dX9_levy_85 ⟨Nat.zero_le _, Nat.zero_le _⟩ ?_
      refine lv_if_eq (tgt := 94) hx hb dX9_levy_88 (by decide) (fun c4 => ?_) (fun c4 => ?_)
      · have hf := it_t hf c4
        refine lv_iload_n hx hb dX9_levy_94 rfl (lv_at hl 1 rfl) ?_
        refine lv_aload_n hx hb dX9_levy_95 rfl (lv_at hl 0 rfl) ?_
        refine gf9 X G (hL 0 rfl) rfl 7 (by decide) rfl kf_X9_52 iwX9 dX9_levy_96 ?_
        refine gf2 X G (hL 120 rfl) rfl 1 (by decide) rfl kf_X9_128 iwX2 dX9_levy_99 ?_
        refine lv_iconst (v := (0 : Int32)) hx hb dX9_levy_102 (by decide) ?_
        refine lv_iload hx hb dX9_levy_103 (lv_at hl 7 rfl) ?_
        refine lv_iadd hx hb dX9_levy_105 ?_
        obtain ⟨h5, hf⟩ := gd_s hf
        refine ia_ld (k := 122) (n := 41) X G (hL 122 rfl) rfl (by decide) (ix_in h5) dX9_levy_106 ?_
        refine lv_imul hx hb dX9_levy_107 ?_
        refine lv_topi (fun x6 ex6 => ?_)
        have hf := nm_s hf x6 ex6
        refine lv_istore (lv' := [(8, .int x6), (0, .ref (eq E 0)), (1, .int p1), (2, .int p2), (3, .int y3), (4, .int y4), (5, .int y5), (6, .int y6), (7, .int y7)]) hx hb dX9_levy_108 hl (by decide) rfl (fun ls hl => ?_)
        refine lv_iload hx hb dX9_levy_110 (lv_at hl 5 rfl) ?_
        refine lv_iload hx hb dX9_levy_112 (lv_at hl 0 rfl) ?_
        refine lv_iload_n hx hb dX9_levy_114 rfl (lv_at hl 4 rfl) ?_
        obtain ⟨h7, hf⟩ := gd_s hf
        refine lv_idiv hx hb dX9_levy_115 (nz_n h7) ?_
        refine lv_isub hx hb dX9_levy_116 ?_
        refine lv_topi (fun x8 ex8 => ?_)
        have hf := nm_s hf x8 ex8
        refine lv_istore (lv' := [(4, .int x8), (8, .int x6), (0, .ref (eq E 0)), (1, .int p1), (2, .int p2), (3, .int y3), (5, .int y5), (6, .int y6), (7, .int y7)]) hx hb dX9_levy_117 hl (by decide) rfl (fun ls hl => ?_)
        refine lv_iload hx hb dX9_levy_119 (lv_at hl 1 rfl) ?_
        refine lv_iload_n hx hb dX9_levy_121 rfl (lv_at hl 5 rfl) ?_
        obtain ⟨h9, hf⟩ := gd_s hf
        refine lv_irem hx hb dX9_levy_122 (nz_n h9) ?_
        refine lv_iload hx hb dX9_levy_123 (lv_at hl 7 rfl) ?_
        refine lv_icmp_gt (tgt := 143) hx hb dX9_levy_125 (by decide) (fun c10 => ?_) (fun c10 => ?_)
        · have hf := it_t hf c10
          obtain ⟨x11, ex11⟩ : ∃ y : Int32, y = (y5 + (1 : Int32)) := ⟨_, rfl⟩
          have hf := nm_s hf x11 ex11
          refine lv_iinc (k := 6) (v := x11) (lv' := [(5, .int x11), (4, .int x8), (8, .int x6), (0, .ref (eq E 0)), (1, .int p1), (2, .int p2), (3, .int y3), (6, .int y6), (7, .int y7)]) hx hb dX9_levy_143 hl rfl (by rw [ex11]; rfl) (by decide) rfl (fun ls hl => ?_)
          obtain ⟨x12, ex12⟩ : ∃ y : Int32, y = (y7 + (1 : Int32)) := ⟨_, rfl⟩
          have hf := nm_s hf x12 ex12
          refine lv_iinc (k := 8) (v := x12) (lv' := [(7, .int x12), (5, .int x11), (4, .int x8), (8, .int x6), (0, .ref (eq E 0)), (1, .int p1), (2, .int p2), (3, .int y3), (6, .int y6)]) hx hb dX9_levy_146 hl rfl (by rw [ex12]; rfl) (by decide) rfl (fun ls hl => ?_)
          refine lv_goto (tgt := 67) hx hb dX9_levy_149 (by decide) ?_
          exact ih y3 x8 x11 y6 x12 hf _ (lv_sub hl [4, 5, 6, 7, 2, 1, 8, 0] rfl)
        · have hf := it_f hf c10
          refine lv_iload hx hb dX9_levy_128 (lv_at hl 1 rfl) ?_
          refine lv_iload_n hx hb dX9_levy_130 rfl (lv_at hl 5 rfl) ?_
          obtain ⟨h11, hf⟩ := gd_s hf
          refine lv_irem hx hb dX9_levy_131 (nz_n h11) ?_
          refine lv_iload hx hb dX9_levy_132 (lv_at hl 7 rfl) ?_
          refine lv_icmp_ne (tgt := 146) hx hb dX9_levy_134 (by decide) (fun c12 => ?_) (fun c12 => ?_)
          · have hf := it_f hf c12
            obtain ⟨x13, ex13⟩ : ∃ y : Int32, y = (y7 + (1 : Int32)) := ⟨_, rfl⟩
            have hf := nm_s hf x13 ex13
            refine lv_iinc (k := 8) (v := x13) (lv' := [(7, .int x13), (4, .int x8), (8, .int x6), (0, .ref (eq E 0)), (1, .int p1), (2, .int p2), (3, .int y3), (5, .int y5), (6, .int y6)]) hx hb dX9_levy_146 hl rfl (by rw [ex13]; rfl) (by decide) rfl (fun ls hl => ?_)
            refine lv_goto (tgt := 67) hx hb dX9_levy_149 (by decide) ?_
            exact ih y3 x8 y5 y6 x13 hf _ (lv_sub hl [3, 4, 5, 6, 1, 7, 8, 0] rfl)
          · have hf := it_t hf c12
            refine lv_iload hx hb dX9_levy_137 (lv_at hl 8 rfl) ?_
            refine lv_iload_n hx hb dX9_levy_139 rfl (lv_at hl 4 rfl) ?_
            refine lv_icmp_ge (tgt := 146) hx hb dX9_levy_140 (by decide) (fun c13 => ?_) (fun c13 => ?_)
            · have hf := it_t hf c13
              obtain ⟨x14, ex14⟩ : ∃ y : Int32, y = (y7 + (1 : Int32)) := ⟨_, rfl⟩
              have hf := nm_s hf x14 ex14
              refine lv_iinc (k := 8) (v := x14) (lv' := [(7, .int x14), (4, .int x8), (8, .int x6), (0, .ref (eq E 0)), (1, .int p1), (2, .int p2), (3, .int y3), (5, .int y5), (6, .int y6)]) hx hb dX9_levy_146 hl rfl (by rw [ex14]; rfl) (by decide) rfl (fun ls hl => ?_)
              refine lv_goto (tgt := 67) hx hb dX9_levy_149 (by decide) ?_
              exact ih y3 x8 y5 y6 x14 hf _ (lv_sub hl [3, 4, 5, 6, 1, 7, 8, 0] rfl)
            · have hf := it_f hf c13
              obtain ⟨x14, ex14⟩ : ∃ y : Int32, y = (y5 + (1 : Int32)) := ⟨_, rfl⟩
              have hf := nm_s hf x14 ex14
              refine lv_iinc (k := 6) (v := x14) (lv' := [(5, .int x14), (4, .int x8), (8, .int x6), (0, .ref (eq E 0)), (1, .int p1), (2, .int p2), (3, .int y3), (6, .int y6), (7, .int y7)]) hx hb dX9_levy_143 hl rfl (by rw [ex14]; rfl) (by decide) rfl (fun ls hl => ?_)
              obtain ⟨x15, ex15⟩ : ∃ y : Int32, y = (y7 + (1 : Int32)) := ⟨_, rfl⟩
              have hf := nm_s hf x15 ex15
              refine lv_iinc (k := 8) (v := x15) (lv' := [(7, .int x15), (5, .int x14), (4, .int x8), (8, .int x6), (0, .ref (eq E 0)), (1, .int p1), (2, .int p2), (3, .int y3), (6, .int y6)]) hx hb dX9_levy_146 hl rfl (by rw [ex15]; rfl) (by decide) rfl (fun ls hl => ?_)
              refine lv_goto (tgt := 67) hx hb dX9_levy_149 (by decide) ?_
              exact ih y3 x8 x14 y6 x15 hf _ (lv_sub hl [4, 5, 6, 7, 2, 1, 8, 0] rfl)
      · have hf := it_f hf c4
        refine lv_goto (tgt := 146) hx hb dX9_levy_91 (by decide) ?_
        obtain ⟨x5, ex5⟩ : ∃ y : Int32, y = (y7 + (1 : Int32)) := ⟨_, rfl⟩
        have hf := nm_s hf x5 ex5
        refine lv_iinc (k := 7) (v := x5) (lv' := [(7, .int x5), (0, .ref (eq E 0)), (1, .int p1), (2, .int p2), (3, .int y3), (4, .int y4), (5, .int y5), (6, .int y6)]) hx hb dX9_levy_146 hl rfl (by rw [ex5]; rfl) (by decide) rfl (fun ls hl => ?_)
        refine lv_goto (tgt := 67) hx hb dX9_levy_149 (by decide) ?_
        exact ih y3 y4 y5 y6 x5 hf _ (lv_sub hl [1, 2, 3, 4, 5, 6, 7, 0] rfl)
def fX9_levy (st : St) (p1 : Int32) (p2 : Int32) : Option Int32 := br (fX9_isHouse st p2) (fun x2 => if x2 = 0 then (some (-1 : Int32)) else (if p1 < 0 then (some (-1 : Int32)) else (if p1 ≤ (9999 : Int32) then (br (fX9_allWarmth st) (fun x7 => br (fX9_isFrozen st p2) (fun x9 => if x9 = 0 then (if (1 : Int32) ≤ x7 then (gd (ix ((0 : Int32) + p2) 41) (gd (nz x7) (nm (irm (p1 * (st.1 122 ((0 : Int32) + p2).toNatClampNeg)) x7) (fun x14 => fX9_levy_L67 p1 p2 st 10000 x7 p1 (0 : Int32) x14 (0 : Int32))))) else (some (0 : Int32))) else (some (0 : Int32))))) else (some (-1 : Int32)))))
set_option maxRecDepth 100000 in
theorem tX9_levy (l : Launch) (E : Ev) (st : St) (sz : Nat) (hL : ∀ k, fxC k = true → k ∈ eL E) (p1 : Int32) (p2 : Int32) {res : Int32} (hf : fX9_levy st p1 p2 = some res) : Met l yX9_levy (.code yX9_levy cX9_levy 9 (some .int) :: uW) (rmk 2) (va_Pc [.ref (eq E 0), .int p1, .int p2] (Pre E st sz)) (QRi res) 0 0 (NoF) := by
  refine Met_in (by decide) (Nat.le_of_ble_eq_true rfl) ?_
  intro p e s m below meth c X hr hlk hz G ls hl
  have hx := X.1.1
  have hb := X.1.2.1
  have hl : lv_has ls 9 [(0, .ref (eq E 0)), (1, .int p1), (2, .int p2)] := hl
  unfold fX9_levy at hf
  refine lv_aload_n hx hb dX9_levy_0 rfl (lv_at hl 0 rfl) ?_
  refine lv_iload_n hx hb dX9_levy_1 rfl (lv_at hl 2 rfl) ?_
  obtain ⟨x2, h1, hf⟩ := br_s hf
  refine cVRi (As := [.int p2]) (rest := []) X G kc_X9_124 (tX9_isHouse l E st _ hL  p2 h1) (rcv X G (hL 0 rfl) (cO9 rfl) rfl) rfl rfl (rmk_le (by omega) (by decide)) rfl hl.1 rfl (Nat.le_of_ble_eq_true rfl) dX9_levy_2 ⟨Nat.zero_le _, Nat.zero_le _⟩ ?_
  refine lv_if_eq (tgt := 19) hx hb dX9_levy_5 (by decide) (fun c3 => ?_) (fun c3 => ?_)
  · have hf := it_t hf c3
    refine lv_iconst (v := (-1 : Int32)) hx hb dX9_levy_19 (by decide) ?_
    exact rtRi X hlk hr (so_i hf) dX9_levy_20
  · have hf := it_f hf c3
    refine lv_iload_n hx hb dX9_levy_8 rfl (lv_at hl 1 rfl) ?_
    refine lv_if_lt (tgt := 19) hx hb dX9_levy_9 (by decide) (fun c4 => ?_) (fun c4 => ?_)
    · have hf := it_t hf c4
      refine lv_iconst (v := (-1 : Int32)) hx hb dX9_levy_19 (by decide) ?_
      exact rtRi X hlk hr (so_i hf) dX9_levy_20
    · have hf := it_f hf c4
      refine lv_iload_n hx hb dX9_levy_12 rfl (lv_at hl 1 rfl) ?_
      refine lv_sipush (v := (9999 : Int32)) hx hb dX9_levy_13 (by decide) ?_
      refine lv_icmp_le (tgt := 21) hx hb dX9_levy_16 (by decide) (fun c5 => ?_) (fun c5 => ?_)
      · have hf := it_t hf c5
        refine lv_aload_n hx hb dX9_levy_21 rfl (lv_at hl 0 rfl) ?_
        obtain ⟨x7, h6, hf⟩ := br_s hf
        refine cVRi (As := []) (rest := []) X G kc_X9_228 (tX9_allWarmth l E st _ hL   h6) (rcv X G (hL 0 rfl) (cO9 rfl) rfl) rfl rfl (rmk_le (by omega) (by decide)) rfl hl.1 rfl (Nat.le_of_ble_eq_true rfl) dX9_levy_22 ⟨Nat.zero_le _, Nat.zero_le _⟩ ?_
        refine lv_istore_n (lv' := [(3, .int x7), (0, .ref (eq E 0)), (1, .int p1), (2, .int p2)]) hx hb dX9_levy_25 rfl hl (by decide) rfl (fun ls hl => ?_)
        refine lv_aload_n hx hb dX9_levy_26 rfl (lv_at hl 1 rfl) ?_
        refine lv_iload_n hx hb dX9_levy_27 rfl (lv_at hl 3 rfl) ?_
        obtain ⟨x9, h8, hf⟩ := br_s hf
        refine cVRi (As := [.int p2]) (rest := []) X G kc_X9_134 (tX9_isFrozen l E st _ hL  p2 h8) (rcv X G (hL 0 rfl) (cO9 rfl) rfl) rfl rfl (rmk_le (by omega) (by decide)) rfl hl.1 rfl (Nat.le_of_ble_eq_true rfl) dX9_levy_28 ⟨Nat.zero_le _, Nat.zero_le _⟩ ?_
        refine lv_if_ne (tgt := 39) hx hb dX9_levy_31 (by decide) (fun c10 => ?_) (fun c10 => ?_)
        · have hf := it_f hf c10
          refine lv_iconst (v := (0 : Int32)) hx hb dX9_levy_39 (by decide) ?_
          exact rtRi X hlk hr (so_i hf) dX9_levy_40
        · have hf := it_t hf c10
          refine lv_iload_n hx hb dX9_levy_34 rfl (lv_at hl 0 rfl) ?_
          refine lv_iconst (v := (1 : Int32)) hx hb dX9_levy_35 (by decide) ?_
          refine lv_icmp_ge (tgt := 41) hx hb dX9_levy_36 (by decide) (fun c11 => ?_) (fun c11 => ?_)
          · have hf := it_t hf c11
            refine lv_iload_n hx hb dX9_levy_41 rfl (lv_at hl 2 rfl) ?_
            refine lv_istore (lv' := [(4, .int p1), (3, .int x7), (0, .ref (eq E 0)), (1, .int p1), (2, .int p2)]) hx hb dX9_levy_42 hl (by decide) rfl (fun ls hl => ?_)
            refine lv_iconst (v := (0 : Int32)) hx hb dX9_levy_44 (by decide) ?_
            refine lv_istore (lv' := [(5, .int (0 : Int32)), (4, .int p1), (3, .int x7), (0, .ref (eq E 0)), (1, .int p1), (2, .int p2)]) hx hb dX9_levy_45 hl (by decide) rfl (fun ls hl => ?_)
            refine lv_iload_n hx hb dX9_levy_47 rfl (lv_at hl 4 rfl) ?_
            refine lv_aload_n hx hb dX9_levy_48 rfl (lv_at hl 3 rfl) ?_
            refine gf9 X G (hL 0 rfl) rfl 7 (by decide) rfl kf_X9_52 iwX9 dX9_levy_49 ?_
            refine gf2 X G (hL 120 rfl) rfl 1 (by decide) rfl kf_X9_128 iwX2 dX9_levy_52 ?_
            refine lv_iconst (v := (0 : Int32)) hx hb dX9_levy_55 (by decide) ?_
            refine lv_iload_n hx hb dX9_levy_56 rfl (lv_at hl 5 rfl) ?_
            refine lv_iadd hx hb dX9_levy_57 ?_
            obtain ⟨h12, hf⟩ := gd_s hf
            refine ia_ld (k := 122) (n := 41) X G (hL 122 rfl) rfl (by decide) (ix_in h12) dX9_levy_58 ?_
            refine lv_imul hx hb dX9_levy_59 ?_
            refine lv_iload_n hx hb dX9_levy_60 rfl (lv_at hl 2 rfl) ?_
            obtain ⟨h13, hf⟩ := gd_s hf
            refine lv_irem hx hb dX9_levy_61 (nz_n h13) ?_
            refine lv_topi (fun x14 ex14 => ?_)
            have hf := nm_s hf x14 ex14
            refine lv_istore (lv' := [(6, .int x14), (5, .int (0 : Int32)), (4, .int p1), (3, .int x7), (0, .ref (eq E 0)), (1, .int p1), (2, .int p2)]) hx hb dX9_levy_62 hl (by decide) rfl (fun ls hl => ?_)
            refine lv_iconst (v := (0 : Int32)) hx hb dX9_levy_64 (by decide) ?_
            refine lv_istore (lv' := [(7, .int (0 : Int32)), (6, .int x14), (5, .int (0 : Int32)), (4, .int p1), (3, .int x7), (0, .ref (eq E 0)), (1, .int p1), (2, .int p2)]) hx hb dX9_levy_65 hl (by decide) rfl (fun ls hl => ?_)
            exact wX9_levy_L67 hL X hr hlk G 10000 x7 p1 (0 : Int32) x14 (0 : Int32) hf _ (lv_sub hl [5, 6, 7, 4, 3, 2, 1, 0] rfl)
          · have hf := it_f hf c11
            refine lv_iconst (v := (0 : Int32)) hx hb dX9_levy_39 (by decide) ?_
            exact rtRi X hlk hr (so_i hf) dX9_levy_40
      · have hf := it_f hf c5
        refine lv_iconst (v := (-1 : Int32)) hx hb dX9_levy_19 (by decide) ?_
        exact rtRi X hlk hr (so_i hf) dX9_levy_20
def fX9_lanesBetween_B74 (p1 : Int32) (p2 : Int32) (st : St) (k7 : Int32 → Int32 → Option Int32) (k31 : Int32 → Int32 → Int32 → Int32 → Option Int32) (y4 : Int32) (y5 : Int32) (y6 : Int32) (z0 : Int32) (z1 : Int32) : Option Int32 := nm (z1 ||| z0) (fun x1 => nm (y6 + (1 : Int32)) (fun x2 => k31 x1 y4 y5 x2))
set_option maxRecDepth 100000 in
theorem wX9_lanesBetween_B74 {p : Program} {l : Launch} {e : Env} {s : State} {m : MethodId} {args : Array Value} {below : List Frame} {meth : Method} {c : Code} {E : Ev} (hL : ∀ k, fxC k = true → k ∈ eL E) {p1 : Int32} {p2 : Int32} {st : St} {sz : Nat} {res : Int32} (X : CX p s m args c E RX9 cX9_lanesBetween 7 (Af E sz)) (hr : meth.sig.returnType = (some .int)) (hlk : meth.locks = false) (G : Gd E st (Af E sz) s s.heap []) {k7 : Int32 → Int32 → Option Int32} (hk7 : ∀ (y3 : Int32) (y4 : Int32), k7 y3 y4 = some res → ∀ ls : Array Slot, lv_has ls 7 [(0, .ref (eq E 0)), (2, .int p2), (3, .int y3), (4, .int y4)] → W p l e (rmk 0) s m args below meth c s.heap [] 0 0 (MQ below (QRi res) args s 0 0 (NoF)) (F0 m 7 ls [])) {k31 : Int32 → Int32 → Int32 → Int32 → Option Int32} (hk31 : ∀ (y3 : Int32) (y4 : Int32) (y5 : Int32) (y6 : Int32), k31 y3 y4 y5 y6 = some res → ∀ ls : Array Slot, lv_has ls 7 [(0, .ref (eq E 0)), (2, .int p2), (3, .int y3), (4, .int y4), (5, .int y5), (6, .int y6)] → W p l e (rmk 0) s m args below meth c s.heap [] 0 0 (MQ below (QRi res) args s 0 0 (NoF)) (F0 m 31 ls [])) : ∀ (y4 : Int32) (y5 : Int32) (y6 : Int32) (z0 : Int32) (z1 : Int32), fX9_lanesBetween_B74 p1 p2 st k7 k31 y4 y5 y6 z0 z1 = some res → ∀ ls : Array Slot, lv_has ls 7 [(0, .ref (eq E 0)), (2, .int p2), (4, .int y4), (5, .int y5), (6, .int y6)] → W p l e (rmk 0) s m args below meth c s.heap [] 0 0 (MQ below (QRi res) args s 0 0 (NoF)) (F0 m 74 ls [.int z0, .int z1]) := by
  have hx := X.1.1
  have hb := X.1.2.1
  intro y4 y5 y6 z0 z1 hf ls hl
  unfold fX9_lanesBetween_B74 at hf
  refine lv_ior hx hb dX9_lanesBetween_74 ?_
  refine lv_topi (fun x1 ex1 => ?_)
  have hf := nm_s hf x1 ex1
  refine lv_istore_n (lv' := [(3, .int x1), (0, .ref (eq E 0)), (2, .int p2), (4, .int y4), (5, .int y5), (6, .int y6)]) hx hb dX9_lanesBetween_75 rfl hl (by decide) rfl (fun ls hl => ?_)
  obtain ⟨x2, ex2⟩ : ∃ y : Int32, y = (y6 + (1 : Int32)) := ⟨_, rfl⟩
  have hf := nm_s hf x2 ex2
  refine lv_iinc (k := 5) (v := x2) (lv' := [(6, .int x2), (3, .int x1), (0, .ref (eq E 0)), (2, .int p2), (4, .int y4), (5, .int y5)]) hx hb dX9_lanesBetween_76 hl rfl (by rw [ex2]; rfl) (by decide) rfl (fun ls hl => ?_)
  refine lv_goto (tgt := 31) hx hb dX9_lanesBetween_79 (by decide) ?_
  exact hk31 x1 y4 y5 x2 hf _ (lv_sub hl [2, 3, 1, 4, 5, 0] rfl)
def fX9_lanesBetween_L31 (p1 : Int32) (p2 : Int32) (st : St) (k7 : Int32 → Int32 → Option Int32) : Nat → Int32 → Int32 → Int32 → Int32 → Option Int32
  | 0, _, _, _, _ => none
  | n + 1, y3, y4, y5, y6 => if (st.1 134 4) ≤ y6 then (nm (y4 + (1 : Int32)) (fun x2 => k7 y3 x2)) else (if ((y5 >>> (y6 &&& 31)) &&& (1 : Int32)) = 0 then (fX9_lanesBetween_B74 p1 p2 st k7 (fX9_lanesBetween_L31 p1 p2 st k7 n) y4 y5 y6 (0 : Int32) y3) else (gd (ix y6 8) (fX9_lanesBetween_B74 p1 p2 st k7 (fX9_lanesBetween_L31 p1 p2 st k7 n) y4 y5 y6 (st.1 144 y6.toNatClampNeg) y3)))
set_option maxRecDepth 100000 in
theorem wX9_lanesBetween_L31 {p : Program} {l : Launch} {e : Env} {s : State} {m : MethodId} {args : Array Value} {below : List Frame} {meth : Method} {c : Code} {E : Ev} (hL : ∀ k, fxC k = true → k ∈ eL E) {p1 : Int32} {p2 : Int32} {st : St} {sz : Nat} {res : Int32} (X : CX p s m args c E RX9 cX9_lanesBetween 7 (Af E sz)) (hr : meth.sig.returnType = (some .int)) (hlk : meth.locks = false) (G : Gd E st (Af E sz) s s.heap []) {k7 : Int32 → Int32 → Option Int32} (hk7 : ∀ (y3 : Int32) (y4 : Int32), k7 y3 y4 = some res → ∀ ls : Array Slot, lv_has ls 7 [(0, .ref (eq E 0)), (2, .int p2), (3, .int y3), (4, .int y4)] → W p l e (rmk 0) s m args below meth c s.heap [] 0 0 (MQ below (QRi res) args s 0 0 (NoF)) (F0 m 7 ls [])) : ∀ (n : Nat) (y3 : Int32) (y4 : Int32) (y5 : Int32) (y6 : Int32), fX9_lanesBetween_L31 p1 p2 st k7 n y3 y4 y5 y6 = some res → ∀ ls : Array Slot, lv_has ls 7 [(0, .ref (eq E 0)), (2, .int p2), (3, .int y3), (4, .int y4), (5, .int y5), (6, .int y6)] → W p l e (rmk 0) s m args below meth c s.heap [] 0 0 (MQ below (QRi res) args s 0 0 (NoF)) (F0 m 31 ls []) := by
  have hx := X.1.1
  have hb := X.1.2.1
  intro n
  induction n with
  | zero =>
    intro y3 y4 y5 y6 hf ls hl
    cases (show (none : Option Int32) = some res from hf)
  | succ n ih =>
    intro y3 y4 y5 y6 hf ls hl
    rw [fX9_lanesBetween_L31] at hf
    refine lv_iload hx hb dX9_lanesBetween_31 (lv_at hl 5 rfl) ?_
    refine lv_aload_n hx hb dX9_lanesBetween_33 rfl (lv_at hl 0 rfl) ?_
    refine gf9 X G (hL 0 rfl) rfl 7 (by decide) rfl kf_X9_52 iwX9 dX9_lanesBetween_34 ?_
    refine gf2 X G (hL 120 rfl) rfl 0 (by decide) rfl kf_X9_62 iwX2 dX9_lanesBetween_37 ?_
    refine gf1 X G (hL 134 rfl) rfl 4 (by decide) rfl kf_X9_111 iwX1 dX9_lanesBetween_40 ?_
    refine lv_icmp_ge (tgt := 82) hx hb dX9_lanesBetween_43 (by decide) (fun c1 => ?_) (fun c1 => ?_)
    · have hf := it_t hf c1
      obtain ⟨x2, ex2⟩ : ∃ y : Int32, y = (y4 + (1 : Int32)) := ⟨_, rfl⟩
      have hf := nm_s hf x2 ex2
      refine lv_iinc (k := 3) (v := x2) (lv' := [(4, .int x2), (0, .ref (eq E 0)), (2, .int p2), (3, .int y3), (5, .int y5), (6, .int y6)]) hx hb dX9_lanesBetween_82 hl rfl (by rw [ex2]; rfl) (by decide) rfl (fun ls hl => ?_)
      refine lv_goto (tgt := 7) hx hb dX9_lanesBetween_85 (by decide) ?_
      exact hk7 y3 x2 hf _ (lv_sub hl [1, 2, 3, 0] rfl)
    · have hf := it_f hf c1
      refine lv_iload_n hx hb dX9_lanesBetween_46 rfl (lv_at hl 2 rfl) ?_
      refine lv_iload hx hb dX9_lanesBetween_47 (lv_at hl 4 rfl) ?_
      refine lv_iload hx hb dX9_lanesBetween_49 (lv_at hl 5 rfl) ?_
      refine lv_ishr hx hb dX9_lanesBetween_51 ?_
      refine lv_iconst (v := (1 : Int32)) hx hb dX9_lanesBetween_52 (by decide) ?_
      refine lv_iand hx hb dX9_lanesBetween_53 ?_
      refine lv_if_ne (tgt := 61) hx hb dX9_lanesBetween_54 (by decide) (fun c2 => ?_) (fun c2 => ?_)
      · have hf := it_f hf c2
        refine lv_aload_n hx hb dX9_lanesBetween_61 rfl (lv_at hl 0 rfl) ?_
        refine gf9 X G (hL 0 rfl) rfl 7 (by decide) rfl kf_X9_52 iwX9 dX9_lanesBetween_62 ?_
        refine gf2 X G (hL 120 rfl) rfl 0 (by decide) rfl kf_X9_62 iwX2 dX9_lanesBetween_65 ?_
        refine gf1 X G (hL 134 rfl) rfl 9 (by decide) rfl kf_X9_137 iwX1 dX9_lanesBetween_68 ?_
        refine lv_iload hx hb dX9_lanesBetween_71 (lv_at hl 5 rfl) ?_
        obtain ⟨h3, hf⟩ := gd_s hf
        refine ia_ld (k := 144) (n := 8) X G (hL 144 rfl) rfl (by decide) (ix_in h3) dX9_lanesBetween_73 ?_
        exact wX9_lanesBetween_B74 hL X hr hlk G hk7 ih y4 y5 y6 (st.1 144 y6.toNatClampNeg) y3 hf _ (lv_sub hl [0, 1, 3, 4, 5] rfl)
      · have hf := it_t hf c2
        refine lv_iconst (v := (0 : Int32)) hx hb dX9_lanesBetween_57 (by decide) ?_
        refine lv_goto (tgt := 74) hx hb dX9_lanesBetween_58 (by decide) ?_
        exact wX9_lanesBetween_B74 hL X hr hlk G hk7 ih y4 y5 y6 (0 : Int32) y3 hf _ (lv_sub hl [0, 1, 3, 4, 5] rfl)
def fX9_lanesBetween_L7 (p1 : Int32) (p2 : Int32) (st : St) : Nat → Int32 → Int32 → Option Int32
  | 0, _, _ => none
  | n + 1, y3, y4 => if (8 : Int32) ≤ y4 then (some (8 : Int32)) else (if ((y3 >>> (p2 &&& 31)) &&& (1 : Int32)) = 0 then (fX9_lanesBetween_L31 p1 p2 st (fX9_lanesBetween_L7 p1 p2 st n) 10000 y3 y4 y3 (0 : Int32)) else (some y4))
set_option maxRecDepth 100000 in
theorem wX9_lanesBetween_L7 {p : Program} {l : Launch} {e : Env} {s : State} {m : MethodId} {args : Array Value} {below : List Frame} {meth : Method} {c : Code} {E : Ev} (hL : ∀ k, fxC k = true → k ∈ eL E) {p1 : Int32} {p2 : Int32} {st : St} {sz : Nat} {res : Int32} (X : CX p s m args c E RX9 cX9_lanesBetween 7 (Af E sz)) (hr : meth.sig.returnType = (some .int)) (hlk : meth.locks = false) (G : Gd E st (Af E sz) s s.heap []) : ∀ (n : Nat) (y3 : Int32) (y4 : Int32), fX9_lanesBetween_L7 p1 p2 st  n y3 y4 = some res → ∀ ls : Array Slot, lv_has ls 7 [(0, .ref (eq E 0)), (2, .int p2), (3, .int y3), (4, .int y4)] → W p l e (rmk 0) s m args below meth c s.heap [] 0 0 (MQ below (QRi res) args s 0 0 (NoF)) (F0 m 7 ls []) := by
  have hx := X.1.1
  have hb := X.1.2.1
  intro n
  induction n with
  | zero =>
    intro y3 y4 hf ls hl
    cases (show (none : Option Int32) = some res from hf)
  | succ n ih =>
    intro y3 y4 hf ls hl
    rw [fX9_lanesBetween_L7] at hf
    refine lv_iload hx hb dX9_lanesBetween_7 (lv_at hl 3 rfl) ?_
    refine lv_bipush (v := (8 : Int32)) hx hb dX9_lanesBetween_9 (by decide) ?_
    refine lv_icmp_ge (tgt := 88) hx hb dX9_lanesBetween_11 (by decide) (fun c1 => ?_) (fun c1 => ?_)
    · have hf := it_t hf c1
      refine lv_bipush (v := (8 : Int32)) hx hb dX9_lanesBetween_88 (by decide) ?_
      exact rtRi X hlk hr (so_i hf) dX9_lanesBetween_90
    · have hf := it_f hf c1
      refine lv_iload_n hx hb dX9_lanesBetween_14 rfl (lv_at hl 2 rfl) ?_
      refine lv_iload_n hx hb dX9_lanesBetween_15 rfl (lv_at hl 1 rfl) ?_
      refine lv_ishr hx hb dX9_lanesBetween_16 ?_
      refine lv_iconst (v := (1 : Int32)) hx hb dX9_lanesBetween_17 (by decide) ?_
      refine lv_iand hx hb dX9_lanesBetween_18 ?_
      refine lv_if_eq (tgt := 25) hx hb dX9_lanesBetween_19 (by decide) (fun c2 => ?_) (fun c2 => ?_)
      · have hf := it_t hf c2
        refine lv_iload_n hx hb dX9_lanesBetween_25 rfl (lv_at hl 2 rfl) ?_
        refine lv_istore (lv' := [(5, .int y3), (0, .ref (eq E 0)), (2, .int p2), (3, .int y3), (4, .int y4)]) hx hb dX9_lanesBetween_26 hl (by decide) rfl (fun ls hl => ?_)
        refine lv_iconst (v := (0 : Int32)) hx hb dX9_lanesBetween_28 (by decide) ?_
        refine lv_istore (lv' := [(6, .int (0 : Int32)), (5, .int y3), (0, .ref (eq E 0)), (2, .int p2), (3, .int y3), (4, .int y4)]) hx hb dX9_lanesBetween_29 hl (by decide) rfl (fun ls hl => ?_)
        exact wX9_lanesBetween_L31 hL X hr hlk G ih 10000 y3 y4 y3 (0 : Int32) hf _ (lv_sub hl [2, 3, 4, 5, 1, 0] rfl)
      · have hf := it_f hf c2
        refine lv_iload hx hb dX9_lanesBetween_22 (lv_at hl 3 rfl) ?_
        exact rtRi X hlk hr (so_i hf) dX9_lanesBetween_24
def fX9_lanesBetween (st : St) (p1 : Int32) (p2 : Int32) : Option Int32 := nm ((1 : Int32) <<< (p1 &&& 31)) (fun x1 => fX9_lanesBetween_L7 p1 p2 st 10000 x1 (0 : Int32))
set_option maxRecDepth 100000 in
theorem tX9_lanesBetween (l : Launch) (E : Ev) (st : St) (sz : Nat) (hL : ∀ k, fxC k = true → k ∈ eL E) (p1 : Int32) (p2 : Int32) {res : Int32} (hf : fX9_lanesBetween st p1 p2 = some res) : Met l yX9_lanesBetween (.code yX9_lanesBetween cX9_lanesBetween 7 (some .int) :: uW) (rmk 0) (va_Pc [.ref (eq E 0), .int p1, .int p2] (Pre E st sz)) (QRi res) 0 0 (NoF) := by
  refine Met_in (by decide) (Nat.le_of_ble_eq_true rfl) ?_
  intro p e s m below meth c X hr hlk hz G ls hl
  have hx := X.1.1
  have hb := X.1.2.1
  have hl : lv_has ls 7 [(0, .ref (eq E 0)), (1, .int p1), (2, .int p2)] := hl
  unfold fX9_lanesBetween at hf
  refine lv_iconst (v := (1 : Int32)) hx hb dX9_lanesBetween_0 (by decide) ?_
  refine lv_iload_n hx hb dX9_lanesBetween_1 rfl (lv_at hl 1 rfl) ?_
  refine lv_ishl hx hb dX9_lanesBetween_2 ?_
  refine lv_topi (fun x1 ex1 => ?_)
  have hf := nm_s hf x1 ex1
  refine lv_istore_n (lv' := [(3, .int x1), (0, .ref (eq E 0)), (1, .int p1), (2, .int p2)]) hx hb dX9_lanesBetween_3 rfl hl (by decide) rfl (fun ls hl => ?_)
  refine lv_iconst (v := (0 : Int32)) hx hb dX9_lanesBetween_4 (by decide) ?_
  refine lv_istore (lv' := [(4, .int (0 : Int32)), (3, .int x1), (0, .ref (eq E 0)), (1, .int p1), (2, .int p2)]) hx hb dX9_lanesBetween_5 hl (by decide) rfl (fun ls hl => ?_)
  exact wX9_lanesBetween_L7 hL X hr hlk G 10000 x1 (0 : Int32) hf _ (lv_sub hl [2, 4, 1, 0] rfl)
