theorem dX10_logs_0 : decode cX10_logs 0 = .ok (.aload_n 0, 1) := by decide +kernel
theorem dX10_logs_1 : decode cX10_logs 1 = .ok (.iload_n 1, 1) := by decide +kernel
theorem dX10_logs_2 : decode cX10_logs 2 = .ok (.invokevirtual 367, 3) := by decide +kernel
theorem dX10_logs_5 : decode cX10_logs 5 = .ok (.ifCond .eq 23, 3) := by decide +kernel
theorem dX10_logs_8 : decode cX10_logs 8 = .ok (.aload_n 0, 1) := by decide +kernel
theorem dX10_logs_9 : decode cX10_logs 9 = .ok (.iload_n 1, 1) := by decide +kernel
theorem dX10_logs_10 : decode cX10_logs 10 = .ok (.invokevirtual 371, 3) := by decide +kernel
theorem dX10_logs_13 : decode cX10_logs 13 = .ok (.ifCond .ne 15, 3) := by decide +kernel
theorem dX10_logs_16 : decode cX10_logs 16 = .ok (.iload_n 2, 1) := by decide +kernel
theorem dX10_logs_17 : decode cX10_logs 17 = .ok (.i2l, 1) := by decide +kernel
theorem dX10_logs_18 : decode cX10_logs 18 = .ok (.lconst 1, 1) := by decide +kernel
theorem dX10_logs_19 : decode cX10_logs 19 = .ok (.ldc2_w 471, 3) := by decide +kernel
theorem dX10_logs_22 : decode cX10_logs 22 = .ok (.invokestatic 152, 3) := by decide +kernel
theorem dX10_logs_25 : decode cX10_logs 25 = .ok (.ifCond .ne 5, 3) := by decide +kernel
theorem dX10_logs_28 : decode cX10_logs 28 = .ok (.iconst (-1), 1) := by decide +kernel
theorem dX10_logs_29 : decode cX10_logs 29 = .ok (.ireturn, 1) := by decide +kernel
theorem dX10_logs_30 : decode cX10_logs 30 = .ok (.bipush (-2), 2) := by decide +kernel
theorem dX10_logs_32 : decode cX10_logs 32 = .ok (.istore_n 3, 1) := by decide +kernel
theorem dX10_logs_33 : decode cX10_logs 33 = .ok (.aload_n 0, 1) := by decide +kernel
theorem dX10_logs_34 : decode cX10_logs 34 = .ok (.invokevirtual 448, 3) := by decide +kernel
theorem dX10_logs_37 : decode cX10_logs 37 = .ok (.iconst 0, 1) := by decide +kernel
theorem dX10_logs_38 : decode cX10_logs 38 = .ok (.istore 4, 2) := by decide +kernel
theorem dX10_logs_40 : decode cX10_logs 40 = .ok (.iload 4, 2) := by decide +kernel
theorem dX10_logs_42 : decode cX10_logs 42 = .ok (.bipush 99, 2) := by decide +kernel
theorem dX10_logs_44 : decode cX10_logs 44 = .ok (.if_icmp .gt 48, 3) := by decide +kernel
theorem dX10_logs_47 : decode cX10_logs 47 = .ok (.iload_n 3, 1) := by decide +kernel
theorem dX10_logs_48 : decode cX10_logs 48 = .ok (.bipush (-2), 2) := by decide +kernel
theorem dX10_logs_50 : decode cX10_logs 50 = .ok (.if_icmp .ne 42, 3) := by decide +kernel
theorem dX10_logs_53 : decode cX10_logs 53 = .ok (.aload_n 0, 1) := by decide +kernel
theorem dX10_logs_54 : decode cX10_logs 54 = .ok (.getfield 16, 3) := by decide +kernel
theorem dX10_logs_57 : decode cX10_logs 57 = .ok (.iload_n 1, 1) := by decide +kernel
theorem dX10_logs_58 : decode cX10_logs 58 = .ok (.iload 4, 2) := by decide +kernel
theorem dX10_logs_60 : decode cX10_logs 60 = .ok (.iastore, 1) := by decide +kernel
theorem dX10_logs_61 : decode cX10_logs 61 = .ok (.aload_n 0, 1) := by decide +kernel
theorem dX10_logs_62 : decode cX10_logs 62 = .ok (.iload_n 2, 1) := by decide +kernel
theorem dX10_logs_63 : decode cX10_logs 63 = .ok (.invokevirtual 451, 3) := by decide +kernel
theorem dX10_logs_66 : decode cX10_logs 66 = .ok (.aload_n 0, 1) := by decide +kernel
theorem dX10_logs_67 : decode cX10_logs 67 = .ok (.iload_n 1, 1) := by decide +kernel
theorem dX10_logs_68 : decode cX10_logs 68 = .ok (.invokevirtual 371, 3) := by decide +kernel
theorem dX10_logs_71 : decode cX10_logs 71 = .ok (.ifCond .eq 8, 3) := by decide +kernel
theorem dX10_logs_74 : decode cX10_logs 74 = .ok (.bipush (-2), 2) := by decide +kernel
theorem dX10_logs_76 : decode cX10_logs 76 = .ok (.goto 5, 3) := by decide +kernel
theorem dX10_logs_79 : decode cX10_logs 79 = .ok (.iload 4, 2) := by decide +kernel
theorem dX10_logs_81 : decode cX10_logs 81 = .ok (.istore_n 3, 1) := by decide +kernel
theorem dX10_logs_82 : decode cX10_logs 82 = .ok (.aload_n 0, 1) := by decide +kernel
theorem dX10_logs_83 : decode cX10_logs 83 = .ok (.invokevirtual 454, 3) := by decide +kernel
theorem dX10_logs_86 : decode cX10_logs 86 = .ok (.iinc 4 1, 3) := by decide +kernel
theorem dX10_logs_89 : decode cX10_logs 89 = .ok (.goto (-49), 3) := by decide +kernel
theorem dX10_logs_92 : decode cX10_logs 92 = .ok (.iload_n 3, 1) := by decide +kernel
theorem dX10_logs_93 : decode cX10_logs 93 = .ok (.ireturn, 1) := by decide +kernel
theorem dX10_rate_0 : decode cX10_rate 0 = .ok (.aload_n 0, 1) := by decide +kernel
theorem dX10_rate_1 : decode cX10_rate 1 = .ok (.getfield 327, 3) := by decide +kernel
theorem dX10_rate_4 : decode cX10_rate 4 = .ok (.ifCond .eq 15, 3) := by decide +kernel
theorem dX10_rate_7 : decode cX10_rate 7 = .ok (.iload_n 1, 1) := by decide +kernel
theorem dX10_rate_8 : decode cX10_rate 8 = .ok (.i2l, 1) := by decide +kernel
theorem dX10_rate_9 : decode cX10_rate 9 = .ok (.lconst 1, 1) := by decide +kernel
theorem dX10_rate_10 : decode cX10_rate 10 = .ok (.ldc2_w 471, 3) := by decide +kernel
theorem dX10_rate_13 : decode cX10_rate 13 = .ok (.invokestatic 152, 3) := by decide +kernel
theorem dX10_rate_16 : decode cX10_rate 16 = .ok (.ifCond .ne 5, 3) := by decide +kernel
theorem dX10_rate_19 : decode cX10_rate 19 = .ok (.iconst (-1), 1) := by decide +kernel
theorem dX10_rate_20 : decode cX10_rate 20 = .ok (.ireturn, 1) := by decide +kernel
theorem dX10_rate_21 : decode cX10_rate 21 = .ok (.bipush (-2), 2) := by decide +kernel
theorem dX10_rate_23 : decode cX10_rate 23 = .ok (.istore_n 2, 1) := by decide +kernel
theorem dX10_rate_24 : decode cX10_rate 24 = .ok (.aload_n 0, 1) := by decide +kernel
theorem dX10_rate_25 : decode cX10_rate 25 = .ok (.getfield 9, 3) := by decide +kernel
theorem dX10_rate_28 : decode cX10_rate 28 = .ok (.bipush 7, 2) := by decide +kernel
theorem dX10_rate_30 : decode cX10_rate 30 = .ok (.iaload, 1) := by decide +kernel
theorem dX10_rate_31 : decode cX10_rate 31 = .ok (.istore_n 3, 1) := by decide +kernel
theorem dX10_rate_32 : decode cX10_rate 32 = .ok (.aload_n 0, 1) := by decide +kernel
theorem dX10_rate_33 : decode cX10_rate 33 = .ok (.invokevirtual 448, 3) := by decide +kernel
theorem dX10_rate_36 : decode cX10_rate 36 = .ok (.bipush 100, 2) := by decide +kernel
theorem dX10_rate_38 : decode cX10_rate 38 = .ok (.istore 4, 2) := by decide +kernel
theorem dX10_rate_40 : decode cX10_rate 40 = .ok (.iload 4, 2) := by decide +kernel
theorem dX10_rate_42 : decode cX10_rate 42 = .ok (.ifCond .lt 54, 3) := by decide +kernel
theorem dX10_rate_45 : decode cX10_rate 45 = .ok (.iload_n 2, 1) := by decide +kernel
theorem dX10_rate_46 : decode cX10_rate 46 = .ok (.bipush (-2), 2) := by decide +kernel
theorem dX10_rate_48 : decode cX10_rate 48 = .ok (.if_icmp .ne 48, 3) := by decide +kernel
theorem dX10_rate_51 : decode cX10_rate 51 = .ok (.aload_n 0, 1) := by decide +kernel
theorem dX10_rate_52 : decode cX10_rate 52 = .ok (.getfield 9, 3) := by decide +kernel
theorem dX10_rate_55 : decode cX10_rate 55 = .ok (.iconst 0, 1) := by decide +kernel
theorem dX10_rate_56 : decode cX10_rate 56 = .ok (.iload 4, 2) := by decide +kernel
theorem dX10_rate_58 : decode cX10_rate 58 = .ok (.iastore, 1) := by decide +kernel
theorem dX10_rate_59 : decode cX10_rate 59 = .ok (.aload_n 0, 1) := by decide +kernel
theorem dX10_rate_60 : decode cX10_rate 60 = .ok (.iload_n 1, 1) := by decide +kernel
theorem dX10_rate_61 : decode cX10_rate 61 = .ok (.invokevirtual 451, 3) := by decide +kernel
theorem dX10_rate_64 : decode cX10_rate 64 = .ok (.aload_n 0, 1) := by decide +kernel
theorem dX10_rate_65 : decode cX10_rate 65 = .ok (.getfield 9, 3) := by decide +kernel
theorem dX10_rate_68 : decode cX10_rate 68 = .ok (.bipush 7, 2) := by decide +kernel
theorem dX10_rate_70 : decode cX10_rate 70 = .ok (.iaload, 1) := by decide +kernel
theorem dX10_rate_71 : decode cX10_rate 71 = .ok (.iload_n 3, 1) := by decide +kernel
theorem dX10_rate_72 : decode cX10_rate 72 = .ok (.iconst (-1), 1) := by decide +kernel
theorem dX10_rate_73 : decode cX10_rate 73 = .ok (.ixor, 1) := by decide +kernel
theorem dX10_rate_74 : decode cX10_rate 74 = .ok (.iand, 1) := by decide +kernel
theorem dX10_rate_75 : decode cX10_rate 75 = .ok (.ifCond .ne 8, 3) := by decide +kernel
theorem dX10_rate_78 : decode cX10_rate 78 = .ok (.iload 4, 2) := by decide +kernel
theorem dX10_rate_80 : decode cX10_rate 80 = .ok (.goto 5, 3) := by decide +kernel
theorem dX10_rate_83 : decode cX10_rate 83 = .ok (.bipush (-2), 2) := by decide +kernel
theorem dX10_rate_85 : decode cX10_rate 85 = .ok (.istore_n 2, 1) := by decide +kernel
theorem dX10_rate_86 : decode cX10_rate 86 = .ok (.aload_n 0, 1) := by decide +kernel
theorem dX10_rate_87 : decode cX10_rate 87 = .ok (.invokevirtual 454, 3) := by decide +kernel
theorem dX10_rate_90 : decode cX10_rate 90 = .ok (.iinc 4 (-1), 3) := by decide +kernel
theorem dX10_rate_93 : decode cX10_rate 93 = .ok (.goto (-53), 3) := by decide +kernel
theorem dX10_rate_96 : decode cX10_rate 96 = .ok (.iload_n 2, 1) := by decide +kernel
theorem dX10_rate_97 : decode cX10_rate 97 = .ok (.ireturn, 1) := by decide +kernel
theorem dX10_loan_0 : decode cX10_loan 0 = .ok (.aload_n 0, 1) := by decide +kernel
theorem dX10_loan_1 : decode cX10_loan 1 = .ok (.iload_n 1, 1) := by decide +kernel
theorem dX10_loan_2 : decode cX10_loan 2 = .ok (.invokevirtual 367, 3) := by decide +kernel
theorem dX10_loan_5 : decode cX10_loan 5 = .ok (.ifCond .eq 52, 3) := by decide +kernel
theorem dX10_loan_8 : decode cX10_loan 8 = .ok (.aload_n 0, 1) := by decide +kernel
theorem dX10_loan_9 : decode cX10_loan 9 = .ok (.iload_n 2, 1) := by decide +kernel
theorem dX10_loan_10 : decode cX10_loan 10 = .ok (.invokevirtual 367, 3) := by decide +kernel
theorem dX10_loan_13 : decode cX10_loan 13 = .ok (.ifCond .eq 44, 3) := by decide +kernel
theorem dX10_loan_16 : decode cX10_loan 16 = .ok (.aload_n 0, 1) := by decide +kernel
theorem dX10_loan_17 : decode cX10_loan 17 = .ok (.iload_n 1, 1) := by decide +kernel
theorem dX10_loan_18 : decode cX10_loan 18 = .ok (.invokevirtual 371, 3) := by decide +kernel
theorem dX10_loan_21 : decode cX10_loan 21 = .ok (.ifCond .ne 36, 3) := by decide +kernel
theorem dX10_loan_24 : decode cX10_loan 24 = .ok (.aload_n 0, 1) := by decide +kernel
theorem dX10_loan_25 : decode cX10_loan 25 = .ok (.iload_n 2, 1) := by decide +kernel
theorem dX10_loan_26 : decode cX10_loan 26 = .ok (.invokevirtual 371, 3) := by decide +kernel
theorem dX10_loan_29 : decode cX10_loan 29 = .ok (.ifCond .ne 28, 3) := by decide +kernel
theorem dX10_loan_32 : decode cX10_loan 32 = .ok (.aload_n 0, 1) := by decide +kernel
theorem dX10_loan_33 : decode cX10_loan 33 = .ok (.getfield 25, 3) := by decide +kernel
theorem dX10_loan_36 : decode cX10_loan 36 = .ok (.iload_n 1, 1) := by decide +kernel
theorem dX10_loan_37 : decode cX10_loan 37 = .ok (.iaload, 1) := by decide +kernel
theorem dX10_loan_38 : decode cX10_loan 38 = .ok (.iload_n 2, 1) := by decide +kernel
theorem dX10_loan_39 : decode cX10_loan 39 = .ok (.invokestatic 156, 3) := by decide +kernel
theorem dX10_loan_42 : decode cX10_loan 42 = .ok (.ifCond .eq 15, 3) := by decide +kernel
theorem dX10_loan_45 : decode cX10_loan 45 = .ok (.iload_n 3, 1) := by decide +kernel
theorem dX10_loan_46 : decode cX10_loan 46 = .ok (.i2l, 1) := by decide +kernel
theorem dX10_loan_47 : decode cX10_loan 47 = .ok (.lconst 1, 1) := by decide +kernel
theorem dX10_loan_48 : decode cX10_loan 48 = .ok (.ldc2_w 471, 3) := by decide +kernel
theorem dX10_loan_51 : decode cX10_loan 51 = .ok (.invokestatic 152, 3) := by decide +kernel
theorem dX10_loan_54 : decode cX10_loan 54 = .ok (.ifCond .ne 5, 3) := by decide +kernel
theorem dX10_loan_57 : decode cX10_loan 57 = .ok (.iconst (-1), 1) := by decide +kernel
theorem dX10_loan_58 : decode cX10_loan 58 = .ok (.ireturn, 1) := by decide +kernel
theorem dX10_loan_59 : decode cX10_loan 59 = .ok (.bipush (-2), 2) := by decide +kernel
theorem dX10_loan_61 : decode cX10_loan 61 = .ok (.istore 4, 2) := by decide +kernel
theorem dX10_loan_63 : decode cX10_loan 63 = .ok (.aload_n 0, 1) := by decide +kernel
theorem dX10_loan_64 : decode cX10_loan 64 = .ok (.getfield 13, 3) := by decide +kernel
theorem dX10_loan_67 : decode cX10_loan 67 = .ok (.iload_n 1, 1) := by decide +kernel
theorem dX10_loan_68 : decode cX10_loan 68 = .ok (.iaload, 1) := by decide +kernel
theorem dX10_loan_69 : decode cX10_loan 69 = .ok (.istore 5, 2) := by decide +kernel
theorem dX10_loan_71 : decode cX10_loan 71 = .ok (.aload_n 0, 1) := by decide +kernel
theorem dX10_loan_72 : decode cX10_loan 72 = .ok (.invokevirtual 448, 3) := by decide +kernel
theorem dX10_loan_75 : decode cX10_loan 75 = .ok (.iconst 0, 1) := by decide +kernel
theorem dX10_loan_76 : decode cX10_loan 76 = .ok (.istore 6, 2) := by decide +kernel
theorem dX10_loan_78 : decode cX10_loan 78 = .ok (.iload 6, 2) := by decide +kernel
theorem dX10_loan_80 : decode cX10_loan 80 = .ok (.iload 5, 2) := by decide +kernel
theorem dX10_loan_82 : decode cX10_loan 82 = .ok (.if_icmp .gt 58, 3) := by decide +kernel
theorem dX10_loan_85 : decode cX10_loan 85 = .ok (.iload 4, 2) := by decide +kernel
theorem dX10_loan_87 : decode cX10_loan 87 = .ok (.bipush (-2), 2) := by decide +kernel
theorem dX10_loan_89 : decode cX10_loan 89 = .ok (.if_icmp .ne 51, 3) := by decide +kernel
theorem dX10_loan_92 : decode cX10_loan 92 = .ok (.aload_n 0, 1) := by decide +kernel
theorem dX10_loan_93 : decode cX10_loan 93 = .ok (.iload_n 1, 1) := by decide +kernel
theorem dX10_loan_94 : decode cX10_loan 94 = .ok (.iload_n 2, 1) := by decide +kernel
theorem dX10_loan_95 : decode cX10_loan 95 = .ok (.iload 6, 2) := by decide +kernel
theorem dX10_loan_97 : decode cX10_loan 97 = .ok (.invokevirtual 439, 3) := by decide +kernel
theorem dX10_loan_100 : decode cX10_loan 100 = .ok (.aload_n 0, 1) := by decide +kernel
theorem dX10_loan_101 : decode cX10_loan 101 = .ok (.iload_n 3, 1) := by decide +kernel
theorem dX10_loan_102 : decode cX10_loan 102 = .ok (.invokevirtual 451, 3) := by decide +kernel
theorem dX10_loan_105 : decode cX10_loan 105 = .ok (.aload_n 0, 1) := by decide +kernel
theorem dX10_loan_106 : decode cX10_loan 106 = .ok (.iload_n 1, 1) := by decide +kernel
theorem dX10_loan_107 : decode cX10_loan 107 = .ok (.invokevirtual 371, 3) := by decide +kernel
theorem dX10_loan_110 : decode cX10_loan 110 = .ok (.ifCond .ne 11, 3) := by decide +kernel
theorem dX10_loan_113 : decode cX10_loan 113 = .ok (.aload_n 0, 1) := by decide +kernel
theorem dX10_loan_114 : decode cX10_loan 114 = .ok (.iload_n 2, 1) := by decide +kernel
theorem dX10_loan_115 : decode cX10_loan 115 = .ok (.invokevirtual 371, 3) := by decide +kernel
theorem dX10_loan_118 : decode cX10_loan 118 = .ok (.ifCond .eq 8, 3) := by decide +kernel
theorem dX10_loan_121 : decode cX10_loan 121 = .ok (.bipush (-2), 2) := by decide +kernel
theorem dX10_loan_123 : decode cX10_loan 123 = .ok (.goto 5, 3) := by decide +kernel
theorem dX10_loan_126 : decode cX10_loan 126 = .ok (.iload 6, 2) := by decide +kernel
theorem dX10_loan_128 : decode cX10_loan 128 = .ok (.istore 4, 2) := by decide +kernel
theorem dX10_loan_130 : decode cX10_loan 130 = .ok (.aload_n 0, 1) := by decide +kernel
theorem dX10_loan_131 : decode cX10_loan 131 = .ok (.invokevirtual 454, 3) := by decide +kernel
theorem dX10_loan_134 : decode cX10_loan 134 = .ok (.iinc 6 1, 3) := by decide +kernel
theorem dX10_loan_137 : decode cX10_loan 137 = .ok (.goto (-59), 3) := by decide +kernel
theorem dX10_loan_140 : decode cX10_loan 140 = .ok (.iload 4, 2) := by decide +kernel
theorem dX10_loan_142 : decode cX10_loan 142 = .ok (.ireturn, 1) := by decide +kernel
theorem dX10_warmthOf_0 : decode cX10_warmthOf 0 = .ok (.aload_n 0, 1) := by decide +kernel
theorem dX10_warmthOf_1 : decode cX10_warmthOf 1 = .ok (.iload_n 1, 1) := by decide +kernel
theorem dX10_warmthOf_2 : decode cX10_warmthOf 2 = .ok (.invokevirtual 371, 3) := by decide +kernel
theorem dX10_warmthOf_5 : decode cX10_warmthOf 5 = .ok (.ifCond .eq 7, 3) := by decide +kernel
theorem dX10_warmthOf_8 : decode cX10_warmthOf 8 = .ok (.iconst 0, 1) := by decide +kernel
theorem dX10_warmthOf_9 : decode cX10_warmthOf 9 = .ok (.goto 9, 3) := by decide +kernel
theorem dX10_warmthOf_12 : decode cX10_warmthOf 12 = .ok (.aload_n 0, 1) := by decide +kernel
theorem dX10_warmthOf_13 : decode cX10_warmthOf 13 = .ok (.getfield 13, 3) := by decide +kernel
theorem dX10_warmthOf_16 : decode cX10_warmthOf 16 = .ok (.iload_n 1, 1) := by decide +kernel
theorem dX10_warmthOf_17 : decode cX10_warmthOf 17 = .ok (.iaload, 1) := by decide +kernel
theorem dX10_warmthOf_18 : decode cX10_warmthOf 18 = .ok (.ireturn, 1) := by decide +kernel
theorem dX10_levy_0 : decode cX10_levy 0 = .ok (.aload_n 0, 1) := by decide +kernel
theorem dX10_levy_1 : decode cX10_levy 1 = .ok (.iload_n 2, 1) := by decide +kernel
theorem dX10_levy_2 : decode cX10_levy 2 = .ok (.invokevirtual 367, 3) := by decide +kernel
theorem dX10_levy_5 : decode cX10_levy 5 = .ok (.ifCond .eq 15, 3) := by decide +kernel
theorem dX10_levy_8 : decode cX10_levy 8 = .ok (.iload_n 1, 1) := by decide +kernel
theorem dX10_levy_9 : decode cX10_levy 9 = .ok (.i2l, 1) := by decide +kernel
theorem dX10_levy_10 : decode cX10_levy 10 = .ok (.lconst 0, 1) := by decide +kernel
theorem dX10_levy_11 : decode cX10_levy 11 = .ok (.ldc2_w 473, 3) := by decide +kernel
theorem dX10_levy_14 : decode cX10_levy 14 = .ok (.invokestatic 152, 3) := by decide +kernel
theorem dX10_levy_17 : decode cX10_levy 17 = .ok (.ifCond .ne 5, 3) := by decide +kernel
theorem dX10_levy_20 : decode cX10_levy 20 = .ok (.iconst (-1), 1) := by decide +kernel
theorem dX10_levy_21 : decode cX10_levy 21 = .ok (.ireturn, 1) := by decide +kernel
theorem dX10_levy_22 : decode cX10_levy 22 = .ok (.iconst 0, 1) := by decide +kernel
theorem dX10_levy_23 : decode cX10_levy 23 = .ok (.istore_n 3, 1) := by decide +kernel
theorem dX10_levy_24 : decode cX10_levy 24 = .ok (.iconst 0, 1) := by decide +kernel
theorem dX10_levy_25 : decode cX10_levy 25 = .ok (.istore 4, 2) := by decide +kernel
theorem dX10_levy_27 : decode cX10_levy 27 = .ok (.iload 4, 2) := by decide +kernel
theorem dX10_levy_29 : decode cX10_levy 29 = .ok (.aload_n 0, 1) := by decide +kernel
theorem dX10_levy_30 : decode cX10_levy 30 = .ok (.getfield 9, 3) := by decide +kernel
theorem dX10_levy_33 : decode cX10_levy 33 = .ok (.iconst 3, 1) := by decide +kernel
theorem dX10_levy_34 : decode cX10_levy 34 = .ok (.iaload, 1) := by decide +kernel
theorem dX10_levy_35 : decode cX10_levy 35 = .ok (.if_icmp .ge 18, 3) := by decide +kernel
theorem dX10_levy_38 : decode cX10_levy 38 = .ok (.iload_n 3, 1) := by decide +kernel
theorem dX10_levy_39 : decode cX10_levy 39 = .ok (.aload_n 0, 1) := by decide +kernel
theorem dX10_levy_40 : decode cX10_levy 40 = .ok (.iload 4, 2) := by decide +kernel
theorem dX10_levy_42 : decode cX10_levy 42 = .ok (.invokevirtual 475, 3) := by decide +kernel
theorem dX10_levy_45 : decode cX10_levy 45 = .ok (.iadd, 1) := by decide +kernel
theorem dX10_levy_46 : decode cX10_levy 46 = .ok (.istore_n 3, 1) := by decide +kernel
theorem dX10_levy_47 : decode cX10_levy 47 = .ok (.iinc 4 1, 3) := by decide +kernel
theorem dX10_levy_50 : decode cX10_levy 50 = .ok (.goto (-23), 3) := by decide +kernel
theorem dX10_levy_53 : decode cX10_levy 53 = .ok (.iload_n 3, 1) := by decide +kernel
theorem dX10_levy_54 : decode cX10_levy 54 = .ok (.ifCond .eq 11, 3) := by decide +kernel
theorem dX10_levy_57 : decode cX10_levy 57 = .ok (.aload_n 0, 1) := by decide +kernel
theorem dX10_levy_58 : decode cX10_levy 58 = .ok (.iload_n 2, 1) := by decide +kernel
theorem dX10_levy_59 : decode cX10_levy 59 = .ok (.invokevirtual 371, 3) := by decide +kernel
theorem dX10_levy_62 : decode cX10_levy 62 = .ok (.ifCond .eq 5, 3) := by decide +kernel
theorem dX10_levy_65 : decode cX10_levy 65 = .ok (.iconst 0, 1) := by decide +kernel
theorem dX10_levy_66 : decode cX10_levy 66 = .ok (.ireturn, 1) := by decide +kernel
theorem dX10_levy_67 : decode cX10_levy 67 = .ok (.iload_n 1, 1) := by decide +kernel
theorem dX10_levy_68 : decode cX10_levy 68 = .ok (.istore 4, 2) := by decide +kernel
theorem dX10_levy_70 : decode cX10_levy 70 = .ok (.iconst 0, 1) := by decide +kernel
theorem dX10_levy_71 : decode cX10_levy 71 = .ok (.istore 5, 2) := by decide +kernel
theorem dX10_levy_73 : decode cX10_levy 73 = .ok (.iconst 0, 1) := by decide +kernel
theorem dX10_levy_74 : decode cX10_levy 74 = .ok (.istore 6, 2) := by decide +kernel
theorem dX10_levy_76 : decode cX10_levy 76 = .ok (.iload 6, 2) := by decide +kernel
theorem dX10_levy_78 : decode cX10_levy 78 = .ok (.aload_n 0, 1) := by decide +kernel
theorem dX10_levy_79 : decode cX10_levy 79 = .ok (.getfield 9, 3) := by decide +kernel
theorem dX10_levy_82 : decode cX10_levy 82 = .ok (.iconst 3, 1) := by decide +kernel
theorem dX10_levy_83 : decode cX10_levy 83 = .ok (.iaload, 1) := by decide +kernel
theorem dX10_levy_84 : decode cX10_levy 84 = .ok (.if_icmp .ge 81, 3) := by decide +kernel
theorem dX10_levy_87 : decode cX10_levy 87 = .ok (.aload_n 0, 1) := by decide +kernel
theorem dX10_levy_88 : decode cX10_levy 88 = .ok (.iload 6, 2) := by decide +kernel
theorem dX10_levy_90 : decode cX10_levy 90 = .ok (.invokevirtual 371, 3) := by decide +kernel
theorem dX10_levy_93 : decode cX10_levy 93 = .ok (.ifCond .ne 66, 3) := by decide +kernel
theorem dX10_levy_96 : decode cX10_levy 96 = .ok (.iload_n 1, 1) := by decide +kernel
theorem dX10_levy_97 : decode cX10_levy 97 = .ok (.aload_n 0, 1) := by decide +kernel
theorem dX10_levy_98 : decode cX10_levy 98 = .ok (.iload 6, 2) := by decide +kernel
theorem dX10_levy_100 : decode cX10_levy 100 = .ok (.invokevirtual 475, 3) := by decide +kernel
theorem dX10_levy_103 : decode cX10_levy 103 = .ok (.imul, 1) := by decide +kernel
theorem dX10_levy_104 : decode cX10_levy 104 = .ok (.iload_n 3, 1) := by decide +kernel
theorem dX10_levy_105 : decode cX10_levy 105 = .ok (.irem, 1) := by decide +kernel
theorem dX10_levy_106 : decode cX10_levy 106 = .ok (.iload_n 1, 1) := by decide +kernel
theorem dX10_levy_107 : decode cX10_levy 107 = .ok (.aload_n 0, 1) := by decide +kernel
theorem dX10_levy_108 : decode cX10_levy 108 = .ok (.iload_n 2, 1) := by decide +kernel
theorem dX10_levy_109 : decode cX10_levy 109 = .ok (.invokevirtual 475, 3) := by decide +kernel
theorem dX10_levy_112 : decode cX10_levy 112 = .ok (.imul, 1) := by decide +kernel
theorem dX10_levy_113 : decode cX10_levy 113 = .ok (.iload_n 3, 1) := by decide +kernel
theorem dX10_levy_114 : decode cX10_levy 114 = .ok (.irem, 1) := by decide +kernel
theorem dX10_levy_115 : decode cX10_levy 115 = .ok (.isub, 1) := by decide +kernel
theorem dX10_levy_116 : decode cX10_levy 116 = .ok (.istore 7, 2) := by decide +kernel
theorem dX10_levy_118 : decode cX10_levy 118 = .ok (.iload 4, 2) := by decide +kernel
theorem dX10_levy_120 : decode cX10_levy 120 = .ok (.iload_n 1, 1) := by decide +kernel
theorem dX10_levy_121 : decode cX10_levy 121 = .ok (.aload_n 0, 1) := by decide +kernel
theorem dX10_levy_122 : decode cX10_levy 122 = .ok (.iload 6, 2) := by decide +kernel
theorem dX10_levy_124 : decode cX10_levy 124 = .ok (.invokevirtual 475, 3) := by decide +kernel
theorem dX10_levy_127 : decode cX10_levy 127 = .ok (.imul, 1) := by decide +kernel
theorem dX10_levy_128 : decode cX10_levy 128 = .ok (.iload_n 3, 1) := by decide +kernel
theorem dX10_levy_129 : decode cX10_levy 129 = .ok (.idiv, 1) := by decide +kernel
theorem dX10_levy_130 : decode cX10_levy 130 = .ok (.isub, 1) := by decide +kernel
theorem dX10_levy_131 : decode cX10_levy 131 = .ok (.istore 4, 2) := by decide +kernel
theorem dX10_levy_133 : decode cX10_levy 133 = .ok (.iload 5, 2) := by decide +kernel
theorem dX10_levy_135 : decode cX10_levy 135 = .ok (.iload 7, 2) := by decide +kernel
theorem dX10_levy_137 : decode cX10_levy 137 = .ok (.ifCond .gt 14, 3) := by decide +kernel
theorem dX10_levy_140 : decode cX10_levy 140 = .ok (.iload 7, 2) := by decide +kernel
theorem dX10_levy_142 : decode cX10_levy 142 = .ok (.ifCond .ne 13, 3) := by decide +kernel
theorem dX10_levy_145 : decode cX10_levy 145 = .ok (.iload 6, 2) := by decide +kernel
theorem dX10_levy_147 : decode cX10_levy 147 = .ok (.iload_n 2, 1) := by decide +kernel
theorem dX10_levy_148 : decode cX10_levy 148 = .ok (.if_icmp .ge 7, 3) := by decide +kernel
theorem dX10_levy_151 : decode cX10_levy 151 = .ok (.iconst 1, 1) := by decide +kernel
theorem dX10_levy_152 : decode cX10_levy 152 = .ok (.goto 4, 3) := by decide +kernel
theorem dX10_levy_155 : decode cX10_levy 155 = .ok (.iconst 0, 1) := by decide +kernel
theorem dX10_levy_156 : decode cX10_levy 156 = .ok (.iadd, 1) := by decide +kernel
theorem dX10_levy_157 : decode cX10_levy 157 = .ok (.istore 5, 2) := by decide +kernel
theorem dX10_levy_159 : decode cX10_levy 159 = .ok (.iinc 6 1, 3) := by decide +kernel
theorem dX10_levy_162 : decode cX10_levy 162 = .ok (.goto (-86), 3) := by decide +kernel
theorem dX10_levy_165 : decode cX10_levy 165 = .ok (.iload_n 1, 1) := by decide +kernel
theorem dX10_levy_166 : decode cX10_levy 166 = .ok (.aload_n 0, 1) := by decide +kernel
theorem dX10_levy_167 : decode cX10_levy 167 = .ok (.iload_n 2, 1) := by decide +kernel
theorem dX10_levy_168 : decode cX10_levy 168 = .ok (.invokevirtual 475, 3) := by decide +kernel
theorem dX10_levy_171 : decode cX10_levy 171 = .ok (.imul, 1) := by decide +kernel
theorem dX10_levy_172 : decode cX10_levy 172 = .ok (.iload_n 3, 1) := by decide +kernel
theorem dX10_levy_173 : decode cX10_levy 173 = .ok (.idiv, 1) := by decide +kernel
theorem dX10_levy_174 : decode cX10_levy 174 = .ok (.iload 5, 2) := by decide +kernel
theorem dX10_levy_176 : decode cX10_levy 176 = .ok (.iload 4, 2) := by decide +kernel
theorem dX10_levy_178 : decode cX10_levy 178 = .ok (.if_icmp .ge 7, 3) := by decide +kernel
theorem dX10_levy_181 : decode cX10_levy 181 = .ok (.iconst 1, 1) := by decide +kernel
theorem dX10_levy_182 : decode cX10_levy 182 = .ok (.goto 4, 3) := by decide +kernel
theorem dX10_levy_185 : decode cX10_levy 185 = .ok (.iconst 0, 1) := by decide +kernel
theorem dX10_levy_186 : decode cX10_levy 186 = .ok (.iadd, 1) := by decide +kernel
theorem dX10_levy_187 : decode cX10_levy 187 = .ok (.ireturn, 1) := by decide +kernel
theorem dX10_lanesTo_0 : decode cX10_lanesTo 0 = .ok (.iconst 1, 1) := by decide +kernel
theorem dX10_lanesTo_1 : decode cX10_lanesTo 1 = .ok (.iload_n 1, 1) := by decide +kernel
theorem dX10_lanesTo_2 : decode cX10_lanesTo 2 = .ok (.ishl, 1) := by decide +kernel
theorem dX10_lanesTo_3 : decode cX10_lanesTo 3 = .ok (.istore_n 3, 1) := by decide +kernel
theorem dX10_lanesTo_4 : decode cX10_lanesTo 4 = .ok (.iconst 0, 1) := by decide +kernel
theorem dX10_lanesTo_5 : decode cX10_lanesTo 5 = .ok (.istore 4, 2) := by decide +kernel
theorem dX10_lanesTo_7 : decode cX10_lanesTo 7 = .ok (.iload 4, 2) := by decide +kernel
theorem dX10_lanesTo_9 : decode cX10_lanesTo 9 = .ok (.bipush 8, 2) := by decide +kernel
theorem dX10_lanesTo_11 : decode cX10_lanesTo 11 = .ok (.if_icmp .ge 71, 3) := by decide +kernel
theorem dX10_lanesTo_14 : decode cX10_lanesTo 14 = .ok (.iload_n 3, 1) := by decide +kernel
theorem dX10_lanesTo_15 : decode cX10_lanesTo 15 = .ok (.iload_n 2, 1) := by decide +kernel
theorem dX10_lanesTo_16 : decode cX10_lanesTo 16 = .ok (.invokestatic 156, 3) := by decide +kernel
theorem dX10_lanesTo_19 : decode cX10_lanesTo 19 = .ok (.ifCond .eq 6, 3) := by decide +kernel
theorem dX10_lanesTo_22 : decode cX10_lanesTo 22 = .ok (.iload 4, 2) := by decide +kernel
theorem dX10_lanesTo_24 : decode cX10_lanesTo 24 = .ok (.ireturn, 1) := by decide +kernel
theorem dX10_lanesTo_25 : decode cX10_lanesTo 25 = .ok (.iload_n 3, 1) := by decide +kernel
theorem dX10_lanesTo_26 : decode cX10_lanesTo 26 = .ok (.istore 5, 2) := by decide +kernel
theorem dX10_lanesTo_28 : decode cX10_lanesTo 28 = .ok (.iconst 0, 1) := by decide +kernel
theorem dX10_lanesTo_29 : decode cX10_lanesTo 29 = .ok (.istore 6, 2) := by decide +kernel
theorem dX10_lanesTo_31 : decode cX10_lanesTo 31 = .ok (.iload 6, 2) := by decide +kernel
theorem dX10_lanesTo_33 : decode cX10_lanesTo 33 = .ok (.aload_n 0, 1) := by decide +kernel
theorem dX10_lanesTo_34 : decode cX10_lanesTo 34 = .ok (.getfield 9, 3) := by decide +kernel
theorem dX10_lanesTo_37 : decode cX10_lanesTo 37 = .ok (.iconst 3, 1) := by decide +kernel
theorem dX10_lanesTo_38 : decode cX10_lanesTo 38 = .ok (.iaload, 1) := by decide +kernel
theorem dX10_lanesTo_39 : decode cX10_lanesTo 39 = .ok (.if_icmp .ge 34, 3) := by decide +kernel
theorem dX10_lanesTo_42 : decode cX10_lanesTo 42 = .ok (.iload 5, 2) := by decide +kernel
theorem dX10_lanesTo_44 : decode cX10_lanesTo 44 = .ok (.iload_n 3, 1) := by decide +kernel
theorem dX10_lanesTo_45 : decode cX10_lanesTo 45 = .ok (.iload 6, 2) := by decide +kernel
theorem dX10_lanesTo_47 : decode cX10_lanesTo 47 = .ok (.invokestatic 156, 3) := by decide +kernel
theorem dX10_lanesTo_50 : decode cX10_lanesTo 50 = .ok (.ifCond .eq 13, 3) := by decide +kernel
theorem dX10_lanesTo_53 : decode cX10_lanesTo 53 = .ok (.aload_n 0, 1) := by decide +kernel
theorem dX10_lanesTo_54 : decode cX10_lanesTo 54 = .ok (.getfield 25, 3) := by decide +kernel
theorem dX10_lanesTo_57 : decode cX10_lanesTo 57 = .ok (.iload 6, 2) := by decide +kernel
theorem dX10_lanesTo_59 : decode cX10_lanesTo 59 = .ok (.iaload, 1) := by decide +kernel
theorem dX10_lanesTo_60 : decode cX10_lanesTo 60 = .ok (.goto 4, 3) := by decide +kernel
theorem dX10_lanesTo_63 : decode cX10_lanesTo 63 = .ok (.iconst 0, 1) := by decide +kernel
theorem dX10_lanesTo_64 : decode cX10_lanesTo 64 = .ok (.ior, 1) := by decide +kernel
theorem dX10_lanesTo_65 : decode cX10_lanesTo 65 = .ok (.istore 5, 2) := by decide +kernel
theorem dX10_lanesTo_67 : decode cX10_lanesTo 67 = .ok (.iinc 6 1, 3) := by decide +kernel
theorem dX10_lanesTo_70 : decode cX10_lanesTo 70 = .ok (.goto (-39), 3) := by decide +kernel
theorem dX10_lanesTo_73 : decode cX10_lanesTo 73 = .ok (.iload 5, 2) := by decide +kernel
theorem dX10_lanesTo_75 : decode cX10_lanesTo 75 = .ok (.istore_n 3, 1) := by decide +kernel
theorem dX10_lanesTo_76 : decode cX10_lanesTo 76 = .ok (.iinc 4 1, 3) := by decide +kernel
theorem dX10_lanesTo_79 : decode cX10_lanesTo 79 = .ok (.goto (-72), 3) := by decide +kernel
theorem dX10_lanesTo_82 : decode cX10_lanesTo 82 = .ok (.iconst (-1), 1) := by decide +kernel
theorem dX10_lanesTo_83 : decode cX10_lanesTo 83 = .ok (.ireturn, 1) := by decide +kernel
theorem dX10_district_0 : decode cX10_district 0 = .ok (.aload_n 0, 1) := by decide +kernel
theorem dX10_district_1 : decode cX10_district 1 = .ok (.iload_n 1, 1) := by decide +kernel
theorem dX10_district_2 : decode cX10_district 2 = .ok (.invokevirtual 367, 3) := by decide +kernel
theorem dX10_district_5 : decode cX10_district 5 = .ok (.ifCond .eq 13, 3) := by decide +kernel
theorem dX10_district_8 : decode cX10_district 8 = .ok (.iload_n 2, 1) := by decide +kernel
theorem dX10_district_9 : decode cX10_district 9 = .ok (.i2l, 1) := by decide +kernel
theorem dX10_district_10 : decode cX10_district 10 = .ok (.lconst 0, 1) := by decide +kernel
theorem dX10_district_11 : decode cX10_district 11 = .ok (.lconst 1, 1) := by decide +kernel
theorem dX10_district_12 : decode cX10_district 12 = .ok (.invokestatic 152, 3) := by decide +kernel
theorem dX10_district_15 : decode cX10_district 15 = .ok (.ifCond .ne 5, 3) := by decide +kernel
theorem dX10_district_18 : decode cX10_district 18 = .ok (.iconst (-1), 1) := by decide +kernel
theorem dX10_district_19 : decode cX10_district 19 = .ok (.ireturn, 1) := by decide +kernel
theorem dX10_district_20 : decode cX10_district 20 = .ok (.bipush (-2), 2) := by decide +kernel
theorem dX10_district_22 : decode cX10_district 22 = .ok (.istore_n 3, 1) := by decide +kernel
theorem dX10_district_23 : decode cX10_district 23 = .ok (.bipush (-2), 2) := by decide +kernel
theorem dX10_district_25 : decode cX10_district 25 = .ok (.istore 4, 2) := by decide +kernel
theorem dX10_district_27 : decode cX10_district 27 = .ok (.iconst 0, 1) := by decide +kernel
theorem dX10_district_28 : decode cX10_district 28 = .ok (.istore 5, 2) := by decide +kernel
theorem dX10_district_30 : decode cX10_district 30 = .ok (.iload 5, 2) := by decide +kernel
theorem dX10_district_32 : decode cX10_district 32 = .ok (.aload_n 0, 1) := by decide +kernel
theorem dX10_district_33 : decode cX10_district 33 = .ok (.getfield 9, 3) := by decide +kernel
theorem dX10_district_36 : decode cX10_district 36 = .ok (.iconst 5, 1) := by decide +kernel
theorem dX10_district_37 : decode cX10_district 37 = .ok (.iaload, 1) := by decide +kernel
theorem dX10_district_38 : decode cX10_district 38 = .ok (.if_icmp .ge 49, 3) := by decide +kernel
theorem dX10_district_41 : decode cX10_district 41 = .ok (.aload_n 0, 1) := by decide +kernel
theorem dX10_district_42 : decode cX10_district 42 = .ok (.aload_n 0, 1) := by decide +kernel
theorem dX10_district_43 : decode cX10_district 43 = .ok (.getfield 31, 3) := by decide +kernel
theorem dX10_district_46 : decode cX10_district 46 = .ok (.iload 5, 2) := by decide +kernel
theorem dX10_district_48 : decode cX10_district 48 = .ok (.iaload, 1) := by decide +kernel
theorem dX10_district_49 : decode cX10_district 49 = .ok (.iload_n 1, 1) := by decide +kernel
theorem dX10_district_50 : decode cX10_district 50 = .ok (.invokevirtual 478, 3) := by decide +kernel
theorem dX10_district_53 : decode cX10_district 53 = .ok (.istore 6, 2) := by decide +kernel
theorem dX10_district_55 : decode cX10_district 55 = .ok (.iload 6, 2) := by decide +kernel
theorem dX10_district_57 : decode cX10_district 57 = .ok (.iconst (-1), 1) := by decide +kernel
theorem dX10_district_58 : decode cX10_district 58 = .ok (.if_icmp .eq 23, 3) := by decide +kernel
theorem dX10_district_61 : decode cX10_district 61 = .ok (.iload_n 3, 1) := by decide +kernel
theorem dX10_district_62 : decode cX10_district 62 = .ok (.bipush (-2), 2) := by decide +kernel
theorem dX10_district_64 : decode cX10_district 64 = .ok (.if_icmp .eq 10, 3) := by decide +kernel
theorem dX10_district_67 : decode cX10_district 67 = .ok (.iload 6, 2) := by decide +kernel
theorem dX10_district_69 : decode cX10_district 69 = .ok (.iload 4, 2) := by decide +kernel
theorem dX10_district_71 : decode cX10_district 71 = .ok (.if_icmp .ge 10, 3) := by decide +kernel
theorem dX10_district_74 : decode cX10_district 74 = .ok (.iload 5, 2) := by decide +kernel
theorem dX10_district_76 : decode cX10_district 76 = .ok (.istore_n 3, 1) := by decide +kernel
theorem dX10_district_77 : decode cX10_district 77 = .ok (.iload 6, 2) := by decide +kernel
theorem dX10_district_79 : decode cX10_district 79 = .ok (.istore 4, 2) := by decide +kernel
theorem dX10_district_81 : decode cX10_district 81 = .ok (.iinc 5 1, 3) := by decide +kernel
theorem dX10_district_84 : decode cX10_district 84 = .ok (.goto (-54), 3) := by decide +kernel
theorem dX10_district_87 : decode cX10_district 87 = .ok (.iload_n 2, 1) := by decide +kernel
theorem dX10_district_88 : decode cX10_district 88 = .ok (.ifCond .ne 7, 3) := by decide +kernel
theorem dX10_district_91 : decode cX10_district 91 = .ok (.iload_n 3, 1) := by decide +kernel
theorem dX10_district_92 : decode cX10_district 92 = .ok (.goto 5, 3) := by decide +kernel
theorem dX10_district_95 : decode cX10_district 95 = .ok (.iload 4, 2) := by decide +kernel
theorem dX10_district_97 : decode cX10_district 97 = .ok (.ireturn, 1) := by decide +kernel
theorem dX10_hats_0 : decode cX10_hats 0 = .ok (.aload_n 0, 1) := by decide +kernel
theorem dX10_hats_1 : decode cX10_hats 1 = .ok (.getfield 327, 3) := by decide +kernel
theorem dX10_hats_4 : decode cX10_hats 4 = .ok (.ifCond .eq 25, 3) := by decide +kernel
theorem dX10_hats_7 : decode cX10_hats 7 = .ok (.iload_n 1, 1) := by decide +kernel
theorem dX10_hats_8 : decode cX10_hats 8 = .ok (.i2l, 1) := by decide +kernel
theorem dX10_hats_9 : decode cX10_hats 9 = .ok (.lconst 1, 1) := by decide +kernel
theorem dX10_hats_10 : decode cX10_hats 10 = .ok (.ldc2_w 481, 3) := by decide +kernel
theorem dX10_hats_13 : decode cX10_hats 13 = .ok (.invokestatic 152, 3) := by decide +kernel
theorem dX10_hats_16 : decode cX10_hats 16 = .ok (.ifCond .eq 13, 3) := by decide +kernel
theorem dX10_hats_19 : decode cX10_hats 19 = .ok (.iload_n 2, 1) := by decide +kernel
theorem dX10_hats_20 : decode cX10_hats 20 = .ok (.i2l, 1) := by decide +kernel
theorem dX10_hats_21 : decode cX10_hats 21 = .ok (.lconst 0, 1) := by decide +kernel
theorem dX10_hats_22 : decode cX10_hats 22 = .ok (.lconst 1, 1) := by decide +kernel
theorem dX10_hats_23 : decode cX10_hats 23 = .ok (.invokestatic 152, 3) := by decide +kernel
theorem dX10_hats_26 : decode cX10_hats 26 = .ok (.ifCond .ne 5, 3) := by decide +kernel
theorem dX10_hats_29 : decode cX10_hats 29 = .ok (.iconst (-1), 1) := by decide +kernel
theorem dX10_hats_30 : decode cX10_hats 30 = .ok (.ireturn, 1) := by decide +kernel
theorem dX10_hats_31 : decode cX10_hats 31 = .ok (.bipush (-2), 2) := by decide +kernel
theorem dX10_hats_33 : decode cX10_hats 33 = .ok (.istore_n 3, 1) := by decide +kernel
theorem dX10_hats_34 : decode cX10_hats 34 = .ok (.iconst 0, 1) := by decide +kernel
theorem dX10_hats_35 : decode cX10_hats 35 = .ok (.istore 4, 2) := by decide +kernel
theorem dX10_hats_37 : decode cX10_hats 37 = .ok (.iload 4, 2) := by decide +kernel
theorem dX10_hats_39 : decode cX10_hats 39 = .ok (.iconst 1, 1) := by decide +kernel
theorem dX10_hats_40 : decode cX10_hats 40 = .ok (.aload_n 0, 1) := by decide +kernel
theorem dX10_hats_41 : decode cX10_hats 41 = .ok (.getfield 9, 3) := by decide +kernel
theorem dX10_hats_44 : decode cX10_hats 44 = .ok (.iconst 3, 1) := by decide +kernel
theorem dX10_hats_45 : decode cX10_hats 45 = .ok (.iaload, 1) := by decide +kernel
theorem dX10_hats_46 : decode cX10_hats 46 = .ok (.ishl, 1) := by decide +kernel
theorem dX10_hats_47 : decode cX10_hats 47 = .ok (.if_icmp .ge 89, 3) := by decide +kernel
theorem dX10_hats_50 : decode cX10_hats 50 = .ok (.iconst 0, 1) := by decide +kernel
theorem dX10_hats_51 : decode cX10_hats 51 = .ok (.istore 5, 2) := by decide +kernel
theorem dX10_hats_53 : decode cX10_hats 53 = .ok (.iconst 0, 1) := by decide +kernel
theorem dX10_hats_54 : decode cX10_hats 54 = .ok (.istore 6, 2) := by decide +kernel
theorem dX10_hats_56 : decode cX10_hats 56 = .ok (.iload 6, 2) := by decide +kernel
theorem dX10_hats_58 : decode cX10_hats 58 = .ok (.aload_n 0, 1) := by decide +kernel
theorem dX10_hats_59 : decode cX10_hats 59 = .ok (.getfield 9, 3) := by decide +kernel
theorem dX10_hats_62 : decode cX10_hats 62 = .ok (.iconst 3, 1) := by decide +kernel
theorem dX10_hats_63 : decode cX10_hats 63 = .ok (.iaload, 1) := by decide +kernel
theorem dX10_hats_64 : decode cX10_hats 64 = .ok (.if_icmp .ge 35, 3) := by decide +kernel
theorem dX10_hats_67 : decode cX10_hats 67 = .ok (.iload 5, 2) := by decide +kernel
theorem dX10_hats_69 : decode cX10_hats 69 = .ok (.iload 4, 2) := by decide +kernel
theorem dX10_hats_71 : decode cX10_hats 71 = .ok (.iload 6, 2) := by decide +kernel
theorem dX10_hats_73 : decode cX10_hats 73 = .ok (.invokestatic 156, 3) := by decide +kernel
theorem dX10_hats_76 : decode cX10_hats 76 = .ok (.ifCond .eq 13, 3) := by decide +kernel
theorem dX10_hats_79 : decode cX10_hats 79 = .ok (.aload_n 0, 1) := by decide +kernel
theorem dX10_hats_80 : decode cX10_hats 80 = .ok (.getfield 22, 3) := by decide +kernel
theorem dX10_hats_83 : decode cX10_hats 83 = .ok (.iload 6, 2) := by decide +kernel
theorem dX10_hats_85 : decode cX10_hats 85 = .ok (.iaload, 1) := by decide +kernel
theorem dX10_hats_86 : decode cX10_hats 86 = .ok (.goto 4, 3) := by decide +kernel
theorem dX10_hats_89 : decode cX10_hats 89 = .ok (.iconst 0, 1) := by decide +kernel
theorem dX10_hats_90 : decode cX10_hats 90 = .ok (.iadd, 1) := by decide +kernel
theorem dX10_hats_91 : decode cX10_hats 91 = .ok (.istore 5, 2) := by decide +kernel
theorem dX10_hats_93 : decode cX10_hats 93 = .ok (.iinc 6 1, 3) := by decide +kernel
theorem dX10_hats_96 : decode cX10_hats 96 = .ok (.goto (-40), 3) := by decide +kernel
theorem dX10_hats_99 : decode cX10_hats 99 = .ok (.iload 5, 2) := by decide +kernel
theorem dX10_hats_101 : decode cX10_hats 101 = .ok (.iload_n 1, 1) := by decide +kernel
theorem dX10_hats_102 : decode cX10_hats 102 = .ok (.if_icmp .lt 26, 3) := by decide +kernel
theorem dX10_hats_105 : decode cX10_hats 105 = .ok (.iload_n 3, 1) := by decide +kernel
theorem dX10_hats_106 : decode cX10_hats 106 = .ok (.bipush (-2), 2) := by decide +kernel
theorem dX10_hats_108 : decode cX10_hats 108 = .ok (.if_icmp .eq 15, 3) := by decide +kernel
theorem dX10_hats_111 : decode cX10_hats 111 = .ok (.iload 4, 2) := by decide +kernel
theorem dX10_hats_113 : decode cX10_hats 113 = .ok (.invokestatic 380, 3) := by decide +kernel
theorem dX10_hats_116 : decode cX10_hats 116 = .ok (.iload_n 3, 1) := by decide +kernel
theorem dX10_hats_117 : decode cX10_hats 117 = .ok (.invokestatic 380, 3) := by decide +kernel
theorem dX10_hats_120 : decode cX10_hats 120 = .ok (.if_icmp .ge 8, 3) := by decide +kernel
theorem dX10_hats_123 : decode cX10_hats 123 = .ok (.iload 4, 2) := by decide +kernel
theorem dX10_hats_125 : decode cX10_hats 125 = .ok (.goto 4, 3) := by decide +kernel
theorem dX10_hats_128 : decode cX10_hats 128 = .ok (.iload_n 3, 1) := by decide +kernel
theorem dX10_hats_129 : decode cX10_hats 129 = .ok (.istore_n 3, 1) := by decide +kernel
theorem dX10_hats_130 : decode cX10_hats 130 = .ok (.iinc 4 1, 3) := by decide +kernel
theorem dX10_hats_133 : decode cX10_hats 133 = .ok (.goto (-96), 3) := by decide +kernel
theorem dX10_hats_136 : decode cX10_hats 136 = .ok (.iload_n 3, 1) := by decide +kernel
theorem dX10_hats_137 : decode cX10_hats 137 = .ok (.bipush (-2), 2) := by decide +kernel
theorem dX10_hats_139 : decode cX10_hats 139 = .ok (.if_icmp .eq 8, 3) := by decide +kernel
theorem dX10_hats_142 : decode cX10_hats 142 = .ok (.iload_n 2, 1) := by decide +kernel
theorem dX10_hats_143 : decode cX10_hats 143 = .ok (.iconst 1, 1) := by decide +kernel
theorem dX10_hats_144 : decode cX10_hats 144 = .ok (.if_icmp .ne 7, 3) := by decide +kernel
theorem dX10_hats_147 : decode cX10_hats 147 = .ok (.iload_n 3, 1) := by decide +kernel
theorem dX10_hats_148 : decode cX10_hats 148 = .ok (.goto 7, 3) := by decide +kernel
theorem dX10_hats_151 : decode cX10_hats 151 = .ok (.iload_n 3, 1) := by decide +kernel
theorem dX10_hats_152 : decode cX10_hats 152 = .ok (.invokestatic 380, 3) := by decide +kernel
theorem dX10_hats_155 : decode cX10_hats 155 = .ok (.ireturn, 1) := by decide +kernel
theorem dX10_book_0 : decode cX10_book 0 = .ok (.iload_n 1, 1) := by decide +kernel
theorem dX10_book_1 : decode cX10_book 1 = .ok (.iconst (-1), 1) := by decide +kernel
theorem dX10_book_2 : decode cX10_book 2 = .ok (.if_icmp .ne 13, 3) := by decide +kernel
theorem dX10_book_5 : decode cX10_book 5 = .ok (.aload_n 0, 1) := by decide +kernel
theorem dX10_book_6 : decode cX10_book 6 = .ok (.getfield 9, 3) := by decide +kernel
theorem dX10_book_9 : decode cX10_book 9 = .ok (.bipush 9, 2) := by decide +kernel
theorem dX10_book_11 : decode cX10_book 11 = .ok (.iconst 0, 1) := by decide +kernel
theorem dX10_book_12 : decode cX10_book 12 = .ok (.iastore, 1) := by decide +kernel
theorem dX10_book_13 : decode cX10_book 13 = .ok (.iconst 0, 1) := by decide +kernel
theorem dX10_book_14 : decode cX10_book 14 = .ok (.ireturn, 1) := by decide +kernel
theorem dX10_book_15 : decode cX10_book 15 = .ok (.aload_n 0, 1) := by decide +kernel
theorem dX10_book_16 : decode cX10_book 16 = .ok (.getfield 9, 3) := by decide +kernel
theorem dX10_book_19 : decode cX10_book 19 = .ok (.bipush 9, 2) := by decide +kernel
theorem dX10_book_21 : decode cX10_book 21 = .ok (.iaload, 1) := by decide +kernel
theorem dX10_book_22 : decode cX10_book 22 = .ok (.istore 4, 2) := by decide +kernel
theorem dX10_book_24 : decode cX10_book 24 = .ok (.iload_n 1, 1) := by decide +kernel
theorem dX10_book_25 : decode cX10_book 25 = .ok (.i2l, 1) := by decide +kernel
theorem dX10_book_26 : decode cX10_book 26 = .ok (.lconst 0, 1) := by decide +kernel
theorem dX10_book_27 : decode cX10_book 27 = .ok (.ldc2_w 471, 3) := by decide +kernel
theorem dX10_book_30 : decode cX10_book 30 = .ok (.invokestatic 152, 3) := by decide +kernel
theorem dX10_book_33 : decode cX10_book 33 = .ok (.ifCond .eq 30, 3) := by decide +kernel
theorem dX10_book_36 : decode cX10_book 36 = .ok (.aload_n 0, 1) := by decide +kernel
theorem dX10_book_37 : decode cX10_book 37 = .ok (.iload_n 2, 1) := by decide +kernel
theorem dX10_book_38 : decode cX10_book 38 = .ok (.invokevirtual 367, 3) := by decide +kernel
theorem dX10_book_41 : decode cX10_book 41 = .ok (.ifCond .eq 22, 3) := by decide +kernel
theorem dX10_book_44 : decode cX10_book 44 = .ok (.iload_n 3, 1) := by decide +kernel
theorem dX10_book_45 : decode cX10_book 45 = .ok (.i2l, 1) := by decide +kernel
theorem dX10_book_46 : decode cX10_book 46 = .ok (.lconst 0, 1) := by decide +kernel
theorem dX10_book_47 : decode cX10_book 47 = .ok (.ldc2_w 483, 3) := by decide +kernel
theorem dX10_book_50 : decode cX10_book 50 = .ok (.invokestatic 152, 3) := by decide +kernel
theorem dX10_book_53 : decode cX10_book 53 = .ok (.ifCond .eq 10, 3) := by decide +kernel
theorem dX10_book_56 : decode cX10_book 56 = .ok (.iload 4, 2) := by decide +kernel
theorem dX10_book_58 : decode cX10_book 58 = .ok (.bipush 10, 2) := by decide +kernel
theorem dX10_book_60 : decode cX10_book 60 = .ok (.if_icmp .ne 6, 3) := by decide +kernel
theorem dX10_book_63 : decode cX10_book 63 = .ok (.bipush (-2), 2) := by decide +kernel
theorem dX10_book_65 : decode cX10_book 65 = .ok (.ireturn, 1) := by decide +kernel
theorem dX10_book_66 : decode cX10_book 66 = .ok (.aload_n 0, 1) := by decide +kernel
theorem dX10_book_67 : decode cX10_book 67 = .ok (.getfield 43, 3) := by decide +kernel
theorem dX10_book_70 : decode cX10_book 70 = .ok (.iload 4, 2) := by decide +kernel
theorem dX10_book_72 : decode cX10_book 72 = .ok (.iload_n 1, 1) := by decide +kernel
theorem dX10_book_73 : decode cX10_book 73 = .ok (.iastore, 1) := by decide +kernel
theorem dX10_book_74 : decode cX10_book 74 = .ok (.aload_n 0, 1) := by decide +kernel
theorem dX10_book_75 : decode cX10_book 75 = .ok (.getfield 46, 3) := by decide +kernel
theorem dX10_book_78 : decode cX10_book 78 = .ok (.iload 4, 2) := by decide +kernel
theorem dX10_book_80 : decode cX10_book 80 = .ok (.iload_n 2, 1) := by decide +kernel
theorem dX10_book_81 : decode cX10_book 81 = .ok (.iastore, 1) := by decide +kernel
theorem dX10_book_82 : decode cX10_book 82 = .ok (.aload_n 0, 1) := by decide +kernel
theorem dX10_book_83 : decode cX10_book 83 = .ok (.getfield 49, 3) := by decide +kernel
theorem dX10_book_86 : decode cX10_book 86 = .ok (.iload 4, 2) := by decide +kernel
theorem dX10_book_88 : decode cX10_book 88 = .ok (.iload_n 3, 1) := by decide +kernel
theorem dX10_book_89 : decode cX10_book 89 = .ok (.iastore, 1) := by decide +kernel
theorem dX10_book_90 : decode cX10_book 90 = .ok (.aload_n 0, 1) := by decide +kernel
theorem dX10_book_91 : decode cX10_book 91 = .ok (.getfield 9, 3) := by decide +kernel
theorem dX10_book_94 : decode cX10_book 94 = .ok (.bipush 9, 2) := by decide +kernel
theorem dX10_book_96 : decode cX10_book 96 = .ok (.dup2, 1) := by decide +kernel
theorem dX10_book_97 : decode cX10_book 97 = .ok (.iaload, 1) := by decide +kernel
theorem dX10_book_98 : decode cX10_book 98 = .ok (.iconst 1, 1) := by decide +kernel
theorem dX10_book_99 : decode cX10_book 99 = .ok (.iadd, 1) := by decide +kernel
theorem dX10_book_100 : decode cX10_book 100 = .ok (.iastore, 1) := by decide +kernel
theorem dX10_book_101 : decode cX10_book 101 = .ok (.iload 4, 2) := by decide +kernel
theorem dX10_book_103 : decode cX10_book 103 = .ok (.iconst 1, 1) := by decide +kernel
theorem dX10_book_104 : decode cX10_book 104 = .ok (.iadd, 1) := by decide +kernel
theorem dX10_book_105 : decode cX10_book 105 = .ok (.ireturn, 1) := by decide +kernel
theorem dX10_couldRule_0 : decode cX10_couldRule 0 = .ok (.aload_n 0, 1) := by decide +kernel
theorem dX10_couldRule_1 : decode cX10_couldRule 1 = .ok (.getfield 9, 3) := by decide +kernel
theorem dX10_couldRule_4 : decode cX10_couldRule 4 = .ok (.bipush 11, 2) := by decide +kernel
theorem dX10_couldRule_6 : decode cX10_couldRule 6 = .ok (.iload_n 1, 1) := by decide +kernel
theorem dX10_couldRule_7 : decode cX10_couldRule 7 = .ok (.iastore, 1) := by decide +kernel
theorem dX10_couldRule_8 : decode cX10_couldRule 8 = .ok (.aload_n 0, 1) := by decide +kernel
theorem dX10_couldRule_9 : decode cX10_couldRule 9 = .ok (.invokevirtual 331, 3) := by decide +kernel
theorem dX10_couldRule_12 : decode cX10_couldRule 12 = .ok (.iconst 1, 1) := by decide +kernel
theorem dX10_couldRule_13 : decode cX10_couldRule 13 = .ok (.istore_n 3, 1) := by decide +kernel
theorem dX10_couldRule_14 : decode cX10_couldRule 14 = .ok (.iconst 0, 1) := by decide +kernel
theorem dX10_couldRule_15 : decode cX10_couldRule 15 = .ok (.istore 4, 2) := by decide +kernel
theorem dX10_couldRule_17 : decode cX10_couldRule 17 = .ok (.iload 4, 2) := by decide +kernel
theorem dX10_couldRule_19 : decode cX10_couldRule 19 = .ok (.bipush 60, 2) := by decide +kernel
theorem dX10_couldRule_21 : decode cX10_couldRule 21 = .ok (.if_icmp .gt 96, 3) := by decide +kernel
theorem dX10_couldRule_24 : decode cX10_couldRule 24 = .ok (.aload_n 0, 1) := by decide +kernel
theorem dX10_couldRule_25 : decode cX10_couldRule 25 = .ok (.invokevirtual 411, 3) := by decide +kernel
theorem dX10_couldRule_28 : decode cX10_couldRule 28 = .ok (.pop, 1) := by decide +kernel
theorem dX10_couldRule_29 : decode cX10_couldRule 29 = .ok (.iconst 0, 1) := by decide +kernel
theorem dX10_couldRule_30 : decode cX10_couldRule 30 = .ok (.istore 5, 2) := by decide +kernel
theorem dX10_couldRule_32 : decode cX10_couldRule 32 = .ok (.iload 5, 2) := by decide +kernel
theorem dX10_couldRule_34 : decode cX10_couldRule 34 = .ok (.aload_n 0, 1) := by decide +kernel
theorem dX10_couldRule_35 : decode cX10_couldRule 35 = .ok (.getfield 9, 3) := by decide +kernel
theorem dX10_couldRule_38 : decode cX10_couldRule 38 = .ok (.bipush 9, 2) := by decide +kernel
theorem dX10_couldRule_40 : decode cX10_couldRule 40 = .ok (.iaload, 1) := by decide +kernel
theorem dX10_couldRule_41 : decode cX10_couldRule 41 = .ok (.if_icmp .ge 53, 3) := by decide +kernel
theorem dX10_couldRule_44 : decode cX10_couldRule 44 = .ok (.iload_n 3, 1) := by decide +kernel
theorem dX10_couldRule_45 : decode cX10_couldRule 45 = .ok (.ifCond .eq 41, 3) := by decide +kernel
theorem dX10_couldRule_48 : decode cX10_couldRule 48 = .ok (.aload_n 0, 1) := by decide +kernel
theorem dX10_couldRule_49 : decode cX10_couldRule 49 = .ok (.getfield 43, 3) := by decide +kernel
theorem dX10_couldRule_52 : decode cX10_couldRule 52 = .ok (.iload 5, 2) := by decide +kernel
theorem dX10_couldRule_54 : decode cX10_couldRule 54 = .ok (.iaload, 1) := by decide +kernel
theorem dX10_couldRule_55 : decode cX10_couldRule 55 = .ok (.iload 4, 2) := by decide +kernel
theorem dX10_couldRule_57 : decode cX10_couldRule 57 = .ok (.if_icmp .ne 25, 3) := by decide +kernel
theorem dX10_couldRule_60 : decode cX10_couldRule 60 = .ok (.aload_n 0, 1) := by decide +kernel
theorem dX10_couldRule_61 : decode cX10_couldRule 61 = .ok (.getfield 13, 3) := by decide +kernel
theorem dX10_couldRule_64 : decode cX10_couldRule 64 = .ok (.aload_n 0, 1) := by decide +kernel
theorem dX10_couldRule_65 : decode cX10_couldRule 65 = .ok (.getfield 46, 3) := by decide +kernel
theorem dX10_couldRule_68 : decode cX10_couldRule 68 = .ok (.iload 5, 2) := by decide +kernel
theorem dX10_couldRule_70 : decode cX10_couldRule 70 = .ok (.iaload, 1) := by decide +kernel
theorem dX10_couldRule_71 : decode cX10_couldRule 71 = .ok (.iaload, 1) := by decide +kernel
theorem dX10_couldRule_72 : decode cX10_couldRule 72 = .ok (.aload_n 0, 1) := by decide +kernel
theorem dX10_couldRule_73 : decode cX10_couldRule 73 = .ok (.getfield 49, 3) := by decide +kernel
theorem dX10_couldRule_76 : decode cX10_couldRule 76 = .ok (.iload 5, 2) := by decide +kernel
theorem dX10_couldRule_78 : decode cX10_couldRule 78 = .ok (.iaload, 1) := by decide +kernel
theorem dX10_couldRule_79 : decode cX10_couldRule 79 = .ok (.if_icmp .ne 7, 3) := by decide +kernel
theorem dX10_couldRule_82 : decode cX10_couldRule 82 = .ok (.iconst 1, 1) := by decide +kernel
theorem dX10_couldRule_83 : decode cX10_couldRule 83 = .ok (.goto 4, 3) := by decide +kernel
theorem dX10_couldRule_86 : decode cX10_couldRule 86 = .ok (.iconst 0, 1) := by decide +kernel
theorem dX10_couldRule_87 : decode cX10_couldRule 87 = .ok (.istore_n 3, 1) := by decide +kernel
theorem dX10_couldRule_88 : decode cX10_couldRule 88 = .ok (.iinc 5 1, 3) := by decide +kernel
theorem dX10_couldRule_91 : decode cX10_couldRule 91 = .ok (.goto (-59), 3) := by decide +kernel
theorem dX10_couldRule_94 : decode cX10_couldRule 94 = .ok (.iload 4, 2) := by decide +kernel
theorem dX10_couldRule_96 : decode cX10_couldRule 96 = .ok (.iload_n 2, 1) := by decide +kernel
theorem dX10_couldRule_97 : decode cX10_couldRule 97 = .ok (.if_icmp .ne 14, 3) := by decide +kernel
theorem dX10_couldRule_100 : decode cX10_couldRule 100 = .ok (.aload_n 0, 1) := by decide +kernel
theorem dX10_couldRule_101 : decode cX10_couldRule 101 = .ok (.getfield 13, 3) := by decide +kernel
theorem dX10_couldRule_104 : decode cX10_couldRule 104 = .ok (.aload_n 0, 1) := by decide +kernel
theorem dX10_couldRule_105 : decode cX10_couldRule 105 = .ok (.getfield 133, 3) := by decide +kernel
theorem dX10_couldRule_108 : decode cX10_couldRule 108 = .ok (.invokestatic 320, 3) := by decide +kernel
theorem dX10_couldRule_111 : decode cX10_couldRule 111 = .ok (.iinc 4 1, 3) := by decide +kernel
theorem dX10_couldRule_114 : decode cX10_couldRule 114 = .ok (.goto (-97), 3) := by decide +kernel
theorem dX10_couldRule_117 : decode cX10_couldRule 117 = .ok (.aload_n 0, 1) := by decide +kernel
theorem dX10_couldRule_118 : decode cX10_couldRule 118 = .ok (.invokevirtual 454, 3) := by decide +kernel
theorem dX10_couldRule_121 : decode cX10_couldRule 121 = .ok (.iload_n 3, 1) := by decide +kernel
theorem dX10_couldRule_122 : decode cX10_couldRule 122 = .ok (.ireturn, 1) := by decide +kernel
theorem dX10_ruled_0 : decode cX10_ruled 0 = .ok (.aload_n 0, 1) := by decide +kernel
theorem dX10_ruled_1 : decode cX10_ruled 1 = .ok (.getfield 327, 3) := by decide +kernel
theorem dX10_ruled_4 : decode cX10_ruled 4 = .ok (.ifCond .eq 13, 3) := by decide +kernel
theorem dX10_ruled_7 : decode cX10_ruled 7 = .ok (.iload_n 1, 1) := by decide +kernel
theorem dX10_ruled_8 : decode cX10_ruled 8 = .ok (.i2l, 1) := by decide +kernel
theorem dX10_ruled_9 : decode cX10_ruled 9 = .ok (.lconst 0, 1) := by decide +kernel
theorem dX10_ruled_10 : decode cX10_ruled 10 = .ok (.lconst 1, 1) := by decide +kernel
theorem dX10_ruled_11 : decode cX10_ruled 11 = .ok (.invokestatic 152, 3) := by decide +kernel
theorem dX10_ruled_14 : decode cX10_ruled 14 = .ok (.ifCond .ne 6, 3) := by decide +kernel
theorem dX10_ruled_17 : decode cX10_ruled 17 = .ok (.bipush (-3), 2) := by decide +kernel
theorem dX10_ruled_19 : decode cX10_ruled 19 = .ok (.ireturn, 1) := by decide +kernel
theorem dX10_ruled_20 : decode cX10_ruled 20 = .ok (.aload_n 0, 1) := by decide +kernel
theorem dX10_ruled_21 : decode cX10_ruled 21 = .ok (.invokevirtual 448, 3) := by decide +kernel
theorem dX10_ruled_24 : decode cX10_ruled 24 = .ok (.iconst 0, 1) := by decide +kernel
theorem dX10_ruled_25 : decode cX10_ruled 25 = .ok (.istore_n 2, 1) := by decide +kernel
theorem dX10_ruled_26 : decode cX10_ruled 26 = .ok (.bipush (-2), 2) := by decide +kernel
theorem dX10_ruled_28 : decode cX10_ruled 28 = .ok (.istore_n 3, 1) := by decide +kernel
theorem dX10_ruled_29 : decode cX10_ruled 29 = .ok (.iconst (-1), 1) := by decide +kernel
theorem dX10_ruled_30 : decode cX10_ruled 30 = .ok (.istore 4, 2) := by decide +kernel
theorem dX10_ruled_32 : decode cX10_ruled 32 = .ok (.iload 4, 2) := by decide +kernel
theorem dX10_ruled_34 : decode cX10_ruled 34 = .ok (.aload_n 0, 1) := by decide +kernel
theorem dX10_ruled_35 : decode cX10_ruled 35 = .ok (.getfield 347, 3) := by decide +kernel
theorem dX10_ruled_38 : decode cX10_ruled 38 = .ok (.if_icmp .ge 33, 3) := by decide +kernel
theorem dX10_ruled_41 : decode cX10_ruled 41 = .ok (.aload_n 0, 1) := by decide +kernel
theorem dX10_ruled_42 : decode cX10_ruled 42 = .ok (.iload 4, 2) := by decide +kernel
theorem dX10_ruled_44 : decode cX10_ruled 44 = .ok (.iconst (-1), 1) := by decide +kernel
theorem dX10_ruled_45 : decode cX10_ruled 45 = .ok (.invokevirtual 485, 3) := by decide +kernel
theorem dX10_ruled_48 : decode cX10_ruled 48 = .ok (.ifCond .eq 17, 3) := by decide +kernel
theorem dX10_ruled_51 : decode cX10_ruled 51 = .ok (.iload_n 2, 1) := by decide +kernel
theorem dX10_ruled_52 : decode cX10_ruled 52 = .ok (.ifCond .ne 8, 3) := by decide +kernel
theorem dX10_ruled_55 : decode cX10_ruled 55 = .ok (.iload 4, 2) := by decide +kernel
theorem dX10_ruled_57 : decode cX10_ruled 57 = .ok (.goto 4, 3) := by decide +kernel
theorem dX10_ruled_60 : decode cX10_ruled 60 = .ok (.iload_n 3, 1) := by decide +kernel
theorem dX10_ruled_61 : decode cX10_ruled 61 = .ok (.istore_n 3, 1) := by decide +kernel
theorem dX10_ruled_62 : decode cX10_ruled 62 = .ok (.iinc 2 1, 3) := by decide +kernel
theorem dX10_ruled_65 : decode cX10_ruled 65 = .ok (.iinc 4 1, 3) := by decide +kernel
theorem dX10_ruled_68 : decode cX10_ruled 68 = .ok (.goto (-36), 3) := by decide +kernel
theorem dX10_ruled_71 : decode cX10_ruled 71 = .ok (.iload_n 1, 1) := by decide +kernel
theorem dX10_ruled_72 : decode cX10_ruled 72 = .ok (.ifCond .ne 7, 3) := by decide +kernel
theorem dX10_ruled_75 : decode cX10_ruled 75 = .ok (.iload_n 2, 1) := by decide +kernel
theorem dX10_ruled_76 : decode cX10_ruled 76 = .ok (.goto 4, 3) := by decide +kernel
theorem dX10_ruled_79 : decode cX10_ruled 79 = .ok (.iload_n 3, 1) := by decide +kernel
theorem dX10_ruled_80 : decode cX10_ruled 80 = .ok (.ireturn, 1) := by decide +kernel
def fX10_logs_B81 (p1 : Int32) (p2 : Int32) (k40 : Int32 → Int32 → St → Option (Int32 × St)) (y4 : Int32) (z0 : Int32) (st : St) : Option (Int32 × St) := br (fX10_laysBack st) (fun s2 => nm (y4 + (1 : Int32)) (fun x3 => k40 z0 x3 s2))
set_option maxRecDepth 100000 in
theorem wX10_logs_B81 {p : Program} {l : Launch} {e : Env} {s : State} {m : MethodId} {args : Array Value} {below : List Frame} {meth : Method} {c : Code} {E : Ev} (hL : ∀ k, fxM k = true → k ∈ eL E) {p1 : Int32} {p2 : Int32} {sz : Nat} {res : (Int32 × St)} (X : CX p s m args c E RX10 cX10_logs 5 (Af E sz)) (hr : meth.sig.returnType = (some .int)) (hlk : meth.locks = false) {k40 : Int32 → Int32 → St → Option (Int32 × St)} (hk40 : ∀ (y3 : Int32) (y4 : Int32) (st : St) (H : Heap) (locs : List Loc), k40 y3 y4 st = some res → Gd E st (Af E sz) s H locs → ∀ ls : Array Slot, lv_has ls 5 [(0, .ref (eq E 500)), (1, .int p1), (2, .int p2), (3, .int y3), (4, .int y4)] → W p l e (rmk 8) s m args below meth c H locs 0 0 (MQ below (QWi E res.2 sz res.1) args s 0 0 (Af E sz)) (F0 m 40 ls [])) : ∀ (y4 : Int32) (z0 : Int32) (st : St) (H : Heap) (locs : List Loc), fX10_logs_B81 p1 p2 k40 y4 z0 st = some res → Gd E st (Af E sz) s H locs → ∀ ls : Array Slot, lv_has ls 5 [(0, .ref (eq E 500)), (1, .int p1), (2, .int p2), (4, .int y4)] → W p l e (rmk 8) s m args below meth c H locs 0 0 (MQ below (QWi E res.2 sz res.1) args s 0 0 (Af E sz)) (F0 m 81 ls [.int z0]) := by
  have hx := X.1.1
  have hb := X.1.2.1
  intro y4 z0 st H locs hf G ls hl
  unfold fX10_logs_B81 at hf
  refine lv_istore_n (lv' := [(3, .int z0), (0, .ref (eq E 500)), (1, .int p1), (2, .int p2), (4, .int y4)]) hx hb dX10_logs_81 rfl hl (by decide) rfl (fun ls hl => ?_)
  refine lv_aload_n hx hb dX10_logs_82 rfl (lv_at hl 1 rfl) ?_
  obtain ⟨s2, h1, hf⟩ := br_s hf
  refine cVWv (As := []) (rest := []) X G kc_X10_454 (tX10_laysBack l E st _ hL   h1) (rcv X G (hL 500 rfl) (cO10 rfl) rfl) rfl rfl (rmk_le (by omega) (by decide)) rfl hl.1 rfl (Nat.le_of_ble_eq_true rfl) dX10_logs_83 ⟨Nat.zero_le _, Nat.zero_le _⟩ (fun H locs G => ?_)
  obtain ⟨x3, ex3⟩ : ∃ y : Int32, y = (y4 + (1 : Int32)) := ⟨_, rfl⟩
  have hf := nm_s hf x3 ex3
  refine lv_iinc (k := 4) (v := x3) (lv' := [(4, .int x3), (3, .int z0), (0, .ref (eq E 500)), (1, .int p1), (2, .int p2)]) hx hb dX10_logs_86 hl rfl (by rw [ex3]; rfl) (by decide) rfl (fun ls hl => ?_)
  refine lv_goto (tgt := 40) hx hb dX10_logs_89 (by decide) ?_
  exact hk40 z0 x3 s2 _ _ hf G _ (lv_sub hl [2, 3, 4, 1, 0] rfl)
def fX10_logs_L40 (p1 : Int32) (p2 : Int32) : Nat → Int32 → Int32 → St → Option (Int32 × St)
  | 0, _, _, _ => none
  | n + 1, y3, y4, st => if (99 : Int32) < y4 then (some (y3, st)) else (if y3 = (-2 : Int32) then (gd (ix p1 8) (nm (ui st 504 p1.toNatClampNeg y4) (fun s4 => br (fX10_goFor p2 s4) (fun s6 => br (fX10_isFrozen s6 p1) (fun x8 => if x8 = 0 then (fX10_logs_B81 p1 p2 (fX10_logs_L40 p1 p2 n) y4 y4 s6) else (fX10_logs_B81 p1 p2 (fX10_logs_L40 p1 p2 n) y4 (-2 : Int32) s6)))))) else (some (y3, st)))
set_option maxRecDepth 100000 in
theorem wX10_logs_L40 {p : Program} {l : Launch} {e : Env} {s : State} {m : MethodId} {args : Array Value} {below : List Frame} {meth : Method} {c : Code} {E : Ev} (hL : ∀ k, fxM k = true → k ∈ eL E) {p1 : Int32} {p2 : Int32} {sz : Nat} {res : (Int32 × St)} (X : CX p s m args c E RX10 cX10_logs 5 (Af E sz)) (hr : meth.sig.returnType = (some .int)) (hlk : meth.locks = false) : ∀ (n : Nat) (y3 : Int32) (y4 : Int32) (st : St) (H : Heap) (locs : List Loc), fX10_logs_L40 p1 p2  n y3 y4 st = some res → Gd E st (Af E sz) s H locs → ∀ ls : Array Slot, lv_has ls 5 [(0, .ref (eq E 500)), (1, .int p1), (2, .int p2), (3, .int y3), (4, .int y4)] → W p l e (rmk 8) s m args below meth c H locs 0 0 (MQ below (QWi E res.2 sz res.1) args s 0 0 (Af E sz)) (F0 m 40 ls []) := by
  have hx := X.1.1
  have hb := X.1.2.1
  intro n
  induction n with
  | zero =>
    intro y3 y4 st H locs hf G ls hl
    cases (show (none : Option (Int32 × St)) = some res from hf)
  | succ n ih =>
    intro y3 y4 st H locs hf G ls hl
    rw [fX10_logs_L40] at hf
    refine lv_iload hx hb dX10_logs_40 (lv_at hl 4 rfl) ?_
    refine lv_bipush (v := (99 : Int32)) hx hb dX10_logs_42 (by decide) ?_
    refine lv_icmp_gt (tgt := 92) hx hb dX10_logs_44 (by decide) (fun c1 => ?_) (fun c1 => ?_)
    · have hf := it_t hf c1
      refine lv_iload_n hx hb dX10_logs_92 rfl (lv_at hl 3 rfl) ?_
      exact rtWi X hlk G hr (so_i hf) dX10_logs_93
    · have hf := it_f hf c1
      refine lv_iload_n hx hb dX10_logs_47 rfl (lv_at hl 3 rfl) ?_
      refine lv_bipush (v := (-2 : Int32)) hx hb dX10_logs_48 (by decide) ?_
      refine lv_icmp_ne (tgt := 92) hx hb dX10_logs_50 (by decide) (fun c2 => ?_) (fun c2 => ?_)
      · have hf := it_f hf c2
        refine lv_iload_n hx hb dX10_logs_92 rfl (lv_at hl 3 rfl) ?_
        exact rtWi X hlk G hr (so_i hf) dX10_logs_93
      · have hf := it_t hf c2
        refine lv_aload_n hx hb dX10_logs_53 rfl (lv_at hl 0 rfl) ?_
        refine gf10 X G (hL 500 rfl) rfl 3 (by decide) rfl kf_X10_16 iwX10 dX10_logs_54 ?_
        refine lv_iload_n hx hb dX10_logs_57 rfl (lv_at hl 1 rfl) ?_
        refine lv_iload hx hb dX10_logs_58 (lv_at hl 4 rfl) ?_
        obtain ⟨h3, hf⟩ := gd_s hf
        refine ia_st (k := 504) (n := 8) X G (hL 504 rfl) rfl (by decide) (ix_in h3) dX10_logs_60 (fun s4 es4 H locs G => ?_)
        have hf := nm_s hf s4 es4
        refine lv_aload_n hx hb dX10_logs_61 rfl (lv_at hl 0 rfl) ?_
        refine lv_iload_n hx hb dX10_logs_62 rfl (lv_at hl 2 rfl) ?_
        obtain ⟨s6, h5, hf⟩ := br_s hf
        refine cVWv (As := [.int p2]) (rest := []) X G kc_X10_451 (tX10_goFor l E s4 _ hL  p2 h5) (rcv X G (hL 500 rfl) (cO10 rfl) rfl) rfl rfl (rmk_le (by omega) (by decide)) rfl hl.1 rfl (Nat.le_of_ble_eq_true rfl) dX10_logs_63 ⟨Nat.zero_le _, Nat.zero_le _⟩ (fun H locs G => ?_)
        refine lv_aload_n hx hb dX10_logs_66 rfl (lv_at hl 0 rfl) ?_
        refine lv_iload_n hx hb dX10_logs_67 rfl (lv_at hl 1 rfl) ?_
        obtain ⟨x8, h7, hf⟩ := br_s hf
        refine cVRi (As := [.int p1]) (rest := []) X G kc_X10_371 (tX10_isFrozen l E s6 _ hL  p1 h7) (rcv X G (hL 500 rfl) (cO10 rfl) rfl) rfl rfl (rmk_le (by omega) (by decide)) rfl hl.1 rfl (Nat.le_of_ble_eq_true rfl) dX10_logs_68 ⟨Nat.zero_le _, Nat.zero_le _⟩ ?_
        refine lv_if_eq (tgt := 79) hx hb dX10_logs_71 (by decide) (fun c9 => ?_) (fun c9 => ?_)
        · have hf := it_t hf c9
          refine lv_iload hx hb dX10_logs_79 (lv_at hl 4 rfl) ?_
          exact wX10_logs_B81 hL X hr hlk ih y4 y4 s6 _ _ hf G _ (lv_sub hl [0, 1, 2, 4] rfl)
        · have hf := it_f hf c9
          refine lv_bipush (v := (-2 : Int32)) hx hb dX10_logs_74 (by decide) ?_
          refine lv_goto (tgt := 81) hx hb dX10_logs_76 (by decide) ?_
          exact wX10_logs_B81 hL X hr hlk ih y4 (-2 : Int32) s6 _ _ hf G _ (lv_sub hl [0, 1, 2, 4] rfl)
def fX10_logs (p1 : Int32) (p2 : Int32) (st : St) : Option (Int32 × St) := br (fX10_isHouse st p1) (fun x2 => if x2 = 0 then (some ((-1 : Int32), st)) else (br (fX10_isFrozen st p1) (fun x5 => if x5 = 0 then (br (fX10_in (Int32.toInt64 p2) (1 : Int64) (60 : Int64)) (fun x8 => if x8 = 0 then (some ((-1 : Int32), st)) else (br (fX10_keepsAll st) (fun s11 => fX10_logs_L40 p1 p2 10000 (-2 : Int32) (0 : Int32) s11)))) else (some ((-1 : Int32), st)))))
set_option maxRecDepth 100000 in
theorem tX10_logs (l : Launch) (E : Ev) (st : St) (sz : Nat) (hL : ∀ k, fxM k = true → k ∈ eL E) (p1 : Int32) (p2 : Int32) {res : (Int32 × St)} (hf : fX10_logs  p1 p2 st = some res) : Met l yX10_logs (.code yX10_logs cX10_logs 5 (some .int) :: uW) (rmk 8) (va_Pc [.ref (eq E 500), .int p1, .int p2] (Pre E st sz)) (QWi E res.2 sz res.1) 0 0 (Af E sz) := by
  refine Met_in (by decide) (Nat.le_of_ble_eq_true rfl) ?_
  intro p e s m below meth c X hr hlk hz G ls hl
  have hx := X.1.1
  have hb := X.1.2.1
  have hl : lv_has ls 5 [(0, .ref (eq E 500)), (1, .int p1), (2, .int p2)] := hl
  unfold fX10_logs at hf
  refine lv_aload_n hx hb dX10_logs_0 rfl (lv_at hl 0 rfl) ?_
  refine lv_iload_n hx hb dX10_logs_1 rfl (lv_at hl 1 rfl) ?_
  obtain ⟨x2, h1, hf⟩ := br_s hf
  refine cVRi (As := [.int p1]) (rest := []) X G kc_X10_367 (tX10_isHouse l E st _ hL  p1 h1) (rcv X G (hL 500 rfl) (cO10 rfl) rfl) rfl rfl (rmk_le (by omega) (by decide)) rfl hl.1 rfl (Nat.le_of_ble_eq_true rfl) dX10_logs_2 ⟨Nat.zero_le _, Nat.zero_le _⟩ ?_
  refine lv_if_eq (tgt := 28) hx hb dX10_logs_5 (by decide) (fun c3 => ?_) (fun c3 => ?_)
  · have hf := it_t hf c3
    refine lv_iconst (v := (-1 : Int32)) hx hb dX10_logs_28 (by decide) ?_
    exact rtWi X hlk G hr (so_i hf) dX10_logs_29
  · have hf := it_f hf c3
    refine lv_aload_n hx hb dX10_logs_8 rfl (lv_at hl 0 rfl) ?_
    refine lv_iload_n hx hb dX10_logs_9 rfl (lv_at hl 1 rfl) ?_
    obtain ⟨x5, h4, hf⟩ := br_s hf
    refine cVRi (As := [.int p1]) (rest := []) X G kc_X10_371 (tX10_isFrozen l E st _ hL  p1 h4) (rcv X G (hL 500 rfl) (cO10 rfl) rfl) rfl rfl (rmk_le (by omega) (by decide)) rfl hl.1 rfl (Nat.le_of_ble_eq_true rfl) dX10_logs_10 ⟨Nat.zero_le _, Nat.zero_le _⟩ ?_
    refine lv_if_ne (tgt := 28) hx hb dX10_logs_13 (by decide) (fun c6 => ?_) (fun c6 => ?_)
    · have hf := it_f hf c6
      refine lv_iconst (v := (-1 : Int32)) hx hb dX10_logs_28 (by decide) ?_
      exact rtWi X hlk G hr (so_i hf) dX10_logs_29
    · have hf := it_t hf c6
      refine lv_iload_n hx hb dX10_logs_16 rfl (lv_at hl 2 rfl) ?_
      refine lv_i2l hx hb dX10_logs_17 rfl ?_
      refine lv_lconst (v := (1 : Int64)) hx hb dX10_logs_18 (by decide) ?_
      refine lv_ldc2 (v := (60 : Int64)) hx hb X.1.2.2.2.1 (X.1.2.2.2.2 _ kk_X10_471) dX10_logs_19 ?_
      obtain ⟨x8, h7, hf⟩ := br_s hf
      refine cSRi (As := [.long (Int32.toInt64 p2), .long (1 : Int64), .long (60 : Int64)]) (rest := []) X G kc_X10_152 (tX10_in l E st _  (Int32.toInt64 p2) (1 : Int64) (60 : Int64) h7) rfl rfl (rmk_le (by omega) (by decide)) rfl hl.1 rfl (Nat.le_of_ble_eq_true rfl) dX10_logs_22 ⟨Nat.zero_le _, Nat.zero_le _⟩ ?_
      refine lv_if_ne (tgt := 30) hx hb dX10_logs_25 (by decide) (fun c9 => ?_) (fun c9 => ?_)
      · have hf := it_f hf c9
        refine lv_bipush (v := (-2 : Int32)) hx hb dX10_logs_30 (by decide) ?_
        refine lv_istore_n (lv' := [(3, .int (-2 : Int32)), (0, .ref (eq E 500)), (1, .int p1), (2, .int p2)]) hx hb dX10_logs_32 rfl hl (by decide) rfl (fun ls hl => ?_)
        refine lv_aload_n hx hb dX10_logs_33 rfl (lv_at hl 1 rfl) ?_
        obtain ⟨s11, h10, hf⟩ := br_s hf
        refine cVWv (As := []) (rest := []) X G kc_X10_448 (tX10_keepsAll l E st _ hL   h10) (rcv X G (hL 500 rfl) (cO10 rfl) rfl) rfl rfl (rmk_le (by omega) (by decide)) rfl hl.1 rfl (Nat.le_of_ble_eq_true rfl) dX10_logs_34 ⟨Nat.zero_le _, Nat.zero_le _⟩ (fun H locs G => ?_)
        refine lv_iconst (v := (0 : Int32)) hx hb dX10_logs_37 (by decide) ?_
        refine lv_istore (lv' := [(4, .int (0 : Int32)), (3, .int (-2 : Int32)), (0, .ref (eq E 500)), (1, .int p1), (2, .int p2)]) hx hb dX10_logs_38 hl (by decide) rfl (fun ls hl => ?_)
        exact wX10_logs_L40 hL X hr hlk 10000 (-2 : Int32) (0 : Int32) s11 _ _ hf G _ (lv_sub hl [2, 3, 4, 1, 0] rfl)
      · have hf := it_t hf c9
        refine lv_iconst (v := (-1 : Int32)) hx hb dX10_logs_28 (by decide) ?_
        exact rtWi X hlk G hr (so_i hf) dX10_logs_29
def fX10_rate_B85 (p1 : Int32) (k40 : Int32 → Int32 → Int32 → St → Option (Int32 × St)) (y3 : Int32) (y4 : Int32) (z0 : Int32) (st : St) : Option (Int32 × St) := br (fX10_laysBack st) (fun s2 => nm (y4 + (-1 : Int32)) (fun x3 => k40 z0 y3 x3 s2))
set_option maxRecDepth 100000 in
theorem wX10_rate_B85 {p : Program} {l : Launch} {e : Env} {s : State} {m : MethodId} {args : Array Value} {below : List Frame} {meth : Method} {c : Code} {E : Ev} (hL : ∀ k, fxM k = true → k ∈ eL E) {p1 : Int32} {sz : Nat} {res : (Int32 × St)} (X : CX p s m args c E RX10 cX10_rate 5 (Af E sz)) (hr : meth.sig.returnType = (some .int)) (hlk : meth.locks = false) {k40 : Int32 → Int32 → Int32 → St → Option (Int32 × St)} (hk40 : ∀ (y2 : Int32) (y3 : Int32) (y4 : Int32) (st : St) (H : Heap) (locs : List Loc), k40 y2 y3 y4 st = some res → Gd E st (Af E sz) s H locs → ∀ ls : Array Slot, lv_has ls 5 [(0, .ref (eq E 500)), (1, .int p1), (2, .int y2), (3, .int y3), (4, .int y4)] → W p l e (rmk 8) s m args below meth c H locs 0 0 (MQ below (QWi E res.2 sz res.1) args s 0 0 (Af E sz)) (F0 m 40 ls [])) : ∀ (y3 : Int32) (y4 : Int32) (z0 : Int32) (st : St) (H : Heap) (locs : List Loc), fX10_rate_B85 p1 k40 y3 y4 z0 st = some res → Gd E st (Af E sz) s H locs → ∀ ls : Array Slot, lv_has ls 5 [(0, .ref (eq E 500)), (1, .int p1), (3, .int y3), (4, .int y4)] → W p l e (rmk 8) s m args below meth c H locs 0 0 (MQ below (QWi E res.2 sz res.1) args s 0 0 (Af E sz)) (F0 m 85 ls [.int z0]) := by
  have hx := X.1.1
  have hb := X.1.2.1
  intro y3 y4 z0 st H locs hf G ls hl
  unfold fX10_rate_B85 at hf
  refine lv_istore_n (lv' := [(2, .int z0), (0, .ref (eq E 500)), (1, .int p1), (3, .int y3), (4, .int y4)]) hx hb dX10_rate_85 rfl hl (by decide) rfl (fun ls hl => ?_)
  refine lv_aload_n hx hb dX10_rate_86 rfl (lv_at hl 1 rfl) ?_
  obtain ⟨s2, h1, hf⟩ := br_s hf
  refine cVWv (As := []) (rest := []) X G kc_X10_454 (tX10_laysBack l E st _ hL   h1) (rcv X G (hL 500 rfl) (cO10 rfl) rfl) rfl rfl (rmk_le (by omega) (by decide)) rfl hl.1 rfl (Nat.le_of_ble_eq_true rfl) dX10_rate_87 ⟨Nat.zero_le _, Nat.zero_le _⟩ (fun H locs G => ?_)
  obtain ⟨x3, ex3⟩ : ∃ y : Int32, y = (y4 + (-1 : Int32)) := ⟨_, rfl⟩
  have hf := nm_s hf x3 ex3
  refine lv_iinc (k := 4) (v := x3) (lv' := [(4, .int x3), (2, .int z0), (0, .ref (eq E 500)), (1, .int p1), (3, .int y3)]) hx hb dX10_rate_90 hl rfl (by rw [ex3]; rfl) (by decide) rfl (fun ls hl => ?_)
  refine lv_goto (tgt := 40) hx hb dX10_rate_93 (by decide) ?_
  exact hk40 z0 y3 x3 s2 _ _ hf G _ (lv_sub hl [2, 3, 1, 4, 0] rfl)
def fX10_rate_L40 (p1 : Int32) : Nat → Int32 → Int32 → Int32 → St → Option (Int32 × St)
  | 0, _, _, _, _ => none
  | n + 1, y2, y3, y4, st => if y4 < 0 then (some (y2, st)) else (if y2 = (-2 : Int32) then (nm (ui st 502 0 y4) (fun s4 => br (fX10_goFor p1 s4) (fun s6 => if ((s6.1 502 7) &&& (y3 ^^^ (-1 : Int32))) = 0 then (fX10_rate_B85 p1 (fX10_rate_L40 p1 n) y3 y4 y4 s6) else (fX10_rate_B85 p1 (fX10_rate_L40 p1 n) y3 y4 (-2 : Int32) s6)))) else (some (y2, st)))
set_option maxRecDepth 100000 in
theorem wX10_rate_L40 {p : Program} {l : Launch} {e : Env} {s : State} {m : MethodId} {args : Array Value} {below : List Frame} {meth : Method} {c : Code} {E : Ev} (hL : ∀ k, fxM k = true → k ∈ eL E) {p1 : Int32} {sz : Nat} {res : (Int32 × St)} (X : CX p s m args c E RX10 cX10_rate 5 (Af E sz)) (hr : meth.sig.returnType = (some .int)) (hlk : meth.locks = false) : ∀ (n : Nat) (y2 : Int32) (y3 : Int32) (y4 : Int32) (st : St) (H : Heap) (locs : List Loc), fX10_rate_L40 p1  n y2 y3 y4 st = some res → Gd E st (Af E sz) s H locs → ∀ ls : Array Slot, lv_has ls 5 [(0, .ref (eq E 500)), (1, .int p1), (2, .int y2), (3, .int y3), (4, .int y4)] → W p l e (rmk 8) s m args below meth c H locs 0 0 (MQ below (QWi E res.2 sz res.1) args s 0 0 (Af E sz)) (F0 m 40 ls []) := by
  have hx := X.1.1
  have hb := X.1.2.1
  intro n
  induction n with
  | zero =>
    intro y2 y3 y4 st H locs hf G ls hl
    cases (show (none : Option (Int32 × St)) = some res from hf)
  | succ n ih =>
    intro y2 y3 y4 st H locs hf G ls hl
    rw [fX10_rate_L40] at hf
    refine lv_iload hx hb dX10_rate_40 (lv_at hl 4 rfl) ?_
    refine lv_if_lt (tgt := 96) hx hb dX10_rate_42 (by decide) (fun c1 => ?_) (fun c1 => ?_)
    · have hf := it_t hf c1
      refine lv_iload_n hx hb dX10_rate_96 rfl (lv_at hl 2 rfl) ?_
      exact rtWi X hlk G hr (so_i hf) dX10_rate_97
    · have hf := it_f hf c1
      refine lv_iload_n hx hb dX10_rate_45 rfl (lv_at hl 2 rfl) ?_
      refine lv_bipush (v := (-2 : Int32)) hx hb dX10_rate_46 (by decide) ?_
      refine lv_icmp_ne (tgt := 96) hx hb dX10_rate_48 (by decide) (fun c2 => ?_) (fun c2 => ?_)
      · have hf := it_f hf c2
        refine lv_iload_n hx hb dX10_rate_96 rfl (lv_at hl 2 rfl) ?_
        exact rtWi X hlk G hr (so_i hf) dX10_rate_97
      · have hf := it_t hf c2
        refine lv_aload_n hx hb dX10_rate_51 rfl (lv_at hl 0 rfl) ?_
        refine gf10 X G (hL 500 rfl) rfl 1 (by decide) rfl kf_X10_9 iwX10 dX10_rate_52 ?_
        refine lv_iconst (v := (0 : Int32)) hx hb dX10_rate_55 (by decide) ?_
        refine lv_iload hx hb dX10_rate_56 (lv_at hl 4 rfl) ?_
        refine ia_stc (k := 502) (n := 12) X G (hL 502 rfl) rfl (by decide) 0 (by decide) dX10_rate_58 (fun s4 es4 H locs G => ?_)
        have hf := nm_s hf s4 es4
        refine lv_aload_n hx hb dX10_rate_59 rfl (lv_at hl 0 rfl) ?_
        refine lv_iload_n hx hb dX10_rate_60 rfl (lv_at hl 1 rfl) ?_
        obtain ⟨s6, h5, hf⟩ := br_s hf
        refine cVWv (As := [.int p1]) (rest := []) X G kc_X10_451 (tX10_goFor l E s4 _ hL  p1 h5) (rcv X G (hL 500 rfl) (cO10 rfl) rfl) rfl rfl (rmk_le (by omega) (by decide)) rfl hl.1 rfl (Nat.le_of_ble_eq_true rfl) dX10_rate_61 ⟨Nat.zero_le _, Nat.zero_le _⟩ (fun H locs G => ?_)
        refine lv_aload_n hx hb dX10_rate_64 rfl (lv_at hl 0 rfl) ?_
        refine gf10 X G (hL 500 rfl) rfl 1 (by decide) rfl kf_X10_9 iwX10 dX10_rate_65 ?_
        refine lv_bipush (v := (7 : Int32)) hx hb dX10_rate_68 (by decide) ?_
        refine ia_ldc (k := 502) (n := 12) X G (hL 502 rfl) rfl (by decide) 7 (by decide) dX10_rate_70 ?_
        refine lv_iload_n hx hb dX10_rate_71 rfl (lv_at hl 3 rfl) ?_
        refine lv_iconst (v := (-1 : Int32)) hx hb dX10_rate_72 (by decide) ?_
        refine lv_ixor hx hb dX10_rate_73 ?_
        refine lv_iand hx hb dX10_rate_74 ?_
        refine lv_if_ne (tgt := 83) hx hb dX10_rate_75 (by decide) (fun c8 => ?_) (fun c8 => ?_)
        · have hf := it_f hf c8
          refine lv_bipush (v := (-2 : Int32)) hx hb dX10_rate_83 (by decide) ?_
          exact wX10_rate_B85 hL X hr hlk ih y3 y4 (-2 : Int32) s6 _ _ hf G _ (lv_sub hl [0, 1, 3, 4] rfl)
        · have hf := it_t hf c8
          refine lv_iload hx hb dX10_rate_78 (lv_at hl 4 rfl) ?_
          refine lv_goto (tgt := 85) hx hb dX10_rate_80 (by decide) ?_
          exact wX10_rate_B85 hL X hr hlk ih y3 y4 y4 s6 _ _ hf G _ (lv_sub hl [0, 1, 3, 4] rfl)
def fX10_rate (p1 : Int32) (st : St) : Option (Int32 × St) := if (st.1 500 28) = 0 then (some ((-1 : Int32), st)) else (br (fX10_in (Int32.toInt64 p1) (1 : Int64) (60 : Int64)) (fun x3 => if x3 = 0 then (some ((-1 : Int32), st)) else (nm (st.1 502 7) (fun x6 => br (fX10_keepsAll st) (fun s8 => fX10_rate_L40 p1 10000 (-2 : Int32) x6 (100 : Int32) s8)))))
set_option maxRecDepth 100000 in
theorem tX10_rate (l : Launch) (E : Ev) (st : St) (sz : Nat) (hL : ∀ k, fxM k = true → k ∈ eL E) (p1 : Int32) {res : (Int32 × St)} (hf : fX10_rate  p1 st = some res) : Met l yX10_rate (.code yX10_rate cX10_rate 5 (some .int) :: uW) (rmk 8) (va_Pc [.ref (eq E 500), .int p1] (Pre E st sz)) (QWi E res.2 sz res.1) 0 0 (Af E sz) := by
  refine Met_in (by decide) (Nat.le_of_ble_eq_true rfl) ?_
  intro p e s m below meth c X hr hlk hz G ls hl
  have hx := X.1.1
  have hb := X.1.2.1
  have hl : lv_has ls 5 [(0, .ref (eq E 500)), (1, .int p1)] := hl
  unfold fX10_rate at hf
  refine lv_aload_n hx hb dX10_rate_0 rfl (lv_at hl 0 rfl) ?_
  refine gf10 X G (hL 500 rfl) rfl 28 (by decide) rfl kf_X10_327 iwX10 dX10_rate_1 ?_
  refine lv_if_eq (tgt := 19) hx hb dX10_rate_4 (by decide) (fun c1 => ?_) (fun c1 => ?_)
  · have hf := it_t hf c1
    refine lv_iconst (v := (-1 : Int32)) hx hb dX10_rate_19 (by decide) ?_
    exact rtWi X hlk G hr (so_i hf) dX10_rate_20
  · have hf := it_f hf c1
    refine lv_iload_n hx hb dX10_rate_7 rfl (lv_at hl 1 rfl) ?_
    refine lv_i2l hx hb dX10_rate_8 rfl ?_
    refine lv_lconst (v := (1 : Int64)) hx hb dX10_rate_9 (by decide) ?_
    refine lv_ldc2 (v := (60 : Int64)) hx hb X.1.2.2.2.1 (X.1.2.2.2.2 _ kk_X10_471) dX10_rate_10 ?_
    obtain ⟨x3, h2, hf⟩ := br_s hf
    refine cSRi (As := [.long (Int32.toInt64 p1), .long (1 : Int64), .long (60 : Int64)]) (rest := []) X G kc_X10_152 (tX10_in l E st _  (Int32.toInt64 p1) (1 : Int64) (60 : Int64) h2) rfl rfl (rmk_le (by omega) (by decide)) rfl hl.1 rfl (Nat.le_of_ble_eq_true rfl) dX10_rate_13 ⟨Nat.zero_le _, Nat.zero_le _⟩ ?_
    refine lv_if_ne (tgt := 21) hx hb dX10_rate_16 (by decide) (fun c4 => ?_) (fun c4 => ?_)
    · have hf := it_f hf c4
      refine lv_bipush (v := (-2 : Int32)) hx hb dX10_rate_21 (by decide) ?_
      refine lv_istore_n (lv' := [(2, .int (-2 : Int32)), (0, .ref (eq E 500)), (1, .int p1)]) hx hb dX10_rate_23 rfl hl (by decide) rfl (fun ls hl => ?_)
      refine lv_aload_n hx hb dX10_rate_24 rfl (lv_at hl 1 rfl) ?_
      refine gf10 X G (hL 500 rfl) rfl 1 (by decide) rfl kf_X10_9 iwX10 dX10_rate_25 ?_
      refine lv_bipush (v := (7 : Int32)) hx hb dX10_rate_28 (by decide) ?_
      refine ia_ldc (k := 502) (n := 12) X G (hL 502 rfl) rfl (by decide) 7 (by decide) dX10_rate_30 ?_
      refine lv_topi (fun x6 ex6 => ?_)
      have hf := nm_s hf x6 ex6
      refine lv_istore_n (lv' := [(3, .int x6), (2, .int (-2 : Int32)), (0, .ref (eq E 500)), (1, .int p1)]) hx hb dX10_rate_31 rfl hl (by decide) rfl (fun ls hl => ?_)
      refine lv_aload_n hx hb dX10_rate_32 rfl (lv_at hl 2 rfl) ?_
      obtain ⟨s8, h7, hf⟩ := br_s hf
      refine cVWv (As := []) (rest := []) X G kc_X10_448 (tX10_keepsAll l E st _ hL   h7) (rcv X G (hL 500 rfl) (cO10 rfl) rfl) rfl rfl (rmk_le (by omega) (by decide)) rfl hl.1 rfl (Nat.le_of_ble_eq_true rfl) dX10_rate_33 ⟨Nat.zero_le _, Nat.zero_le _⟩ (fun H locs G => ?_)
      refine lv_bipush (v := (100 : Int32)) hx hb dX10_rate_36 (by decide) ?_
      refine lv_istore (lv' := [(4, .int (100 : Int32)), (3, .int x6), (2, .int (-2 : Int32)), (0, .ref (eq E 500)), (1, .int p1)]) hx hb dX10_rate_38 hl (by decide) rfl (fun ls hl => ?_)
      exact wX10_rate_L40 hL X hr hlk 10000 (-2 : Int32) x6 (100 : Int32) s8 _ _ hf G _ (lv_sub hl [3, 4, 2, 1, 0] rfl)
    · have hf := it_t hf c4
      refine lv_iconst (v := (-1 : Int32)) hx hb dX10_rate_19 (by decide) ?_
      exact rtWi X hlk G hr (so_i hf) dX10_rate_20
def fX10_loan_B128 (p1 : Int32) (p2 : Int32) (p3 : Int32) (k78 : Int32 → Int32 → Int32 → St → Option (Int32 × St)) (y5 : Int32) (y6 : Int32) (z0 : Int32) (st : St) : Option (Int32 × St) := br (fX10_laysBack st) (fun s2 => nm (y6 + (1 : Int32)) (fun x3 => k78 z0 y5 x3 s2))
set_option maxRecDepth 100000 in
theorem wX10_loan_B128 {p : Program} {l : Launch} {e : Env} {s : State} {m : MethodId} {args : Array Value} {below : List Frame} {meth : Method} {c : Code} {E : Ev} (hL : ∀ k, fxM k = true → k ∈ eL E) {p1 : Int32} {p2 : Int32} {p3 : Int32} {sz : Nat} {res : (Int32 × St)} (X : CX p s m args c E RX10 cX10_loan 7 (Af E sz)) (hr : meth.sig.returnType = (some .int)) (hlk : meth.locks = false) {k78 : Int32 → Int32 → Int32 → St → Option (Int32 × St)} (hk78 : ∀ (y4 : Int32) (y5 : Int32) (y6 : Int32) (st : St) (H : Heap) (locs : List Loc), k78 y4 y5 y6 st = some res → Gd E st (Af E sz) s H locs → ∀ ls : Array Slot, lv_has ls 7 [(0, .ref (eq E 500)), (1, .int p1), (2, .int p2), (3, .int p3), (4, .int y4), (5, .int y5), (6, .int y6)] → W p l e (rmk 8) s m args below meth c H locs 0 0 (MQ below (QWi E res.2 sz res.1) args s 0 0 (Af E sz)) (F0 m 78 ls [])) : ∀ (y5 : Int32) (y6 : Int32) (z0 : Int32) (st : St) (H : Heap) (locs : List Loc), fX10_loan_B128 p1 p2 p3 k78 y5 y6 z0 st = some res → Gd E st (Af E sz) s H locs → ∀ ls : Array Slot, lv_has ls 7 [(0, .ref (eq E 500)), (1, .int p1), (2, .int p2), (3, .int p3), (5, .int y5), (6, .int y6)] → W p l e (rmk 8) s m args below meth c H locs 0 0 (MQ below (QWi E res.2 sz res.1) args s 0 0 (Af E sz)) (F0 m 128 ls [.int z0]) := by
  have hx := X.1.1
  have hb := X.1.2.1
  intro y5 y6 z0 st H locs hf G ls hl
  unfold fX10_loan_B128 at hf
  refine lv_istore (lv' := [(4, .int z0), (0, .ref (eq E 500)), (1, .int p1), (2, .int p2), (3, .int p3), (5, .int y5), (6, .int y6)]) hx hb dX10_loan_128 hl (by decide) rfl (fun ls hl => ?_)
  refine lv_aload_n hx hb dX10_loan_130 rfl (lv_at hl 1 rfl) ?_
  obtain ⟨s2, h1, hf⟩ := br_s hf
  refine cVWv (As := []) (rest := []) X G kc_X10_454 (tX10_laysBack l E st _ hL   h1) (rcv X G (hL 500 rfl) (cO10 rfl) rfl) rfl rfl (rmk_le (by omega) (by decide)) rfl hl.1 rfl (Nat.le_of_ble_eq_true rfl) dX10_loan_131 ⟨Nat.zero_le _, Nat.zero_le _⟩ (fun H locs G => ?_)
  obtain ⟨x3, ex3⟩ : ∃ y : Int32, y = (y6 + (1 : Int32)) := ⟨_, rfl⟩
  have hf := nm_s hf x3 ex3
  refine lv_iinc (k := 6) (v := x3) (lv' := [(6, .int x3), (4, .int z0), (0, .ref (eq E 500)), (1, .int p1), (2, .int p2), (3, .int p3), (5, .int y5)]) hx hb dX10_loan_134 hl rfl (by rw [ex3]; rfl) (by decide) rfl (fun ls hl => ?_)
  refine lv_goto (tgt := 78) hx hb dX10_loan_137 (by decide) ?_
  exact hk78 z0 y5 x3 s2 _ _ hf G _ (lv_sub hl [2, 3, 4, 5, 1, 6, 0] rfl)
def fX10_loan_B121 (p1 : Int32) (p2 : Int32) (p3 : Int32) (k78 : Int32 → Int32 → Int32 → St → Option (Int32 × St)) (y5 : Int32) (y6 : Int32) (st : St) : Option (Int32 × St) := fX10_loan_B128 p1 p2 p3 k78 y5 y6 (-2 : Int32) st
set_option maxRecDepth 100000 in
theorem wX10_loan_B121 {p : Program} {l : Launch} {e : Env} {s : State} {m : MethodId} {args : Array Value} {below : List Frame} {meth : Method} {c : Code} {E : Ev} (hL : ∀ k, fxM k = true → k ∈ eL E) {p1 : Int32} {p2 : Int32} {p3 : Int32} {sz : Nat} {res : (Int32 × St)} (X : CX p s m args c E RX10 cX10_loan 7 (Af E sz)) (hr : meth.sig.returnType = (some .int)) (hlk : meth.locks = false) {k78 : Int32 → Int32 → Int32 → St → Option (Int32 × St)} (hk78 : ∀ (y4 : Int32) (y5 : Int32) (y6 : Int32) (st : St) (H : Heap) (locs : List Loc), k78 y4 y5 y6 st = some res → Gd E st (Af E sz) s H locs → ∀ ls : Array Slot, lv_has ls 7 [(0, .ref (eq E 500)), (1, .int p1), (2, .int p2), (3, .int p3), (4, .int y4), (5, .int y5), (6, .int y6)] → W p l e (rmk 8) s m args below meth c H locs 0 0 (MQ below (QWi E res.2 sz res.1) args s 0 0 (Af E sz)) (F0 m 78 ls [])) : ∀ (y5 : Int32) (y6 : Int32) (st : St) (H : Heap) (locs : List Loc), fX10_loan_B121 p1 p2 p3 k78 y5 y6 st = some res → Gd E st (Af E sz) s H locs → ∀ ls : Array Slot, lv_has ls 7 [(0, .ref (eq E 500)), (1, .int p1), (2, .int p2), (3, .int p3), (5, .int y5), (6, .int y6)] → W p l e (rmk 8) s m args below meth c H locs 0 0 (MQ below (QWi E res.2 sz res.1) args s 0 0 (Af E sz)) (F0 m 121 ls []) := by
  have hx := X.1.1
  have hb := X.1.2.1
  intro y5 y6 st H locs hf G ls hl
  unfold fX10_loan_B121 at hf
  refine lv_bipush (v := (-2 : Int32)) hx hb dX10_loan_121 (by decide) ?_
  refine lv_goto (tgt := 128) hx hb dX10_loan_123 (by decide) ?_
  exact wX10_loan_B128 hL X hr hlk hk78 y5 y6 (-2 : Int32) st _ _ hf G _ (lv_sub hl [0, 1, 2, 3, 4, 5] rfl)
def fX10_loan_L78 (p1 : Int32) (p2 : Int32) (p3 : Int32) : Nat → Int32 → Int32 → Int32 → St → Option (Int32 × St)
  | 0, _, _, _, _ => none
  | n + 1, y4, y5, y6, st => if y5 < y6 then (some (y4, st)) else (if y4 = (-2 : Int32) then (br (fX10_lends p1 p2 y6 st) (fun s4 => br (fX10_goFor p3 s4) (fun s6 => br (fX10_isFrozen s6 p1) (fun x8 => if x8 = 0 then (br (fX10_isFrozen s6 p2) (fun x11 => if x11 = 0 then (fX10_loan_B128 p1 p2 p3 (fX10_loan_L78 p1 p2 p3 n) y5 y6 y6 s6) else (fX10_loan_B121 p1 p2 p3 (fX10_loan_L78 p1 p2 p3 n) y5 y6 s6))) else (fX10_loan_B121 p1 p2 p3 (fX10_loan_L78 p1 p2 p3 n) y5 y6 s6))))) else (some (y4, st)))
set_option maxRecDepth 100000 in
theorem wX10_loan_L78 {p : Program} {l : Launch} {e : Env} {s : State} {m : MethodId} {args : Array Value} {below : List Frame} {meth : Method} {c : Code} {E : Ev} (hL : ∀ k, fxM k = true → k ∈ eL E) {p1 : Int32} {p2 : Int32} {p3 : Int32} {sz : Nat} {res : (Int32 × St)} (X : CX p s m args c E RX10 cX10_loan 7 (Af E sz)) (hr : meth.sig.returnType = (some .int)) (hlk : meth.locks = false) : ∀ (n : Nat) (y4 : Int32) (y5 : Int32) (y6 : Int32) (st : St) (H : Heap) (locs : List Loc), fX10_loan_L78 p1 p2 p3  n y4 y5 y6 st = some res → Gd E st (Af E sz) s H locs → ∀ ls : Array Slot, lv_has ls 7 [(0, .ref (eq E 500)), (1, .int p1), (2, .int p2), (3, .int p3), (4, .int y4), (5, .int y5), (6, .int y6)] → W p l e (rmk 8) s m args below meth c H locs 0 0 (MQ below (QWi E res.2 sz res.1) args s 0 0 (Af E sz)) (F0 m 78 ls []) := by
  have hx := X.1.1
  have hb := X.1.2.1
  intro n
  induction n with
  | zero =>
    intro y4 y5 y6 st H locs hf G ls hl
    cases (show (none : Option (Int32 × St)) = some res from hf)
  | succ n ih =>
    intro y4 y5 y6 st H locs hf G ls hl
    rw [fX10_loan_L78] at hf
    refine lv_iload hx hb dX10_loan_78 (lv_at hl 6 rfl) ?_
    refine lv_iload hx hb dX10_loan_80 (lv_at hl 5 rfl) ?_
    refine lv_icmp_gt (tgt := 140) hx hb dX10_loan_82 (by decide) (fun c1 => ?_) (fun c1 => ?_)
    · have hf := it_t hf c1
      refine lv_iload hx hb dX10_loan_140 (lv_at hl 4 rfl) ?_
      exact rtWi X hlk G hr (so_i hf) dX10_loan_142
    · have hf := it_f hf c1
      refine lv_iload hx hb dX10_loan_85 (lv_at hl 4 rfl) ?_
      refine lv_bipush (v := (-2 : Int32)) hx hb dX10_loan_87 (by decide) ?_
      refine lv_icmp_ne (tgt := 140) hx hb dX10_loan_89 (by decide) (fun c2 => ?_) (fun c2 => ?_)
      · have hf := it_f hf c2
        refine lv_iload hx hb dX10_loan_140 (lv_at hl 4 rfl) ?_
        exact rtWi X hlk G hr (so_i hf) dX10_loan_142
      · have hf := it_t hf c2
        refine lv_aload_n hx hb dX10_loan_92 rfl (lv_at hl 0 rfl) ?_
        refine lv_iload_n hx hb dX10_loan_93 rfl (lv_at hl 1 rfl) ?_
        refine lv_iload_n hx hb dX10_loan_94 rfl (lv_at hl 2 rfl) ?_
        refine lv_iload hx hb dX10_loan_95 (lv_at hl 6 rfl) ?_
        obtain ⟨s4, h3, hf⟩ := br_s hf
        refine cVWv (As := [.int p1, .int p2, .int y6]) (rest := []) X G kc_X10_439 (tX10_lends l E st _ hL  p1 p2 y6 h3) (rcv X G (hL 500 rfl) (cO10 rfl) rfl) rfl rfl (rmk_le (by omega) (by decide)) rfl hl.1 rfl (Nat.le_of_ble_eq_true rfl) dX10_loan_97 ⟨Nat.zero_le _, Nat.zero_le _⟩ (fun H locs G => ?_)
        refine lv_aload_n hx hb dX10_loan_100 rfl (lv_at hl 0 rfl) ?_
        refine lv_iload_n hx hb dX10_loan_101 rfl (lv_at hl 3 rfl) ?_
        obtain ⟨s6, h5, hf⟩ := br_s hf
        refine cVWv (As := [.int p3]) (rest := []) X G kc_X10_451 (tX10_goFor l E s4 _ hL  p3 h5) (rcv X G (hL 500 rfl) (cO10 rfl) rfl) rfl rfl (rmk_le (by omega) (by decide)) rfl hl.1 rfl (Nat.le_of_ble_eq_true rfl) dX10_loan_102 ⟨Nat.zero_le _, Nat.zero_le _⟩ (fun H locs G => ?_)
        refine lv_aload_n hx hb dX10_loan_105 rfl (lv_at hl 0 rfl) ?_
        refine lv_iload_n hx hb dX10_loan_106 rfl (lv_at hl 1 rfl) ?_
        obtain ⟨x8, h7, hf⟩ := br_s hf
        refine cVRi (As := [.int p1]) (rest := []) X G kc_X10_371 (tX10_isFrozen l E s6 _ hL  p1 h7) (rcv X G (hL 500 rfl) (cO10 rfl) rfl) rfl rfl (rmk_le (by omega) (by decide)) rfl hl.1 rfl (Nat.le_of_ble_eq_true rfl) dX10_loan_107 ⟨Nat.zero_le _, Nat.zero_le _⟩ ?_
        refine lv_if_ne (tgt := 121) hx hb dX10_loan_110 (by decide) (fun c9 => ?_) (fun c9 => ?_)
        · have hf := it_f hf c9
          exact wX10_loan_B121 hL X hr hlk ih y5 y6 s6 _ _ hf G _ (lv_sub hl [0, 1, 2, 3, 5, 6] rfl)
        · have hf := it_t hf c9
          refine lv_aload_n hx hb dX10_loan_113 rfl (lv_at hl 0 rfl) ?_
          refine lv_iload_n hx hb dX10_loan_114 rfl (lv_at hl 2 rfl) ?_
          obtain ⟨x11, h10, hf⟩ := br_s hf
          refine cVRi (As := [.int p2]) (rest := []) X G kc_X10_371 (tX10_isFrozen l E s6 _ hL  p2 h10) (rcv X G (hL 500 rfl) (cO10 rfl) rfl) rfl rfl (rmk_le (by omega) (by decide)) rfl hl.1 rfl (Nat.le_of_ble_eq_true rfl) dX10_loan_115 ⟨Nat.zero_le _, Nat.zero_le _⟩ ?_
          refine lv_if_eq (tgt := 126) hx hb dX10_loan_118 (by decide) (fun c12 => ?_) (fun c12 => ?_)
          · have hf := it_t hf c12
            refine lv_iload hx hb dX10_loan_126 (lv_at hl 6 rfl) ?_
            exact wX10_loan_B128 hL X hr hlk ih y5 y6 y6 s6 _ _ hf G _ (lv_sub hl [0, 1, 2, 3, 5, 6] rfl)
          · have hf := it_f hf c12
            exact wX10_loan_B121 hL X hr hlk ih y5 y6 s6 _ _ hf G _ (lv_sub hl [0, 1, 2, 3, 5, 6] rfl)
def fX10_loan (p1 : Int32) (p2 : Int32) (p3 : Int32) (st : St) : Option (Int32 × St) := br (fX10_isHouse st p1) (fun x2 => if x2 = 0 then (some ((-1 : Int32), st)) else (br (fX10_isHouse st p2) (fun x5 => if x5 = 0 then (some ((-1 : Int32), st)) else (br (fX10_isFrozen st p1) (fun x8 => if x8 = 0 then (br (fX10_isFrozen st p2) (fun x11 => if x11 = 0 then (gd (ix p1 8) (br (fX10_has (st.1 507 p1.toNatClampNeg) p2) (fun x15 => if x15 = 0 then (some ((-1 : Int32), st)) else (br (fX10_in (Int32.toInt64 p3) (1 : Int64) (60 : Int64)) (fun x18 => if x18 = 0 then (some ((-1 : Int32), st)) else (gd (ix p1 8) (nm (st.1 503 p1.toNatClampNeg) (fun x21 => br (fX10_keepsAll st) (fun s23 => fX10_loan_L78 p1 p2 p3 10000 (-2 : Int32) x21 (0 : Int32) s23))))))))) else (some ((-1 : Int32), st)))) else (some ((-1 : Int32), st)))))))
set_option maxRecDepth 100000 in
theorem tX10_loan (l : Launch) (E : Ev) (st : St) (sz : Nat) (hL : ∀ k, fxM k = true → k ∈ eL E) (p1 : Int32) (p2 : Int32) (p3 : Int32) {res : (Int32 × St)} (hf : fX10_loan  p1 p2 p3 st = some res) : Met l yX10_loan (.code yX10_loan cX10_loan 7 (some .int) :: uW) (rmk 8) (va_Pc [.ref (eq E 500), .int p1, .int p2, .int p3] (Pre E st sz)) (QWi E res.2 sz res.1) 0 0 (Af E sz) := by
  refine Met_in (by decide) (Nat.le_of_ble_eq_true rfl) ?_
  intro p e s m below meth c X hr hlk hz G ls hl
  have hx := X.1.1
  have hb := X.1.2.1
  have hl : lv_has ls 7 [(0, .ref (eq E 500)), (1, .int p1), (2, .int p2), (3, .int p3)] := hl
  unfold fX10_loan at hf
  refine lv_aload_n hx hb dX10_loan_0 rfl (lv_at hl 0 rfl) ?_
  refine lv_iload_n hx hb dX10_loan_1 rfl (lv_at hl 1 rfl) ?_
  obtain ⟨x2, h1, hf⟩ := br_s hf
  refine cVRi (As := [.int p1]) (rest := []) X G kc_X10_367 (tX10_isHouse l E st _ hL  p1 h1) (rcv X G (hL 500 rfl) (cO10 rfl) rfl) rfl rfl (rmk_le (by omega) (by decide)) rfl hl.1 rfl (Nat.le_of_ble_eq_true rfl) dX10_loan_2 ⟨Nat.zero_le _, Nat.zero_le _⟩ ?_
  refine lv_if_eq (tgt := 57) hx hb dX10_loan_5 (by decide) (fun c3 => ?_) (fun c3 => ?_)
  · have hf := it_t hf c3
    refine lv_iconst (v := (-1 : Int32)) hx hb dX10_loan_57 (by decide) ?_
    exact rtWi X hlk G hr (so_i hf) dX10_loan_58
  · have hf := it_f hf c3
    refine lv_aload_n hx hb dX10_loan_8 rfl (lv_at hl 0 rfl) ?_
    refine lv_iload_n hx hb dX10_loan_9 rfl (lv_at hl 2 rfl) ?_
    obtain ⟨x5, h4, hf⟩ := br_s hf
    refine cVRi (As := [.int p2]) (rest := []) X G kc_X10_367 (tX10_isHouse l E st _ hL  p2 h4) (rcv X G (hL 500 rfl) (cO10 rfl) rfl) rfl rfl (rmk_le (by omega) (by decide)) rfl hl.1 rfl (Nat.le_of_ble_eq_true rfl) dX10_loan_10 ⟨Nat.zero_le _, Nat.zero_le _⟩ ?_
    refine lv_if_eq (tgt := 57) hx hb dX10_loan_13 (by decide) (fun c6 => ?_) (fun c6 => ?_)
    · have hf := it_t hf c6
      refine lv_iconst (v := (-1 : Int32)) hx hb dX10_loan_57 (by decide) ?_
      exact rtWi X hlk G hr (so_i hf) dX10_loan_58
    · have hf := it_f hf c6
      refine lv_aload_n hx hb dX10_loan_16 rfl (lv_at hl 0 rfl) ?_
      refine lv_iload_n hx hb dX10_loan_17 rfl (lv_at hl 1 rfl) ?_
      obtain ⟨x8, h7, hf⟩ := br_s hf
      refine cVRi (As := [.int p1]) (rest := []) X G kc_X10_371 (tX10_isFrozen l E st _ hL  p1 h7) (rcv X G (hL 500 rfl) (cO10 rfl) rfl) rfl rfl (rmk_le (by omega) (by decide)) rfl hl.1 rfl (Nat.le_of_ble_eq_true rfl) dX10_loan_18 ⟨Nat.zero_le _, Nat.zero_le _⟩ ?_
      refine lv_if_ne (tgt := 57) hx hb dX10_loan_21 (by decide) (fun c9 => ?_) (fun c9 => ?_)
      · have hf := it_f hf c9
        refine lv_iconst (v := (-1 : Int32)) hx hb dX10_loan_57 (by decide) ?_
        exact rtWi X hlk G hr (so_i hf) dX10_loan_58
      · have hf := it_t hf c9
        refine lv_aload_n hx hb dX10_loan_24 rfl (lv_at hl 0 rfl) ?_
        refine lv_iload_n hx hb dX10_loan_25 rfl (lv_at hl 2 rfl) ?_
        obtain ⟨x11, h10, hf⟩ := br_s hf
        refine cVRi (As := [.int p2]) (rest := []) X G kc_X10_371 (tX10_isFrozen l E st _ hL  p2 h10) (rcv X G (hL 500 rfl) (cO10 rfl) rfl) rfl rfl (rmk_le (by omega) (by decide)) rfl hl.1 rfl (Nat.le_of_ble_eq_true rfl) dX10_loan_26 ⟨Nat.zero_le _, Nat.zero_le _⟩ ?_
        refine lv_if_ne (tgt := 57) hx hb dX10_loan_29 (by decide) (fun c12 => ?_) (fun c12 => ?_)
        · have hf := it_f hf c12
          refine lv_iconst (v := (-1 : Int32)) hx hb dX10_loan_57 (by decide) ?_
          exact rtWi X hlk G hr (so_i hf) dX10_loan_58
        · have hf := it_t hf c12
          refine lv_aload_n hx hb dX10_loan_32 rfl (lv_at hl 0 rfl) ?_
          refine gf10 X G (hL 500 rfl) rfl 6 (by decide) rfl kf_X10_25 iwX10 dX10_loan_33 ?_
          refine lv_iload_n hx hb dX10_loan_36 rfl (lv_at hl 1 rfl) ?_
          obtain ⟨h13, hf⟩ := gd_s hf
          refine ia_ld (k := 507) (n := 8) X G (hL 507 rfl) rfl (by decide) (ix_in h13) dX10_loan_37 ?_
          refine lv_iload_n hx hb dX10_loan_38 rfl (lv_at hl 2 rfl) ?_
          obtain ⟨x15, h14, hf⟩ := br_s hf
          refine cSRi (As := [.int (st.1 507 p1.toNatClampNeg), .int p2]) (rest := []) X G kc_X10_156 (tX10_has l E st _  (st.1 507 p1.toNatClampNeg) p2 h14) rfl rfl (rmk_le (by omega) (by decide)) rfl hl.1 rfl (Nat.le_of_ble_eq_true rfl) dX10_loan_39 ⟨Nat.zero_le _, Nat.zero_le _⟩ ?_
          refine lv_if_eq (tgt := 57) hx hb dX10_loan_42 (by decide) (fun c16 => ?_) (fun c16 => ?_)
          · have hf := it_t hf c16
            refine lv_iconst (v := (-1 : Int32)) hx hb dX10_loan_57 (by decide) ?_
            exact rtWi X hlk G hr (so_i hf) dX10_loan_58
          · have hf := it_f hf c16
            refine lv_iload_n hx hb dX10_loan_45 rfl (lv_at hl 3 rfl) ?_
            refine lv_i2l hx hb dX10_loan_46 rfl ?_
            refine lv_lconst (v := (1 : Int64)) hx hb dX10_loan_47 (by decide) ?_
            refine lv_ldc2 (v := (60 : Int64)) hx hb X.1.2.2.2.1 (X.1.2.2.2.2 _ kk_X10_471) dX10_loan_48 ?_
            obtain ⟨x18, h17, hf⟩ := br_s hf
            refine cSRi (As := [.long (Int32.toInt64 p3), .long (1 : Int64), .long (60 : Int64)]) (rest := []) X G kc_X10_152 (tX10_in l E st _  (Int32.toInt64 p3) (1 : Int64) (60 : Int64) h17) rfl rfl (rmk_le (by omega) (by decide)) rfl hl.1 rfl (Nat.le_of_ble_eq_true rfl) dX10_loan_51 ⟨Nat.zero_le _, Nat.zero_le _⟩ ?_
            refine lv_if_ne (tgt := 59) hx hb dX10_loan_54 (by decide) (fun c19 => ?_) (fun c19 => ?_)
            · have hf := it_f hf c19
              refine lv_bipush (v := (-2 : Int32)) hx hb dX10_loan_59 (by decide) ?_
              refine lv_istore (lv' := [(4, .int (-2 : Int32)), (0, .ref (eq E 500)), (1, .int p1), (2, .int p2), (3, .int p3)]) hx hb dX10_loan_61 hl (by decide) rfl (fun ls hl => ?_)
              refine lv_aload_n hx hb dX10_loan_63 rfl (lv_at hl 1 rfl) ?_
              refine gf10 X G (hL 500 rfl) rfl 2 (by decide) rfl kf_X10_13 iwX10 dX10_loan_64 ?_
              refine lv_iload_n hx hb dX10_loan_67 rfl (lv_at hl 2 rfl) ?_
              obtain ⟨h20, hf⟩ := gd_s hf
              refine ia_ld (k := 503) (n := 8) X G (hL 503 rfl) rfl (by decide) (ix_in h20) dX10_loan_68 ?_
              refine lv_topi (fun x21 ex21 => ?_)
              have hf := nm_s hf x21 ex21
              refine lv_istore (lv' := [(5, .int x21), (4, .int (-2 : Int32)), (0, .ref (eq E 500)), (1, .int p1), (2, .int p2), (3, .int p3)]) hx hb dX10_loan_69 hl (by decide) rfl (fun ls hl => ?_)
              refine lv_aload_n hx hb dX10_loan_71 rfl (lv_at hl 2 rfl) ?_
              obtain ⟨s23, h22, hf⟩ := br_s hf
              refine cVWv (As := []) (rest := []) X G kc_X10_448 (tX10_keepsAll l E st _ hL   h22) (rcv X G (hL 500 rfl) (cO10 rfl) rfl) rfl rfl (rmk_le (by omega) (by decide)) rfl hl.1 rfl (Nat.le_of_ble_eq_true rfl) dX10_loan_72 ⟨Nat.zero_le _, Nat.zero_le _⟩ (fun H locs G => ?_)
              refine lv_iconst (v := (0 : Int32)) hx hb dX10_loan_75 (by decide) ?_
              refine lv_istore (lv' := [(6, .int (0 : Int32)), (5, .int x21), (4, .int (-2 : Int32)), (0, .ref (eq E 500)), (1, .int p1), (2, .int p2), (3, .int p3)]) hx hb dX10_loan_76 hl (by decide) rfl (fun ls hl => ?_)
              exact wX10_loan_L78 hL X hr hlk 10000 (-2 : Int32) x21 (0 : Int32) s23 _ _ hf G _ (lv_sub hl [3, 4, 5, 6, 2, 1, 0] rfl)
            · have hf := it_t hf c19
              refine lv_iconst (v := (-1 : Int32)) hx hb dX10_loan_57 (by decide) ?_
              exact rtWi X hlk G hr (so_i hf) dX10_loan_58
def fX10_warmthOf (st : St) (p1 : Int32) : Option Int32 := br (fX10_isFrozen st p1) (fun x2 => if x2 = 0 then (gd (ix p1 8) (some (st.1 503 p1.toNatClampNeg))) else (some (0 : Int32)))
set_option maxRecDepth 100000 in
theorem tX10_warmthOf (l : Launch) (E : Ev) (st : St) (sz : Nat) (hL : ∀ k, fxM k = true → k ∈ eL E) (p1 : Int32) {res : Int32} (hf : fX10_warmthOf st p1 = some res) : Met l yX10_warmthOf (.code yX10_warmthOf cX10_warmthOf 2 (some .int) :: uW) (rmk 2) (va_Pc [.ref (eq E 500), .int p1] (Pre E st sz)) (QRi res) 0 0 (NoF) := by
  refine Met_in (by decide) (Nat.le_of_ble_eq_true rfl) ?_
  intro p e s m below meth c X hr hlk hz G ls hl
  have hx := X.1.1
  have hb := X.1.2.1
  have hl : lv_has ls 2 [(0, .ref (eq E 500)), (1, .int p1)] := hl
  unfold fX10_warmthOf at hf
  refine lv_aload_n hx hb dX10_warmthOf_0 rfl (lv_at hl 0 rfl) ?_
  refine lv_iload_n hx hb dX10_warmthOf_1 rfl (lv_at hl 1 rfl) ?_
  obtain ⟨x2, h1, hf⟩ := br_s hf
  refine cVRi (As := [.int p1]) (rest := []) X G kc_X10_371 (tX10_isFrozen l E st _ hL  p1 h1) (rcv X G (hL 500 rfl) (cO10 rfl) rfl) rfl rfl (rmk_le (by omega) (by decide)) rfl hl.1 rfl (Nat.le_of_ble_eq_true rfl) dX10_warmthOf_2 ⟨Nat.zero_le _, Nat.zero_le _⟩ ?_
  refine lv_if_eq (tgt := 12) hx hb dX10_warmthOf_5 (by decide) (fun c3 => ?_) (fun c3 => ?_)
  · have hf := it_t hf c3
    refine lv_aload_n hx hb dX10_warmthOf_12 rfl (lv_at hl 0 rfl) ?_
    refine gf10 X G (hL 500 rfl) rfl 2 (by decide) rfl kf_X10_13 iwX10 dX10_warmthOf_13 ?_
    refine lv_iload_n hx hb dX10_warmthOf_16 rfl (lv_at hl 1 rfl) ?_
    obtain ⟨h4, hf⟩ := gd_s hf
    refine ia_ld (k := 503) (n := 8) X G (hL 503 rfl) rfl (by decide) (ix_in h4) dX10_warmthOf_17 ?_
    exact rtRi X hlk hr (so_i hf) dX10_warmthOf_18
  · have hf := it_f hf c3
    refine lv_iconst (v := (0 : Int32)) hx hb dX10_warmthOf_8 (by decide) ?_
    refine lv_goto (tgt := 18) hx hb dX10_warmthOf_9 (by decide) ?_
    exact rtRi X hlk hr (so_i hf) dX10_warmthOf_18
def fX10_levy_B156 (p1 : Int32) (p2 : Int32) (st : St) (k76 : Int32 → Int32 → Int32 → Int32 → Option Int32) (y3 : Int32) (y4 : Int32) (y6 : Int32) (z0 : Int32) (z1 : Int32) : Option Int32 := nm (z1 + z0) (fun x1 => nm (y6 + (1 : Int32)) (fun x2 => k76 y3 y4 x1 x2))
set_option maxRecDepth 100000 in
theorem wX10_levy_B156 {p : Program} {l : Launch} {e : Env} {s : State} {m : MethodId} {args : Array Value} {below : List Frame} {meth : Method} {c : Code} {E : Ev} (hL : ∀ k, fxM k = true → k ∈ eL E) {p1 : Int32} {p2 : Int32} {st : St} {sz : Nat} {res : Int32} (X : CX p s m args c E RX10 cX10_levy 8 (Af E sz)) (hr : meth.sig.returnType = (some .int)) (hlk : meth.locks = false) (G : Gd E st (Af E sz) s s.heap []) {k76 : Int32 → Int32 → Int32 → Int32 → Option Int32} (hk76 : ∀ (y3 : Int32) (y4 : Int32) (y5 : Int32) (y6 : Int32), k76 y3 y4 y5 y6 = some res → ∀ ls : Array Slot, lv_has ls 8 [(0, .ref (eq E 500)), (1, .int p1), (2, .int p2), (3, .int y3), (4, .int y4), (5, .int y5), (6, .int y6)] → W p l e (rmk 3) s m args below meth c s.heap [] 0 0 (MQ below (QRi res) args s 0 0 (NoF)) (F0 m 76 ls [])) : ∀ (y3 : Int32) (y4 : Int32) (y6 : Int32) (z0 : Int32) (z1 : Int32), fX10_levy_B156 p1 p2 st k76 y3 y4 y6 z0 z1 = some res → ∀ ls : Array Slot, lv_has ls 8 [(0, .ref (eq E 500)), (1, .int p1), (2, .int p2), (3, .int y3), (4, .int y4), (6, .int y6)] → W p l e (rmk 3) s m args below meth c s.heap [] 0 0 (MQ below (QRi res) args s 0 0 (NoF)) (F0 m 156 ls [.int z0, .int z1]) := by
  have hx := X.1.1
  have hb := X.1.2.1
  intro y3 y4 y6 z0 z1 hf ls hl
  unfold fX10_levy_B156 at hf
  refine lv_iadd hx hb dX10_levy_156 ?_
  refine lv_topi (fun x1 ex1 => ?_)
  have hf := nm_s hf x1 ex1
  refine lv_istore (lv' := [(5, .int x1), (0, .ref (eq E 500)), (1, .int p1), (2, .int p2), (3, .int y3), (4, .int y4), (6, .int y6)]) hx hb dX10_levy_157 hl (by decide) rfl (fun ls hl => ?_)
  obtain ⟨x2, ex2⟩ : ∃ y : Int32, y = (y6 + (1 : Int32)) := ⟨_, rfl⟩
  have hf := nm_s hf x2 ex2
  refine lv_iinc (k := 6) (v := x2) (lv' := [(6, .int x2), (5, .int x1), (0, .ref (eq E 500)), (1, .int p1), (2, .int p2), (3, .int y3), (4, .int y4)]) hx hb dX10_levy_159 hl rfl (by rw [ex2]; rfl) (by decide) rfl (fun ls hl => ?_)
  refine lv_goto (tgt := 76) hx hb dX10_levy_162 (by decide) ?_
  exact hk76 y3 y4 x1 x2 hf _ (lv_sub hl [2, 3, 4, 5, 6, 1, 0] rfl)
def fX10_levy_B151 (p1 : Int32) (p2 : Int32) (st : St) (k76 : Int32 → Int32 → Int32 → Int32 → Option Int32) (y3 : Int32) (y4 : Int32) (y6 : Int32) (z0 : Int32) : Option Int32 := fX10_levy_B156 p1 p2 st k76 y3 y4 y6 (1 : Int32) z0
set_option maxRecDepth 100000 in
theorem wX10_levy_B151 {p : Program} {l : Launch} {e : Env} {s : State} {m : MethodId} {args : Array Value} {below : List Frame} {meth : Method} {c : Code} {E : Ev} (hL : ∀ k, fxM k = true → k ∈ eL E) {p1 : Int32} {p2 : Int32} {st : St} {sz : Nat} {res : Int32} (X : CX p s m args c E RX10 cX10_levy 8 (Af E sz)) (hr : meth.sig.returnType = (some .int)) (hlk : meth.locks = false) (G : Gd E st (Af E sz) s s.heap []) {k76 : Int32 → Int32 → Int32 → Int32 → Option Int32} (hk76 : ∀ (y3 : Int32) (y4 : Int32) (y5 : Int32) (y6 : Int32), k76 y3 y4 y5 y6 = some res → ∀ ls : Array Slot, lv_has ls 8 [(0, .ref (eq E 500)), (1, .int p1), (2, .int p2), (3, .int y3), (4, .int y4), (5, .int y5), (6, .int y6)] → W p l e (rmk 3) s m args below meth c s.heap [] 0 0 (MQ below (QRi res) args s 0 0 (NoF)) (F0 m 76 ls [])) : ∀ (y3 : Int32) (y4 : Int32) (y6 : Int32) (z0 : Int32), fX10_levy_B151 p1 p2 st k76 y3 y4 y6 z0 = some res → ∀ ls : Array Slot, lv_has ls 8 [(0, .ref (eq E 500)), (1, .int p1), (2, .int p2), (3, .int y3), (4, .int y4), (6, .int y6)] → W p l e (rmk 3) s m args below meth c s.heap [] 0 0 (MQ below (QRi res) args s 0 0 (NoF)) (F0 m 151 ls [.int z0]) := by
  have hx := X.1.1
  have hb := X.1.2.1
  intro y3 y4 y6 z0 hf ls hl
  unfold fX10_levy_B151 at hf
  refine lv_iconst (v := (1 : Int32)) hx hb dX10_levy_151 (by decide) ?_
  refine lv_goto (tgt := 156) hx hb dX10_levy_152 (by decide) ?_
  exact wX10_levy_B156 hL X hr hlk G hk76 y3 y4 y6 (1 : Int32) z0 hf _ (lv_sub hl [0, 1, 2, 3, 4, 5] rfl)
def fX10_levy_B155 (p1 : Int32) (p2 : Int32) (st : St) (k76 : Int32 → Int32 → Int32 → Int32 → Option Int32) (y3 : Int32) (y4 : Int32) (y6 : Int32) (z0 : Int32) : Option Int32 := fX10_levy_B156 p1 p2 st k76 y3 y4 y6 (0 : Int32) z0
set_option maxRecDepth 100000 in
theorem wX10_levy_B155 {p : Program} {l : Launch} {e : Env} {s : State} {m : MethodId} {args : Array Value} {below : List Frame} {meth : Method} {c : Code} {E : Ev} (hL : ∀ k, fxM k = true → k ∈ eL E) {p1 : Int32} {p2 : Int32} {st : St} {sz : Nat} {res : Int32} (X : CX p s m args c E RX10 cX10_levy 8 (Af E sz)) (hr : meth.sig.returnType = (some .int)) (hlk : meth.locks = false) (G : Gd E st (Af E sz) s s.heap []) {k76 : Int32 → Int32 → Int32 → Int32 → Option Int32} (hk76 : ∀ (y3 : Int32) (y4 : Int32) (y5 : Int32) (y6 : Int32), k76 y3 y4 y5 y6 = some res → ∀ ls : Array Slot, lv_has ls 8 [(0, .ref (eq E 500)), (1, .int p1), (2, .int p2), (3, .int y3), (4, .int y4), (5, .int y5), (6, .int y6)] → W p l e (rmk 3) s m args below meth c s.heap [] 0 0 (MQ below (QRi res) args s 0 0 (NoF)) (F0 m 76 ls [])) : ∀ (y3 : Int32) (y4 : Int32) (y6 : Int32) (z0 : Int32), fX10_levy_B155 p1 p2 st k76 y3 y4 y6 z0 = some res → ∀ ls : Array Slot, lv_has ls 8 [(0, .ref (eq E 500)), (1, .int p1), (2, .int p2), (3, .int y3), (4, .int y4), (6, .int y6)] → W p l e (rmk 3) s m args below meth c s.heap [] 0 0 (MQ below (QRi res) args s 0 0 (NoF)) (F0 m 155 ls [.int z0]) := by
  have hx := X.1.1
  have hb := X.1.2.1
  intro y3 y4 y6 z0 hf ls hl
  unfold fX10_levy_B155 at hf
  refine lv_iconst (v := (0 : Int32)) hx hb dX10_levy_155 (by decide) ?_
  exact wX10_levy_B156 hL X hr hlk G hk76 y3 y4 y6 (0 : Int32) z0 hf _ (lv_sub hl [0, 1, 2, 3, 4, 5] rfl)
def fX10_levy_L76 (p1 : Int32) (p2 : Int32) (st : St) : Nat → Int32 → Int32 → Int32 → Int32 → Option Int32
  | 0, _, _, _, _ => none
  | n + 1, y3, y4, y5, y6 => if (st.1 502 3) ≤ y6 then (br (fX10_warmthOf st p2) (fun x4 => gd (nz y3) (if y4 ≤ y5 then (some (((p1 * x4) / y3) + (0 : Int32))) else (some (((p1 * x4) / y3) + (1 : Int32)))))) else (br (fX10_isFrozen st y6) (fun x4 => if x4 = 0 then (br (fX10_warmthOf st y6) (fun x7 => gd (nz y3) (br (fX10_warmthOf st p2) (fun x10 => gd (nz y3) (nm ((irm (p1 * x7) y3) - (irm (p1 * x10) y3)) (fun x12 => br (fX10_warmthOf st y6) (fun x14 => gd (nz y3) (nm (y4 - ((p1 * x14) / y3)) (fun x16 => if 0 < x12 then (fX10_levy_B151 p1 p2 st (fX10_levy_L76 p1 p2 st n) y3 x16 y6 y5) else (if x12 = 0 then (if p2 ≤ y6 then (fX10_levy_B155 p1 p2 st (fX10_levy_L76 p1 p2 st n) y3 x16 y6 y5) else (fX10_levy_B151 p1 p2 st (fX10_levy_L76 p1 p2 st n) y3 x16 y6 y5)) else (fX10_levy_B155 p1 p2 st (fX10_levy_L76 p1 p2 st n) y3 x16 y6 y5))))))))))) else (nm (y6 + (1 : Int32)) (fun x6 => (fX10_levy_L76 p1 p2 st n) y3 y4 y5 x6))))
set_option maxRecDepth 100000 in
theorem wX10_levy_L76 {p : Program} {l : Launch} {e : Env} {s : State} {m : MethodId} {args : Array Value} {below : List Frame} {meth : Method} {c : Code} {E : Ev} (hL : ∀ k, fxM k = true → k ∈ eL E) {p1 : Int32} {p2 : Int32} {st : St} {sz : Nat} {res : Int32} (X : CX p s m args c E RX10 cX10_levy 8 (Af E sz)) (hr : meth.sig.returnType = (some .int)) (hlk : meth.locks = false) (G : Gd E st (Af E sz) s s.heap []) : ∀ (n : Nat) (y3 : Int32) (y4 : Int32) (y5 : Int32) (y6 : Int32), fX10_levy_L76 p1 p2 st  n y3 y4 y5 y6 = some res → ∀ ls : Array Slot, lv_has ls 8 [(0, .ref (eq E 500)), (1, .int p1), (2, .int p2), (3, .int y3), (4, .int y4), (5, .int y5), (6, .int y6)] → W p l e (rmk 3) s m args below meth c s.heap [] 0 0 (MQ below (QRi res) args s 0 0 (NoF)) (F0 m 76 ls []) := by
  have hx := X.1.1
  have hb := X.1.2.1
  intro n
  induction n with
  | zero =>
    intro y3 y4 y5 y6 hf ls hl
    cases (show (none : Option Int32) = some res from hf)
  | succ n ih =>
    intro y3 y4 y5 y6 hf ls hl
    rw [fX10_levy_L76] at hf
    refine lv_iload hx hb dX10_levy_76 (lv_at hl 6 rfl) ?_
    refine lv_aload_n hx hb dX10_levy_78 rfl (lv_at hl 0 rfl) ?_
    refine gf10 X G (hL 500 rfl) rfl 1 (by decide) rfl kf_X10_9 iwX10 dX10_levy_79 ?_
    refine lv_iconst (v := (3 : Int32)) hx hb dX10_levy_82 (by decide) ?_
    refine ia_ldc (k := 502) (n := 12) X G (hL 502 rfl) rfl (by decide) 3 (by decide) dX10_levy_83 ?_
    refine lv_icmp_ge (tgt := 165) hx hb dX10_levy_84 (by decide) (fun c2 => ?_) (fun c2 => ?_)
    · have hf := it_t hf c2
      refine lv_iload_n hx hb dX10_levy_165 rfl (lv_at hl 1 rfl) ?_
      refine lv_aload_n hx hb dX10_levy_166 rfl (lv_at hl 0 rfl) ?_
      refine lv_iload_n hx hb dX10_levy_167 rfl (lv_at hl 2 rfl) ?_
      obtain ⟨x4, h3, hf⟩ := br_s hf
      refine cVRi (As := [.int p2]) (rest := [.int p1]) X G kc_X10_475 (tX10_warmthOf l E st _ hL  p2 h3) (rcv X G (hL 500 rfl) (cO10 rfl) rfl) rfl rfl (rmk_le (by omega) (by decide)) rfl hl.1 rfl (Nat.le_of_ble_eq_true rfl) dX10_levy_168 ⟨Nat.zero_le _, Nat.zero_le _⟩ ?_
      refine lv_imul hx hb dX10_levy_171 ?_
      refine lv_iload_n hx hb dX10_levy_172 rfl (lv_at hl 3 rfl) ?_
      obtain ⟨h5, hf⟩ := gd_s hf
      refine lv_idiv hx hb dX10_levy_173 (nz_n h5) ?_
      refine lv_iload hx hb dX10_levy_174 (lv_at hl 5 rfl) ?_
      refine lv_iload hx hb dX10_levy_176 (lv_at hl 4 rfl) ?_
      refine lv_icmp_ge (tgt := 185) hx hb dX10_levy_178 (by decide) (fun c6 => ?_) (fun c6 => ?_)
      · have hf := it_t hf c6
        refine lv_iconst (v := (0 : Int32)) hx hb dX10_levy_185 (by decide) ?_
        refine lv_iadd hx hb dX10_levy_186 ?_
        exact rtRi X hlk hr (so_i hf) dX10_levy_187
      · have hf := it_f hf c6
        refine lv_iconst (v := (1 : Int32)) hx hb dX10_levy_181 (by decide) ?_
        refine lv_goto (tgt := 186) hx hb dX10_levy_182 (by decide) ?_
        refine lv_iadd hx hb dX10_levy_186 ?_
        exact rtRi X hlk hr (so_i hf) dX10_levy_187
    · have hf := it_f hf c2
      refine lv_aload_n hx hb dX10_levy_87 rfl (lv_at hl 0 rfl) ?_
      refine lv_iload hx hb dX10_levy_88 (lv_at hl 6 rfl) ?_
      obtain ⟨x4, h3, hf⟩ := br_s hf
      refine cVRi (As := [.int y6]) (rest := []) X G kc_X10_371 (tX10_isFrozen l E st _ hL  y6 h3) (rcv X G (hL 500 rfl) (cO10 rfl) rfl) rfl rfl (rmk_le (by omega) (by decide)) rfl hl.1 rfl (Nat.le_of_ble_eq_true rfl) dX10_levy_90 ⟨Nat.zero_le _, Nat.zero_le _⟩ ?_
      refine lv_if_ne (tgt := 159) hx hb dX10_levy_93 (by decide) (fun c5 => ?_) (fun c5 => ?_)
      · have hf := it_f hf c5
        obtain ⟨x6, ex6⟩ : ∃ y : Int32, y = (y6 + (1 : Int32)) := ⟨_, rfl⟩
        have hf := nm_s hf x6 ex6
        refine lv_iinc (k := 6) (v := x6) (lv' := [(6, .int x6), (0, .ref (eq E 500)), (1, .int p1), (2, .int p2), (3, .int y3), (4, .int y4), (5, .int y5)]) hx hb dX10_levy_159 hl rfl (by rw [ex6]; rfl) (by decide) rfl (fun ls hl => ?_)
        refine lv_goto (tgt := 76) hx hb dX10_levy_162 (by decide) ?_
        exact ih y3 y4 y5 x6 hf _ (lv_sub hl [1, 2, 3, 4, 5, 6, 0] rfl)
      · have hf := it_t hf c5
        refine lv_iload_n hx hb dX10_levy_96 rfl (lv_at hl 1 rfl) ?_
        refine lv_aload_n hx hb dX10_levy_97 rfl (lv_at hl 0 rfl) ?_
        refine lv_iload hx hb dX10_levy_98 (lv_at hl 6 rfl) ?_
        obtain ⟨x7, h6, hf⟩ := br_s hf
        refine cVRi (As := [.int y6]) (rest := [.int p1]) X G kc_X10_475 (tX10_warmthOf l E st _ hL  y6 h6) (rcv X G (hL 500 rfl) (cO10 rfl) rfl) rfl rfl (rmk_le (by omega) (by decide)) rfl hl.1 rfl (Nat.le_of_ble_eq_true rfl) dX10_levy_100 ⟨Nat.zero_le _, Nat.zero_le _⟩ ?_
        refine lv_imul hx hb dX10_levy_103 ?_
        refine lv_iload_n hx hb dX10_levy_104 rfl (lv_at hl 3 rfl) ?_
        obtain ⟨h8, hf⟩ := gd_s hf
        refine lv_irem hx hb dX10_levy_105 (nz_n h8) ?_
        refine lv_iload_n hx hb dX10_levy_106 rfl (lv_at hl 1 rfl) ?_
        refine lv_aload_n hx hb dX10_levy_107 rfl (lv_at hl 0 rfl) ?_
        refine lv_iload_n hx hb dX10_levy_108 rfl (lv_at hl 2 rfl) ?_
        obtain ⟨x10, h9, hf⟩ := br_s hf
        refine cVRi (As := [.int p2]) (rest := [.int p1, .int (irm (p1 * x7) y3)]) X G kc_X10_475 (tX10_warmthOf l E st _ hL  p2 h9) (rcv X G (hL 500 rfl) (cO10 rfl) rfl) rfl rfl (rmk_le (by omega) (by decide)) rfl hl.1 rfl (Nat.le_of_ble_eq_true rfl) dX10_levy_109 ⟨Nat.zero_le _, Nat.zero_le _⟩ ?_
        refine lv_imul hx hb dX10_levy_112 ?_
        refine lv_iload_n hx hb dX10_levy_113 rfl (lv_at hl 3 rfl) ?_
        obtain ⟨h11, hf⟩ := gd_s hf
        refine lv_irem hx hb dX10_levy_114 (nz_n h11) ?_
        refine lv_isub hx hb dX10_levy_115 ?_
        refine lv_topi (fun x12 ex12 => ?_)
        have hf := nm_s hf x12 ex12
        refine lv_istore (lv' := [(7, .int x12), (0, .ref (eq E 500)), (1, .int p1), (2, .int p2), (3, .int y3), (4, .int y4), (5, .int y5), (6, .int y6)]) hx hb dX10_levy_116 hl (by decide) rfl (fun ls hl => ?_)
        refine lv_iload hx hb dX10_levy_118 (lv_at hl 5 rfl) ?_
        refine lv_iload_n hx hb dX10_levy_120 rfl (lv_at hl 2 rfl) ?_
        refine lv_aload_n hx hb dX10_levy_121 rfl (lv_at hl 1 rfl) ?_
        refine lv_iload hx hb dX10_levy_122 (lv_at hl 7 rfl) ?_
        obtain ⟨x14, h13, hf⟩ := br_s hf
        refine cVRi (As := [.int y6]) (rest := [.int p1, .int y4]) X G kc_X10_475 (tX10_warmthOf l E st _ hL  y6 h13) (rcv X G (hL 500 rfl) (cO10 rfl) rfl) rfl rfl (rmk_le (by omega) (by decide)) rfl hl.1 rfl (Nat.le_of_ble_eq_true rfl) dX10_levy_124 ⟨Nat.zero_le _, Nat.zero_le _⟩ ?_
        refine lv_imul hx hb dX10_levy_127 ?_
        refine lv_iload_n hx hb dX10_levy_128 rfl (lv_at hl 4 rfl) ?_
        obtain ⟨h15, hf⟩ := gd_s hf
        refine lv_idiv hx hb dX10_levy_129 (nz_n h15) ?_
        refine lv_isub hx hb dX10_levy_130 ?_
        refine lv_topi (fun x16 ex16 => ?_)
        have hf := nm_s hf x16 ex16
        refine lv_istore (lv' := [(4, .int x16), (7, .int x12), (0, .ref (eq E 500)), (1, .int p1), (2, .int p2), (3, .int y3), (5, .int y5), (6, .int y6)]) hx hb dX10_levy_131 hl (by decide) rfl (fun ls hl => ?_)
        refine lv_iload hx hb dX10_levy_133 (lv_at hl 6 rfl) ?_
        refine lv_iload hx hb dX10_levy_135 (lv_at hl 1 rfl) ?_
        refine lv_if_gt (tgt := 151) hx hb dX10_levy_137 (by decide) (fun c17 => ?_) (fun c17 => ?_)
        · have hf := it_t hf c17
          exact wX10_levy_B151 hL X hr hlk G ih y3 x16 y6 y5 hf _ (lv_sub hl [2, 3, 4, 5, 0, 7] rfl)
        · have hf := it_f hf c17
          refine lv_iload hx hb dX10_levy_140 (lv_at hl 1 rfl) ?_
          refine lv_if_ne (tgt := 155) hx hb dX10_levy_142 (by decide) (fun c18 => ?_) (fun c18 => ?_)
          · have hf := it_f hf c18
            exact wX10_levy_B155 hL X hr hlk G ih y3 x16 y6 y5 hf _ (lv_sub hl [2, 3, 4, 5, 0, 7] rfl)
          · have hf := it_t hf c18
            refine lv_iload hx hb dX10_levy_145 (lv_at hl 7 rfl) ?_
            refine lv_iload_n hx hb dX10_levy_147 rfl (lv_at hl 4 rfl) ?_
            refine lv_icmp_ge (tgt := 155) hx hb dX10_levy_148 (by decide) (fun c19 => ?_) (fun c19 => ?_)
            · have hf := it_t hf c19
              exact wX10_levy_B155 hL X hr hlk G ih y3 x16 y6 y5 hf _ (lv_sub hl [2, 3, 4, 5, 0, 7] rfl)
            · have hf := it_f hf c19
              exact wX10_levy_B151 hL X hr hlk G ih y3 x16 y6 y5 hf _ (lv_sub hl [2, 3, 4, 5, 0, 7] rfl)
def fX10_levy_L27 (p1 : Int32) (p2 : Int32) (st : St) : Nat → Int32 → Int32 → Option Int32
  | 0, _, _ => none
  | n + 1, y3, y4 => if (st.1 502 3) ≤ y4 then (if y3 = 0 then (some (0 : Int32)) else (br (fX10_isFrozen st p2) (fun x5 => if x5 = 0 then (fX10_levy_L76 p1 p2 st 10000 y3 p1 (0 : Int32) (0 : Int32)) else (some (0 : Int32))))) else (br (fX10_warmthOf st y4) (fun x4 => nm (y3 + x4) (fun x5 => nm (y4 + (1 : Int32)) (fun x6 => (fX10_levy_L27 p1 p2 st n) x5 x6))))
set_option maxRecDepth 100000 in
theorem wX10_levy_L27 {p : Program} {l : Launch} {e : Env} {s : State} {m : MethodId} {args : Array Value} {below : List Frame} {meth : Method} {c : Code} {E : Ev} (hL : ∀ k, fxM k = true → k ∈ eL E) {p1 : Int32} {p2 : Int32} {st : St} {sz : Nat} {res : Int32} (X : CX p s m args c E RX10 cX10_levy 8 (Af E sz)) (hr : meth.sig.returnType = (some .int)) (hlk : meth.locks = false) (G : Gd E st (Af E sz) s s.heap []) : ∀ (n : Nat) (y3 : Int32) (y4 : Int32), fX10_levy_L27 p1 p2 st  n y3 y4 = some res → ∀ ls : Array Slot, lv_has ls 8 [(0, .ref (eq E 500)), (1, .int p1), (2, .int p2), (3, .int y3), (4, .int y4)] → W p l e (rmk 3) s m args below meth c s.heap [] 0 0 (MQ below (QRi res) args s 0 0 (NoF)) (F0 m 27 ls []) := by
  have hx := X.1.1
  have hb := X.1.2.1
  intro n
  induction n with
  | zero =>
    intro y3 y4 hf ls hl
    cases (show (none : Option Int32) = some res from hf)
  | succ n ih =>
    intro y3 y4 hf ls hl
    rw [fX10_levy_L27] at hf
    refine lv_iload hx hb dX10_levy_27 (lv_at hl 4 rfl) ?_
    refine lv_aload_n hx hb dX10_levy_29 rfl (lv_at hl 0 rfl) ?_
    refine gf10 X G (hL 500 rfl) rfl 1 (by decide) rfl kf_X10_9 iwX10 dX10_levy_30 ?_
    refine lv_iconst (v := (3 : Int32)) hx hb dX10_levy_33 (by decide) ?_
    refine ia_ldc (k := 502) (n := 12) X G (hL 502 rfl) rfl (by decide) 3 (by decide) dX10_levy_34 ?_
    refine lv_icmp_ge (tgt := 53) hx hb dX10_levy_35 (by decide) (fun c2 => ?_) (fun c2 => ?_)
    · have hf := it_t hf c2
      refine lv_iload_n hx hb dX10_levy_53 rfl (lv_at hl 3 rfl) ?_
      refine lv_if_eq (tgt := 65) hx hb dX10_levy_54 (by decide) (fun c3 => ?_) (fun c3 => ?_)
      · have hf := it_t hf c3
        refine lv_iconst (v := (0 : Int32)) hx hb dX10_levy_65 (by decide) ?_
        exact rtRi X hlk hr (so_i hf) dX10_levy_66
      · have hf := it_f hf c3
        refine lv_aload_n hx hb dX10_levy_57 rfl (lv_at hl 0 rfl) ?_
        refine lv_iload_n hx hb dX10_levy_58 rfl (lv_at hl 2 rfl) ?_
        obtain ⟨x5, h4, hf⟩ := br_s hf
        refine cVRi (As := [.int p2]) (rest := []) X G kc_X10_371 (tX10_isFrozen l E st _ hL  p2 h4) (rcv X G (hL 500 rfl) (cO10 rfl) rfl) rfl rfl (rmk_le (by omega) (by decide)) rfl hl.1 rfl (Nat.le_of_ble_eq_true rfl) dX10_levy_59 ⟨Nat.zero_le _, Nat.zero_le _⟩ ?_
        refine lv_if_eq (tgt := 67) hx hb dX10_levy_62 (by decide) (fun c6 => ?_) (fun c6 => ?_)
        · have hf := it_t hf c6
          refine lv_iload_n hx hb dX10_levy_67 rfl (lv_at hl 1 rfl) ?_
          refine lv_istore (lv' := [(4, .int p1), (0, .ref (eq E 500)), (1, .int p1), (2, .int p2), (3, .int y3)]) hx hb dX10_levy_68 hl (by decide) rfl (fun ls hl => ?_)
          refine lv_iconst (v := (0 : Int32)) hx hb dX10_levy_70 (by decide) ?_
          refine lv_istore (lv' := [(5, .int (0 : Int32)), (4, .int p1), (0, .ref (eq E 500)), (1, .int p1), (2, .int p2), (3, .int y3)]) hx hb dX10_levy_71 hl (by decide) rfl (fun ls hl => ?_)
          refine lv_iconst (v := (0 : Int32)) hx hb dX10_levy_73 (by decide) ?_
          refine lv_istore (lv' := [(6, .int (0 : Int32)), (5, .int (0 : Int32)), (4, .int p1), (0, .ref (eq E 500)), (1, .int p1), (2, .int p2), (3, .int y3)]) hx hb dX10_levy_74 hl (by decide) rfl (fun ls hl => ?_)
          exact wX10_levy_L76 hL X hr hlk G 10000 y3 p1 (0 : Int32) (0 : Int32) hf _ (lv_sub hl [3, 4, 5, 6, 2, 1, 0] rfl)
        · have hf := it_f hf c6
          refine lv_iconst (v := (0 : Int32)) hx hb dX10_levy_65 (by decide) ?_
          exact rtRi X hlk hr (so_i hf) dX10_levy_66
    · have hf := it_f hf c2
      refine lv_iload_n hx hb dX10_levy_38 rfl (lv_at hl 3 rfl) ?_
      refine lv_aload_n hx hb dX10_levy_39 rfl (lv_at hl 0 rfl) ?_
      refine lv_iload hx hb dX10_levy_40 (lv_at hl 4 rfl) ?_
      obtain ⟨x4, h3, hf⟩ := br_s hf
      refine cVRi (As := [.int y4]) (rest := [.int y3]) X G kc_X10_475 (tX10_warmthOf l E st _ hL  y4 h3) (rcv X G (hL 500 rfl) (cO10 rfl) rfl) rfl rfl (rmk_le (by omega) (by decide)) rfl hl.1 rfl (Nat.le_of_ble_eq_true rfl) dX10_levy_42 ⟨Nat.zero_le _, Nat.zero_le _⟩ ?_
      refine lv_iadd hx hb dX10_levy_45 ?_
      refine lv_topi (fun x5 ex5 => ?_)
      have hf := nm_s hf x5 ex5
      refine lv_istore_n (lv' := [(3, .int x5), (0, .ref (eq E 500)), (1, .int p1), (2, .int p2), (4, .int y4)]) hx hb dX10_levy_46 rfl hl (by decide) rfl (fun ls hl => ?_)
      obtain ⟨x6, ex6⟩ : ∃ y : Int32, y = (y4 + (1 : Int32)) := ⟨_, rfl⟩
      have hf := nm_s hf x6 ex6
      refine lv_iinc (k := 4) (v := x6) (lv' := [(4, .int x6), (3, .int x5), (0, .ref (eq E 500)), (1, .int p1), (2, .int p2)]) hx hb dX10_levy_47 hl rfl (by rw [ex6]; rfl) (by decide) rfl (fun ls hl => ?_)
      refine lv_goto (tgt := 27) hx hb dX10_levy_50 (by decide) ?_
      exact ih x5 x6 hf _ (lv_sub hl [2, 3, 4, 1, 0] rfl)
def fX10_levy (st : St) (p1 : Int32) (p2 : Int32) : Option Int32 := br (fX10_isHouse st p2) (fun x2 => if x2 = 0 then (some (-1 : Int32)) else (br (fX10_in (Int32.toInt64 p1) (0 : Int64) (9999 : Int64)) (fun x5 => if x5 = 0 then (some (-1 : Int32)) else (fX10_levy_L27 p1 p2 st 10000 (0 : Int32) (0 : Int32)))))
set_option maxRecDepth 100000 in
theorem tX10_levy (l : Launch) (E : Ev) (st : St) (sz : Nat) (hL : ∀ k, fxM k = true → k ∈ eL E) (p1 : Int32) (p2 : Int32) {res : Int32} (hf : fX10_levy st p1 p2 = some res) : Met l yX10_levy (.code yX10_levy cX10_levy 8 (some .int) :: uW) (rmk 3) (va_Pc [.ref (eq E 500), .int p1, .int p2] (Pre E st sz)) (QRi res) 0 0 (NoF) := by
  refine Met_in (by decide) (Nat.le_of_ble_eq_true rfl) ?_
  intro p e s m below meth c X hr hlk hz G ls hl
  have hx := X.1.1
  have hb := X.1.2.1
  have hl : lv_has ls 8 [(0, .ref (eq E 500)), (1, .int p1), (2, .int p2)] := hl
  unfold fX10_levy at hf
  refine lv_aload_n hx hb dX10_levy_0 rfl (lv_at hl 0 rfl) ?_
  refine lv_iload_n hx hb dX10_levy_1 rfl (lv_at hl 2 rfl) ?_
  obtain ⟨x2, h1, hf⟩ := br_s hf
  refine cVRi (As := [.int p2]) (rest := []) X G kc_X10_367 (tX10_isHouse l E st _ hL  p2 h1) (rcv X G (hL 500 rfl) (cO10 rfl) rfl) rfl rfl (rmk_le (by omega) (by decide)) rfl hl.1 rfl (Nat.le_of_ble_eq_true rfl) dX10_levy_2 ⟨Nat.zero_le _, Nat.zero_le _⟩ ?_
  refine lv_if_eq (tgt := 20) hx hb dX10_levy_5 (by decide) (fun c3 => ?_) (fun c3 => ?_)
  · have hf := it_t hf c3
    refine lv_iconst (v := (-1 : Int32)) hx hb dX10_levy_20 (by decide) ?_
    exact rtRi X hlk hr (so_i hf) dX10_levy_21
  · have hf := it_f hf c3
    refine lv_iload_n hx hb dX10_levy_8 rfl (lv_at hl 1 rfl) ?_
    refine lv_i2l hx hb dX10_levy_9 rfl ?_
    refine lv_lconst (v := (0 : Int64)) hx hb dX10_levy_10 (by decide) ?_
    refine lv_ldc2 (v := (9999 : Int64)) hx hb X.1.2.2.2.1 (X.1.2.2.2.2 _ kk_X10_473) dX10_levy_11 ?_
    obtain ⟨x5, h4, hf⟩ := br_s hf
    refine cSRi (As := [.long (Int32.toInt64 p1), .long (0 : Int64), .long (9999 : Int64)]) (rest := []) X G kc_X10_152 (tX10_in l E st _  (Int32.toInt64 p1) (0 : Int64) (9999 : Int64) h4) rfl rfl (rmk_le (by omega) (by decide)) rfl hl.1 rfl (Nat.le_of_ble_eq_true rfl) dX10_levy_14 ⟨Nat.zero_le _, Nat.zero_le _⟩ ?_
    refine lv_if_ne (tgt := 22) hx hb dX10_levy_17 (by decide) (fun c6 => ?_) (fun c6 => ?_)
    · have hf := it_f hf c6
      refine lv_iconst (v := (0 : Int32)) hx hb dX10_levy_22 (by decide) ?_
      refine lv_istore_n (lv' := [(3, .int (0 : Int32)), (0, .ref (eq E 500)), (1, .int p1), (2, .int p2)]) hx hb dX10_levy_23 rfl hl (by decide) rfl (fun ls hl => ?_)
      refine lv_iconst (v := (0 : Int32)) hx hb dX10_levy_24 (by decide) ?_
      refine lv_istore (lv' := [(4, .int (0 : Int32)), (3, .int (0 : Int32)), (0, .ref (eq E 500)), (1, .int p1), (2, .int p2)]) hx hb dX10_levy_25 hl (by decide) rfl (fun ls hl => ?_)
      exact wX10_levy_L27 hL X hr hlk G 10000 (0 : Int32) (0 : Int32) hf _ (lv_sub hl [2, 3, 4, 1, 0] rfl)
    · have hf := it_t hf c6
      refine lv_iconst (v := (-1 : Int32)) hx hb dX10_levy_20 (by decide) ?_
      exact rtRi X hlk hr (so_i hf) dX10_levy_21
def fX10_lanesTo_B64 (p1 : Int32) (p2 : Int32) (st : St) (k7 : Int32 → Int32 → Option Int32) (k31 : Int32 → Int32 → Int32 → Int32 → Option Int32) (y3 : Int32) (y4 : Int32) (y6 : Int32) (z0 : Int32) (z1 : Int32) : Option Int32 := nm (z1 ||| z0) (fun x1 => nm (y6 + (1 : Int32)) (fun x2 => k31 y3 y4 x1 x2))
set_option maxRecDepth 100000 in
theorem wX10_lanesTo_B64 {p : Program} {l : Launch} {e : Env} {s : State} {m : MethodId} {args : Array Value} {below : List Frame} {meth : Method} {c : Code} {E : Ev} (hL : ∀ k, fxM k = true → k ∈ eL E) {p1 : Int32} {p2 : Int32} {st : St} {sz : Nat} {res : Int32} (X : CX p s m args c E RX10 cX10_lanesTo 7 (Af E sz)) (hr : meth.sig.returnType = (some .int)) (hlk : meth.locks = false) (G : Gd E st (Af E sz) s s.heap []) {k7 : Int32 → Int32 → Option Int32} (hk7 : ∀ (y3 : Int32) (y4 : Int32), k7 y3 y4 = some res → ∀ ls : Array Slot, lv_has ls 7 [(0, .ref (eq E 500)), (2, .int p2), (3, .int y3), (4, .int y4)] → W p l e (rmk 1) s m args below meth c s.heap [] 0 0 (MQ below (QRi res) args s 0 0 (NoF)) (F0 m 7 ls [])) {k31 : Int32 → Int32 → Int32 → Int32 → Option Int32} (hk31 : ∀ (y3 : Int32) (y4 : Int32) (y5 : Int32) (y6 : Int32), k31 y3 y4 y5 y6 = some res → ∀ ls : Array Slot, lv_has ls 7 [(0, .ref (eq E 500)), (2, .int p2), (3, .int y3), (4, .int y4), (5, .int y5), (6, .int y6)] → W p l e (rmk 1) s m args below meth c s.heap [] 0 0 (MQ below (QRi res) args s 0 0 (NoF)) (F0 m 31 ls [])) : ∀ (y3 : Int32) (y4 : Int32) (y6 : Int32) (z0 : Int32) (z1 : Int32), fX10_lanesTo_B64 p1 p2 st k7 k31 y3 y4 y6 z0 z1 = some res → ∀ ls : Array Slot, lv_has ls 7 [(0, .ref (eq E 500)), (2, .int p2), (3, .int y3), (4, .int y4), (6, .int y6)] → W p l e (rmk 1) s m args below meth c s.heap [] 0 0 (MQ below (QRi res) args s 0 0 (NoF)) (F0 m 64 ls [.int z0, .int z1]) := by
  have hx := X.1.1
  have hb := X.1.2.1
  intro y3 y4 y6 z0 z1 hf ls hl
  unfold fX10_lanesTo_B64 at hf
  refine lv_ior hx hb dX10_lanesTo_64 ?_
  refine lv_topi (fun x1 ex1 => ?_)
  have hf := nm_s hf x1 ex1
  refine lv_istore (lv' := [(5, .int x1), (0, .ref (eq E 500)), (2, .int p2), (3, .int y3), (4, .int y4), (6, .int y6)]) hx hb dX10_lanesTo_65 hl (by decide) rfl (fun ls hl => ?_)
  obtain ⟨x2, ex2⟩ : ∃ y : Int32, y = (y6 + (1 : Int32)) := ⟨_, rfl⟩
  have hf := nm_s hf x2 ex2
  refine lv_iinc (k := 5) (v := x2) (lv' := [(6, .int x2), (5, .int x1), (0, .ref (eq E 500)), (2, .int p2), (3, .int y3), (4, .int y4)]) hx hb dX10_lanesTo_67 hl rfl (by rw [ex2]; rfl) (by decide) rfl (fun ls hl => ?_)
  refine lv_goto (tgt := 31) hx hb dX10_lanesTo_70 (by decide) ?_
  exact hk31 y3 y4 x1 x2 hf _ (lv_sub hl [2, 3, 4, 5, 1, 0] rfl)
def fX10_lanesTo_L31 (p1 : Int32) (p2 : Int32) (st : St) (k7 : Int32 → Int32 → Option Int32) : Nat → Int32 → Int32 → Int32 → Int32 → Option Int32
  | 0, _, _, _, _ => none
  | n + 1, y3, y4, y5, y6 => if (st.1 502 3) ≤ y6 then (nm (y4 + (1 : Int32)) (fun x3 => k7 y5 x3)) else (br (fX10_has y3 y6) (fun x4 => if x4 = 0 then (fX10_lanesTo_B64 p1 p2 st k7 (fX10_lanesTo_L31 p1 p2 st k7 n) y3 y4 y6 (0 : Int32) y5) else (gd (ix y6 8) (fX10_lanesTo_B64 p1 p2 st k7 (fX10_lanesTo_L31 p1 p2 st k7 n) y3 y4 y6 (st.1 507 y6.toNatClampNeg) y5))))
set_option maxRecDepth 100000 in
theorem wX10_lanesTo_L31 {p : Program} {l : Launch} {e : Env} {s : State} {m : MethodId} {args : Array Value} {below : List Frame} {meth : Method} {c : Code} {E : Ev} (hL : ∀ k, fxM k = true → k ∈ eL E) {p1 : Int32} {p2 : Int32} {st : St} {sz : Nat} {res : Int32} (X : CX p s m args c E RX10 cX10_lanesTo 7 (Af E sz)) (hr : meth.sig.returnType = (some .int)) (hlk : meth.locks = false) (G : Gd E st (Af E sz) s s.heap []) {k7 : Int32 → Int32 → Option Int32} (hk7 : ∀ (y3 : Int32) (y4 : Int32), k7 y3 y4 = some res → ∀ ls : Array Slot, lv_has ls 7 [(0, .ref (eq E 500)), (2, .int p2), (3, .int y3), (4, .int y4)] → W p l e (rmk 1) s m args below meth c s.heap [] 0 0 (MQ below (QRi res) args s 0 0 (NoF)) (F0 m 7 ls [])) : ∀ (n : Nat) (y3 : Int32) (y4 : Int32) (y5 : Int32) (y6 : Int32), fX10_lanesTo_L31 p1 p2 st k7 n y3 y4 y5 y6 = some res → ∀ ls : Array Slot, lv_has ls 7 [(0, .ref (eq E 500)), (2, .int p2), (3, .int y3), (4, .int y4), (5, .int y5), (6, .int y6)] → W p l e (rmk 1) s m args below meth c s.heap [] 0 0 (MQ below (QRi res) args s 0 0 (NoF)) (F0 m 31 ls []) := by
  have hx := X.1.1
  have hb := X.1.2.1
  intro n
  induction n with
  | zero =>
    intro y3 y4 y5 y6 hf ls hl
    cases (show (none : Option Int32) = some res from hf)
  | succ n ih =>
    intro y3 y4 y5 y6 hf ls hl
    rw [fX10_lanesTo_L31] at hf
    refine lv_iload hx hb dX10_lanesTo_31 (lv_at hl 5 rfl) ?_
    refine lv_aload_n hx hb dX10_lanesTo_33 rfl (lv_at hl 0 rfl) ?_
    refine gf10 X G (hL 500 rfl) rfl 1 (by decide) rfl kf_X10_9 iwX10 dX10_lanesTo_34 ?_
    refine lv_iconst (v := (3 : Int32)) hx hb dX10_lanesTo_37 (by decide) ?_
    refine ia_ldc (k := 502) (n := 12) X G (hL 502 rfl) rfl (by decide) 3 (by decide) dX10_lanesTo_38 ?_
    refine lv_icmp_ge (tgt := 73) hx hb dX10_lanesTo_39 (by decide) (fun c2 => ?_) (fun c2 => ?_)
    · have hf := it_t hf c2
      refine lv_iload hx hb dX10_lanesTo_73 (lv_at hl 4 rfl) ?_
      refine lv_istore_n (lv' := [(3, .int y5), (0, .ref (eq E 500)), (2, .int p2), (4, .int y4), (5, .int y5), (6, .int y6)]) hx hb dX10_lanesTo_75 rfl hl (by decide) rfl (fun ls hl => ?_)
      obtain ⟨x3, ex3⟩ : ∃ y : Int32, y = (y4 + (1 : Int32)) := ⟨_, rfl⟩
      have hf := nm_s hf x3 ex3
      refine lv_iinc (k := 3) (v := x3) (lv' := [(4, .int x3), (3, .int y5), (0, .ref (eq E 500)), (2, .int p2), (5, .int y5), (6, .int y6)]) hx hb dX10_lanesTo_76 hl rfl (by rw [ex3]; rfl) (by decide) rfl (fun ls hl => ?_)
      refine lv_goto (tgt := 7) hx hb dX10_lanesTo_79 (by decide) ?_
      exact hk7 y5 x3 hf _ (lv_sub hl [2, 3, 1, 0] rfl)
    · have hf := it_f hf c2
      refine lv_iload hx hb dX10_lanesTo_42 (lv_at hl 4 rfl) ?_
      refine lv_iload_n hx hb dX10_lanesTo_44 rfl (lv_at hl 2 rfl) ?_
      refine lv_iload hx hb dX10_lanesTo_45 (lv_at hl 5 rfl) ?_
      obtain ⟨x4, h3, hf⟩ := br_s hf
      refine cSRi (As := [.int y3, .int y6]) (rest := [.int y5]) X G kc_X10_156 (tX10_has l E st _  y3 y6 h3) rfl rfl (rmk_le (by omega) (by decide)) rfl hl.1 rfl (Nat.le_of_ble_eq_true rfl) dX10_lanesTo_47 ⟨Nat.zero_le _, Nat.zero_le _⟩ ?_
      refine lv_if_eq (tgt := 63) hx hb dX10_lanesTo_50 (by decide) (fun c5 => ?_) (fun c5 => ?_)
      · have hf := it_t hf c5
        refine lv_iconst (v := (0 : Int32)) hx hb dX10_lanesTo_63 (by decide) ?_
        exact wX10_lanesTo_B64 hL X hr hlk G hk7 ih y3 y4 y6 (0 : Int32) y5 hf _ (lv_sub hl [0, 1, 2, 3, 5] rfl)
      · have hf := it_f hf c5
        refine lv_aload_n hx hb dX10_lanesTo_53 rfl (lv_at hl 0 rfl) ?_
        refine gf10 X G (hL 500 rfl) rfl 6 (by decide) rfl kf_X10_25 iwX10 dX10_lanesTo_54 ?_
        refine lv_iload hx hb dX10_lanesTo_57 (lv_at hl 5 rfl) ?_
        obtain ⟨h6, hf⟩ := gd_s hf
        refine ia_ld (k := 507) (n := 8) X G (hL 507 rfl) rfl (by decide) (ix_in h6) dX10_lanesTo_59 ?_
        refine lv_goto (tgt := 64) hx hb dX10_lanesTo_60 (by decide) ?_
        exact wX10_lanesTo_B64 hL X hr hlk G hk7 ih y3 y4 y6 (st.1 507 y6.toNatClampNeg) y5 hf _ (lv_sub hl [0, 1, 2, 3, 5] rfl)
def fX10_lanesTo_L7 (p1 : Int32) (p2 : Int32) (st : St) : Nat → Int32 → Int32 → Option Int32
  | 0, _, _ => none
  | n + 1, y3, y4 => if (8 : Int32) ≤ y4 then (some (-1 : Int32)) else (br (fX10_has y3 p2) (fun x3 => if x3 = 0 then (fX10_lanesTo_L31 p1 p2 st (fX10_lanesTo_L7 p1 p2 st n) 10000 y3 y4 y3 (0 : Int32)) else (some y4)))
set_option maxRecDepth 100000 in
theorem wX10_lanesTo_L7 {p : Program} {l : Launch} {e : Env} {s : State} {m : MethodId} {args : Array Value} {below : List Frame} {meth : Method} {c : Code} {E : Ev} (hL : ∀ k, fxM k = true → k ∈ eL E) {p1 : Int32} {p2 : Int32} {st : St} {sz : Nat} {res : Int32} (X : CX p s m args c E RX10 cX10_lanesTo 7 (Af E sz)) (hr : meth.sig.returnType = (some .int)) (hlk : meth.locks = false) (G : Gd E st (Af E sz) s s.heap []) : ∀ (n : Nat) (y3 : Int32) (y4 : Int32), fX10_lanesTo_L7 p1 p2 st  n y3 y4 = some res → ∀ ls : Array Slot, lv_has ls 7 [(0, .ref (eq E 500)), (2, .int p2), (3, .int y3), (4, .int y4)] → W p l e (rmk 1) s m args below meth c s.heap [] 0 0 (MQ below (QRi res) args s 0 0 (NoF)) (F0 m 7 ls []) := by
  have hx := X.1.1
  have hb := X.1.2.1
  intro n
  induction n with
  | zero =>
    intro y3 y4 hf ls hl
    cases (show (none : Option Int32) = some res from hf)
  | succ n ih =>
    intro y3 y4 hf ls hl
    rw [fX10_lanesTo_L7] at hf
    refine lv_iload hx hb dX10_lanesTo_7 (lv_at hl 3 rfl) ?_
    refine lv_bipush (v := (8 : Int32)) hx hb dX10_lanesTo_9 (by decide) ?_
    refine lv_icmp_ge (tgt := 82) hx hb dX10_lanesTo_11 (by decide) (fun c1 => ?_) (fun c1 => ?_)
    · have hf := it_t hf c1
      refine lv_iconst (v := (-1 : Int32)) hx hb dX10_lanesTo_82 (by decide) ?_
      exact rtRi X hlk hr (so_i hf) dX10_lanesTo_83
    · have hf := it_f hf c1
      refine lv_iload_n hx hb dX10_lanesTo_14 rfl (lv_at hl 2 rfl) ?_
      refine lv_iload_n hx hb dX10_lanesTo_15 rfl (lv_at hl 1 rfl) ?_
      obtain ⟨x3, h2, hf⟩ := br_s hf
      refine cSRi (As := [.int y3, .int p2]) (rest := []) X G kc_X10_156 (tX10_has l E st _  y3 p2 h2) rfl rfl (rmk_le (by omega) (by decide)) rfl hl.1 rfl (Nat.le_of_ble_eq_true rfl) dX10_lanesTo_16 ⟨Nat.zero_le _, Nat.zero_le _⟩ ?_
      refine lv_if_eq (tgt := 25) hx hb dX10_lanesTo_19 (by decide) (fun c4 => ?_) (fun c4 => ?_)
      · have hf := it_t hf c4
        refine lv_iload_n hx hb dX10_lanesTo_25 rfl (lv_at hl 2 rfl) ?_
        refine lv_istore (lv' := [(5, .int y3), (0, .ref (eq E 500)), (2, .int p2), (3, .int y3), (4, .int y4)]) hx hb dX10_lanesTo_26 hl (by decide) rfl (fun ls hl => ?_)
        refine lv_iconst (v := (0 : Int32)) hx hb dX10_lanesTo_28 (by decide) ?_
        refine lv_istore (lv' := [(6, .int (0 : Int32)), (5, .int y3), (0, .ref (eq E 500)), (2, .int p2), (3, .int y3), (4, .int y4)]) hx hb dX10_lanesTo_29 hl (by decide) rfl (fun ls hl => ?_)
        exact wX10_lanesTo_L31 hL X hr hlk G ih 10000 y3 y4 y3 (0 : Int32) hf _ (lv_sub hl [2, 3, 4, 5, 1, 0] rfl)
      · have hf := it_f hf c4
        refine lv_iload hx hb dX10_lanesTo_22 (lv_at hl 3 rfl) ?_
        exact rtRi X hlk hr (so_i hf) dX10_lanesTo_24
def fX10_lanesTo (st : St) (p1 : Int32) (p2 : Int32) : Option Int32 := nm ((1 : Int32) <<< (p1 &&& 31)) (fun x1 => fX10_lanesTo_L7 p1 p2 st 10000 x1 (0 : Int32))
set_option maxRecDepth 100000 in
theorem tX10_lanesTo (l : Launch) (E : Ev) (st : St) (sz : Nat) (hL : ∀ k, fxM k = true → k ∈ eL E) (p1 : Int32) (p2 : Int32) {res : Int32} (hf : fX10_lanesTo st p1 p2 = some res) : Met l yX10_lanesTo (.code yX10_lanesTo cX10_lanesTo 7 (some .int) :: uW) (rmk 1) (va_Pc [.ref (eq E 500), .int p1, .int p2] (Pre E st sz)) (QRi res) 0 0 (NoF) := by
  refine Met_in (by decide) (Nat.le_of_ble_eq_true rfl) ?_
  intro p e s m below meth c X hr hlk hz G ls hl
  have hx := X.1.1
  have hb := X.1.2.1
  have hl : lv_has ls 7 [(0, .ref (eq E 500)), (1, .int p1), (2, .int p2)] := hl
  unfold fX10_lanesTo at hf
  refine lv_iconst (v := (1 : Int32)) hx hb dX10_lanesTo_0 (by decide) ?_
  refine lv_iload_n hx hb dX10_lanesTo_1 rfl (lv_at hl 1 rfl) ?_
  refine lv_ishl hx hb dX10_lanesTo_2 ?_
  refine lv_topi (fun x1 ex1 => ?_)
  have hf := nm_s hf x1 ex1
  refine lv_istore_n (lv' := [(3, .int x1), (0, .ref (eq E 500)), (1, .int p1), (2, .int p2)]) hx hb dX10_lanesTo_3 rfl hl (by decide) rfl (fun ls hl => ?_)
  refine lv_iconst (v := (0 : Int32)) hx hb dX10_lanesTo_4 (by decide) ?_
  refine lv_istore (lv' := [(4, .int (0 : Int32)), (3, .int x1), (0, .ref (eq E 500)), (1, .int p1), (2, .int p2)]) hx hb dX10_lanesTo_5 hl (by decide) rfl (fun ls hl => ?_)
  exact wX10_lanesTo_L7 hL X hr hlk G 10000 x1 (0 : Int32) hf _ (lv_sub hl [2, 4, 1, 0] rfl)
def fX10_district_B74 (p1 : Int32) (p2 : Int32) (st : St) (k30 : Int32 → Int32 → Int32 → Option Int32) (y5 : Int32) (y6 : Int32) : Option Int32 := nm (y5 + (1 : Int32)) (fun x1 => k30 y5 y6 x1)
set_option maxRecDepth 100000 in
theorem wX10_district_B74 {p : Program} {l : Launch} {e : Env} {s : State} {m : MethodId} {args : Array Value} {below : List Frame} {meth : Method} {c : Code} {E : Ev} (hL : ∀ k, fxM k = true → k ∈ eL E) {p1 : Int32} {p2 : Int32} {st : St} {sz : Nat} {res : Int32} (X : CX p s m args c E RX10 cX10_district 7 (Af E sz)) (hr : meth.sig.returnType = (some .int)) (hlk : meth.locks = false) (G : Gd E st (Af E sz) s s.heap []) {k30 : Int32 → Int32 → Int32 → Option Int32} (hk30 : ∀ (y3 : Int32) (y4 : Int32) (y5 : Int32), k30 y3 y4 y5 = some res → ∀ ls : Array Slot, lv_has ls 7 [(0, .ref (eq E 500)), (1, .int p1), (2, .int p2), (3, .int y3), (4, .int y4), (5, .int y5)] → W p l e (rmk 2) s m args below meth c s.heap [] 0 0 (MQ below (QRi res) args s 0 0 (NoF)) (F0 m 30 ls [])) : ∀ (y5 : Int32) (y6 : Int32), fX10_district_B74 p1 p2 st k30 y5 y6 = some res → ∀ ls : Array Slot, lv_has ls 7 [(0, .ref (eq E 500)), (1, .int p1), (2, .int p2), (5, .int y5), (6, .int y6)] → W p l e (rmk 2) s m args below meth c s.heap [] 0 0 (MQ below (QRi res) args s 0 0 (NoF)) (F0 m 74 ls []) := by
  have hx := X.1.1
  have hb := X.1.2.1
  intro y5 y6 hf ls hl
  unfold fX10_district_B74 at hf
  refine lv_iload hx hb dX10_district_74 (lv_at hl 3 rfl) ?_
  refine lv_istore_n (lv' := [(3, .int y5), (0, .ref (eq E 500)), (1, .int p1), (2, .int p2), (5, .int y5), (6, .int y6)]) hx hb dX10_district_76 rfl hl (by decide) rfl (fun ls hl => ?_)
  refine lv_iload hx hb dX10_district_77 (lv_at hl 5 rfl) ?_
  refine lv_istore (lv' := [(4, .int y6), (3, .int y5), (0, .ref (eq E 500)), (1, .int p1), (2, .int p2), (5, .int y5), (6, .int y6)]) hx hb dX10_district_79 hl (by decide) rfl (fun ls hl => ?_)
  obtain ⟨x1, ex1⟩ : ∃ y : Int32, y = (y5 + (1 : Int32)) := ⟨_, rfl⟩
  have hf := nm_s hf x1 ex1
  refine lv_iinc (k := 5) (v := x1) (lv' := [(5, .int x1), (4, .int y6), (3, .int y5), (0, .ref (eq E 500)), (1, .int p1), (2, .int p2), (6, .int y6)]) hx hb dX10_district_81 hl rfl (by rw [ex1]; rfl) (by decide) rfl (fun ls hl => ?_)
  refine lv_goto (tgt := 30) hx hb dX10_district_84 (by decide) ?_
  exact hk30 y5 y6 x1 hf _ (lv_sub hl [3, 4, 5, 2, 1, 0] rfl)
def fX10_district_L30 (p1 : Int32) (p2 : Int32) (st : St) : Nat → Int32 → Int32 → Int32 → Option Int32
  | 0, _, _, _ => none
  | n + 1, y3, y4, y5 => if (st.1 502 5) ≤ y5 then (if p2 = 0 then (some y3) else (some y4)) else (gd (ix y5 3) (br (fX10_lanesTo st (st.1 509 y5.toNatClampNeg) p1) (fun x5 => if x5 = (-1 : Int32) then (nm (y5 + (1 : Int32)) (fun x7 => (fX10_district_L30 p1 p2 st n) y3 y4 x7)) else (if y3 = (-2 : Int32) then (fX10_district_B74 p1 p2 st (fX10_district_L30 p1 p2 st n) y5 x5) else (if y4 ≤ x5 then (nm (y5 + (1 : Int32)) (fun x9 => (fX10_district_L30 p1 p2 st n) y3 y4 x9)) else (fX10_district_B74 p1 p2 st (fX10_district_L30 p1 p2 st n) y5 x5))))))
set_option maxRecDepth 100000 in
theorem wX10_district_L30 {p : Program} {l : Launch} {e : Env} {s : State} {m : MethodId} {args : Array Value} {below : List Frame} {meth : Method} {c : Code} {E : Ev} (hL : ∀ k, fxM k = true → k ∈ eL E) {p1 : Int32} {p2 : Int32} {st : St} {sz : Nat} {res : Int32} (X : CX p s m args c E RX10 cX10_district 7 (Af E sz)) (hr : meth.sig.returnType = (some .int)) (hlk : meth.locks = false) (G : Gd E st (Af E sz) s s.heap []) : ∀ (n : Nat) (y3 : Int32) (y4 : Int32) (y5 : Int32), fX10_district_L30 p1 p2 st  n y3 y4 y5 = some res → ∀ ls : Array Slot, lv_has ls 7 [(0, .ref (eq E 500)), (1, .int p1), (2, .int p2), (3, .int y3), (4, .int y4), (5, .int y5)] → W p l e (rmk 2) s m args below meth c s.heap [] 0 0 (MQ below (QRi res) args s 0 0 (NoF)) (F0 m 30 ls []) := by
  have hx := X.1.1
  have hb := X.1.2.1
  intro n
  induction n with
  | zero =>
    intro y3 y4 y5 hf ls hl
    cases (show (none : Option Int32) = some res from hf)
  | succ n ih =>
    intro y3 y4 y5 hf ls hl
    rw [fX10_district_L30] at hf
    refine lv_iload hx hb dX10_district_30 (lv_at hl 5 rfl) ?_
    refine lv_aload_n hx hb dX10_district_32 rfl (lv_at hl 0 rfl) ?_
    refine gf10 X G (hL 500 rfl) rfl 1 (by decide) rfl kf_X10_9 iwX10 dX10_district_33 ?_
    refine lv_iconst (v := (5 : Int32)) hx hb dX10_district_36 (by decide) ?_
    refine ia_ldc (k := 502) (n := 12) X G (hL 502 rfl) rfl (by decide) 5 (by decide) dX10_district_37 ?_
    refine lv_icmp_ge (tgt := 87) hx hb dX10_district_38 (by decide) (fun c2 => ?_) (fun c2 => ?_)
    · have hf := it_t hf c2
      refine lv_iload_n hx hb dX10_district_87 rfl (lv_at hl 2 rfl) ?_
      refine lv_if_ne (tgt := 95) hx hb dX10_district_88 (by decide) (fun c3 => ?_) (fun c3 => ?_)
      · have hf := it_f hf c3
        refine lv_iload hx hb dX10_district_95 (lv_at hl 4 rfl) ?_
        exact rtRi X hlk hr (so_i hf) dX10_district_97
      · have hf := it_t hf c3
        refine lv_iload_n hx hb dX10_district_91 rfl (lv_at hl 3 rfl) ?_
        refine lv_goto (tgt := 97) hx hb dX10_district_92 (by decide) ?_
        exact rtRi X hlk hr (so_i hf) dX10_district_97
    · have hf := it_f hf c2
      refine lv_aload_n hx hb dX10_district_41 rfl (lv_at hl 0 rfl) ?_
      refine lv_aload_n hx hb dX10_district_42 rfl (lv_at hl 0 rfl) ?_
      refine gf10 X G (hL 500 rfl) rfl 8 (by decide) rfl kf_X10_31 iwX10 dX10_district_43 ?_
      refine lv_iload hx hb dX10_district_46 (lv_at hl 5 rfl) ?_
      obtain ⟨h3, hf⟩ := gd_s hf
      refine ia_ld (k := 509) (n := 3) X G (hL 509 rfl) rfl (by decide) (ix_in h3) dX10_district_48 ?_
      refine lv_iload_n hx hb dX10_district_49 rfl (lv_at hl 1 rfl) ?_
      obtain ⟨x5, h4, hf⟩ := br_s hf
      refine cVRi (As := [.int (st.1 509 y5.toNatClampNeg), .int p1]) (rest := []) X G kc_X10_478 (tX10_lanesTo l E st _ hL  (st.1 509 y5.toNatClampNeg) p1 h4) (rcv X G (hL 500 rfl) (cO10 rfl) rfl) rfl rfl (rmk_le (by omega) (by decide)) rfl hl.1 rfl (Nat.le_of_ble_eq_true rfl) dX10_district_50 ⟨Nat.zero_le _, Nat.zero_le _⟩ ?_
      refine lv_istore (lv' := [(6, .int x5), (0, .ref (eq E 500)), (1, .int p1), (2, .int p2), (3, .int y3), (4, .int y4), (5, .int y5)]) hx hb dX10_district_53 hl (by decide) rfl (fun ls hl => ?_)
      refine lv_iload hx hb dX10_district_55 (lv_at hl 0 rfl) ?_
      refine lv_iconst (v := (-1 : Int32)) hx hb dX10_district_57 (by decide) ?_
      refine lv_icmp_eq (tgt := 81) hx hb dX10_district_58 (by decide) (fun c6 => ?_) (fun c6 => ?_)
      · have hf := it_t hf c6
        obtain ⟨x7, ex7⟩ : ∃ y : Int32, y = (y5 + (1 : Int32)) := ⟨_, rfl⟩
        have hf := nm_s hf x7 ex7
        refine lv_iinc (k := 6) (v := x7) (lv' := [(5, .int x7), (6, .int x5), (0, .ref (eq E 500)), (1, .int p1), (2, .int p2), (3, .int y3), (4, .int y4)]) hx hb dX10_district_81 hl rfl (by rw [ex7]; rfl) (by decide) rfl (fun ls hl => ?_)
        refine lv_goto (tgt := 30) hx hb dX10_district_84 (by decide) ?_
        exact ih y3 y4 x7 hf _ (lv_sub hl [2, 3, 4, 5, 6, 0] rfl)
      · have hf := it_f hf c6
        refine lv_iload_n hx hb dX10_district_61 rfl (lv_at hl 4 rfl) ?_
        refine lv_bipush (v := (-2 : Int32)) hx hb dX10_district_62 (by decide) ?_
        refine lv_icmp_eq (tgt := 74) hx hb dX10_district_64 (by decide) (fun c7 => ?_) (fun c7 => ?_)
        · have hf := it_t hf c7
          exact wX10_district_B74 hL X hr hlk G ih y5 x5 hf _ (lv_sub hl [1, 2, 3, 6, 0] rfl)
        · have hf := it_f hf c7
          refine lv_iload hx hb dX10_district_67 (lv_at hl 0 rfl) ?_
          refine lv_iload hx hb dX10_district_69 (lv_at hl 5 rfl) ?_
          refine lv_icmp_ge (tgt := 81) hx hb dX10_district_71 (by decide) (fun c8 => ?_) (fun c8 => ?_)
          · have hf := it_t hf c8
            obtain ⟨x9, ex9⟩ : ∃ y : Int32, y = (y5 + (1 : Int32)) := ⟨_, rfl⟩
            have hf := nm_s hf x9 ex9
            refine lv_iinc (k := 6) (v := x9) (lv' := [(5, .int x9), (6, .int x5), (0, .ref (eq E 500)), (1, .int p1), (2, .int p2), (3, .int y3), (4, .int y4)]) hx hb dX10_district_81 hl rfl (by rw [ex9]; rfl) (by decide) rfl (fun ls hl => ?_)
            refine lv_goto (tgt := 30) hx hb dX10_district_84 (by decide) ?_
            exact ih y3 y4 x9 hf _ (lv_sub hl [2, 3, 4, 5, 6, 0] rfl)
          · have hf := it_f hf c8
            exact wX10_district_B74 hL X hr hlk G ih y5 x5 hf _ (lv_sub hl [1, 2, 3, 6, 0] rfl)
def fX10_district (st : St) (p1 : Int32) (p2 : Int32) : Option Int32 := br (fX10_isHouse st p1) (fun x2 => if x2 = 0 then (some (-1 : Int32)) else (br (fX10_in (Int32.toInt64 p2) (0 : Int64) (1 : Int64)) (fun x5 => if x5 = 0 then (some (-1 : Int32)) else (fX10_district_L30 p1 p2 st 10000 (-2 : Int32) (-2 : Int32) (0 : Int32)))))
set_option maxRecDepth 100000 in
theorem tX10_district (l : Launch) (E : Ev) (st : St) (sz : Nat) (hL : ∀ k, fxM k = true → k ∈ eL E) (p1 : Int32) (p2 : Int32) {res : Int32} (hf : fX10_district st p1 p2 = some res) : Met l yX10_district (.code yX10_district cX10_district 7 (some .int) :: uW) (rmk 2) (va_Pc [.ref (eq E 500), .int p1, .int p2] (Pre E st sz)) (QRi res) 0 0 (NoF) := by
  refine Met_in (by decide) (Nat.le_of_ble_eq_true rfl) ?_
  intro p e s m below meth c X hr hlk hz G ls hl
  have hx := X.1.1
  have hb := X.1.2.1
  have hl : lv_has ls 7 [(0, .ref (eq E 500)), (1, .int p1), (2, .int p2)] := hl
  unfold fX10_district at hf
  refine lv_aload_n hx hb dX10_district_0 rfl (lv_at hl 0 rfl) ?_
  refine lv_iload_n hx hb dX10_district_1 rfl (lv_at hl 1 rfl) ?_
  obtain ⟨x2, h1, hf⟩ := br_s hf
  refine cVRi (As := [.int p1]) (rest := []) X G kc_X10_367 (tX10_isHouse l E st _ hL  p1 h1) (rcv X G (hL 500 rfl) (cO10 rfl) rfl) rfl rfl (rmk_le (by omega) (by decide)) rfl hl.1 rfl (Nat.le_of_ble_eq_true rfl) dX10_district_2 ⟨Nat.zero_le _, Nat.zero_le _⟩ ?_
  refine lv_if_eq (tgt := 18) hx hb dX10_district_5 (by decide) (fun c3 => ?_) (fun c3 => ?_)
  · have hf := it_t hf c3
    refine lv_iconst (v := (-1 : Int32)) hx hb dX10_district_18 (by decide) ?_
    exact rtRi X hlk hr (so_i hf) dX10_district_19
  · have hf := it_f hf c3
    refine lv_iload_n hx hb dX10_district_8 rfl (lv_at hl 2 rfl) ?_
    refine lv_i2l hx hb dX10_district_9 rfl ?_
    refine lv_lconst (v := (0 : Int64)) hx hb dX10_district_10 (by decide) ?_
    refine lv_lconst (v := (1 : Int64)) hx hb dX10_district_11 (by decide) ?_
    obtain ⟨x5, h4, hf⟩ := br_s hf
    refine cSRi (As := [.long (Int32.toInt64 p2), .long (0 : Int64), .long (1 : Int64)]) (rest := []) X G kc_X10_152 (tX10_in l E st _  (Int32.toInt64 p2) (0 : Int64) (1 : Int64) h4) rfl rfl (rmk_le (by omega) (by decide)) rfl hl.1 rfl (Nat.le_of_ble_eq_true rfl) dX10_district_12 ⟨Nat.zero_le _, Nat.zero_le _⟩ ?_
    refine lv_if_ne (tgt := 20) hx hb dX10_district_15 (by decide) (fun c6 => ?_) (fun c6 => ?_)
    · have hf := it_f hf c6
      refine lv_bipush (v := (-2 : Int32)) hx hb dX10_district_20 (by decide) ?_
      refine lv_istore_n (lv' := [(3, .int (-2 : Int32)), (0, .ref (eq E 500)), (1, .int p1), (2, .int p2)]) hx hb dX10_district_22 rfl hl (by decide) rfl (fun ls hl => ?_)
      refine lv_bipush (v := (-2 : Int32)) hx hb dX10_district_23 (by decide) ?_
      refine lv_istore (lv' := [(4, .int (-2 : Int32)), (3, .int (-2 : Int32)), (0, .ref (eq E 500)), (1, .int p1), (2, .int p2)]) hx hb dX10_district_25 hl (by decide) rfl (fun ls hl => ?_)
      refine lv_iconst (v := (0 : Int32)) hx hb dX10_district_27 (by decide) ?_
      refine lv_istore (lv' := [(5, .int (0 : Int32)), (4, .int (-2 : Int32)), (3, .int (-2 : Int32)), (0, .ref (eq E 500)), (1, .int p1), (2, .int p2)]) hx hb dX10_district_28 hl (by decide) rfl (fun ls hl => ?_)
      exact wX10_district_L30 hL X hr hlk G 10000 (-2 : Int32) (-2 : Int32) (0 : Int32) hf _ (lv_sub hl [3, 4, 5, 2, 1, 0] rfl)
    · have hf := it_t hf c6
      refine lv_iconst (v := (-1 : Int32)) hx hb dX10_district_18 (by decide) ?_
      exact rtRi X hlk hr (so_i hf) dX10_district_19
def fX10_hats_B128 (p1 : Int32) (p2 : Int32) (st : St) (k37 : Int32 → Int32 → Option Int32) (y3 : Int32) (y4 : Int32) : Option Int32 := nm (y4 + (1 : Int32)) (fun x1 => k37 y3 x1)
set_option maxRecDepth 100000 in
theorem wX10_hats_B128 {p : Program} {l : Launch} {e : Env} {s : State} {m : MethodId} {args : Array Value} {below : List Frame} {meth : Method} {c : Code} {E : Ev} (hL : ∀ k, fxM k = true → k ∈ eL E) {p1 : Int32} {p2 : Int32} {st : St} {sz : Nat} {res : Int32} (X : CX p s m args c E RX10 cX10_hats 7 (Af E sz)) (hr : meth.sig.returnType = (some .int)) (hlk : meth.locks = false) (G : Gd E st (Af E sz) s s.heap []) {k37 : Int32 → Int32 → Option Int32} (hk37 : ∀ (y3 : Int32) (y4 : Int32), k37 y3 y4 = some res → ∀ ls : Array Slot, lv_has ls 7 [(0, .ref (eq E 500)), (1, .int p1), (2, .int p2), (3, .int y3), (4, .int y4)] → W p l e (rmk 1) s m args below meth c s.heap [] 0 0 (MQ below (QRi res) args s 0 0 (NoF)) (F0 m 37 ls [])) : ∀ (y3 : Int32) (y4 : Int32), fX10_hats_B128 p1 p2 st k37 y3 y4 = some res → ∀ ls : Array Slot, lv_has ls 7 [(0, .ref (eq E 500)), (1, .int p1), (2, .int p2), (3, .int y3), (4, .int y4)] → W p l e (rmk 1) s m args below meth c s.heap [] 0 0 (MQ below (QRi res) args s 0 0 (NoF)) (F0 m 128 ls []) := by
  have hx := X.1.1
  have hb := X.1.2.1
  intro y3 y4 hf ls hl
  unfold fX10_hats_B128 at hf
  refine lv_iload_n hx hb dX10_hats_128 rfl (lv_at hl 3 rfl) ?_
  refine lv_istore_n (lv' := [(3, .int y3), (0, .ref (eq E 500)), (1, .int p1), (2, .int p2), (4, .int y4)]) hx hb dX10_hats_129 rfl hl (by decide) rfl (fun ls hl => ?_)
  obtain ⟨x1, ex1⟩ : ∃ y : Int32, y = (y4 + (1 : Int32)) := ⟨_, rfl⟩
  have hf := nm_s hf x1 ex1
  refine lv_iinc (k := 4) (v := x1) (lv' := [(4, .int x1), (3, .int y3), (0, .ref (eq E 500)), (1, .int p1), (2, .int p2)]) hx hb dX10_hats_130 hl rfl (by rw [ex1]; rfl) (by decide) rfl (fun ls hl => ?_)
  refine lv_goto (tgt := 37) hx hb dX10_hats_133 (by decide) ?_
  exact hk37 y3 x1 hf _ (lv_sub hl [2, 3, 4, 1, 0] rfl)
def fX10_hats_B123 (p1 : Int32) (p2 : Int32) (st : St) (k37 : Int32 → Int32 → Option Int32) (y4 : Int32) : Option Int32 := nm (y4 + (1 : Int32)) (fun x1 => k37 y4 x1)
set_option maxRecDepth 100000 in
theorem wX10_hats_B123 {p : Program} {l : Launch} {e : Env} {s : State} {m : MethodId} {args : Array Value} {below : List Frame} {meth : Method} {c : Code} {E : Ev} (hL : ∀ k, fxM k = true → k ∈ eL E) {p1 : Int32} {p2 : Int32} {st : St} {sz : Nat} {res : Int32} (X : CX p s m args c E RX10 cX10_hats 7 (Af E sz)) (hr : meth.sig.returnType = (some .int)) (hlk : meth.locks = false) (G : Gd E st (Af E sz) s s.heap []) {k37 : Int32 → Int32 → Option Int32} (hk37 : ∀ (y3 : Int32) (y4 : Int32), k37 y3 y4 = some res → ∀ ls : Array Slot, lv_has ls 7 [(0, .ref (eq E 500)), (1, .int p1), (2, .int p2), (3, .int y3), (4, .int y4)] → W p l e (rmk 1) s m args below meth c s.heap [] 0 0 (MQ below (QRi res) args s 0 0 (NoF)) (F0 m 37 ls [])) : ∀ (y4 : Int32), fX10_hats_B123 p1 p2 st k37 y4 = some res → ∀ ls : Array Slot, lv_has ls 7 [(0, .ref (eq E 500)), (1, .int p1), (2, .int p2), (4, .int y4)] → W p l e (rmk 1) s m args below meth c s.heap [] 0 0 (MQ below (QRi res) args s 0 0 (NoF)) (F0 m 123 ls []) := by
  have hx := X.1.1
  have hb := X.1.2.1
  intro y4 hf ls hl
  unfold fX10_hats_B123 at hf
  refine lv_iload hx hb dX10_hats_123 (lv_at hl 3 rfl) ?_
  refine lv_goto (tgt := 129) hx hb dX10_hats_125 (by decide) ?_
  refine lv_istore_n (lv' := [(3, .int y4), (0, .ref (eq E 500)), (1, .int p1), (2, .int p2), (4, .int y4)]) hx hb dX10_hats_129 rfl hl (by decide) rfl (fun ls hl => ?_)
  obtain ⟨x1, ex1⟩ : ∃ y : Int32, y = (y4 + (1 : Int32)) := ⟨_, rfl⟩
  have hf := nm_s hf x1 ex1
  refine lv_iinc (k := 4) (v := x1) (lv' := [(4, .int x1), (3, .int y4), (0, .ref (eq E 500)), (1, .int p1), (2, .int p2)]) hx hb dX10_hats_130 hl rfl (by rw [ex1]; rfl) (by decide) rfl (fun ls hl => ?_)
  refine lv_goto (tgt := 37) hx hb dX10_hats_133 (by decide) ?_
  exact hk37 y4 x1 hf _ (lv_sub hl [2, 3, 4, 1, 0] rfl)
def fX10_hats_B90 (p1 : Int32) (p2 : Int32) (st : St) (k37 : Int32 → Int32 → Option Int32) (k56 : Int32 → Int32 → Int32 → Int32 → Option Int32) (y3 : Int32) (y4 : Int32) (y6 : Int32) (z0 : Int32) (z1 : Int32) : Option Int32 := nm (z1 + z0) (fun x1 => nm (y6 + (1 : Int32)) (fun x2 => k56 y3 y4 x1 x2))
set_option maxRecDepth 100000 in
theorem wX10_hats_B90 {p : Program} {l : Launch} {e : Env} {s : State} {m : MethodId} {args : Array Value} {below : List Frame} {meth : Method} {c : Code} {E : Ev} (hL : ∀ k, fxM k = true → k ∈ eL E) {p1 : Int32} {p2 : Int32} {st : St} {sz : Nat} {res : Int32} (X : CX p s m args c E RX10 cX10_hats 7 (Af E sz)) (hr : meth.sig.returnType = (some .int)) (hlk : meth.locks = false) (G : Gd E st (Af E sz) s s.heap []) {k37 : Int32 → Int32 → Option Int32} (hk37 : ∀ (y3 : Int32) (y4 : Int32), k37 y3 y4 = some res → ∀ ls : Array Slot, lv_has ls 7 [(0, .ref (eq E 500)), (1, .int p1), (2, .int p2), (3, .int y3), (4, .int y4)] → W p l e (rmk 1) s m args below meth c s.heap [] 0 0 (MQ below (QRi res) args s 0 0 (NoF)) (F0 m 37 ls [])) {k56 : Int32 → Int32 → Int32 → Int32 → Option Int32} (hk56 : ∀ (y3 : Int32) (y4 : Int32) (y5 : Int32) (y6 : Int32), k56 y3 y4 y5 y6 = some res → ∀ ls : Array Slot, lv_has ls 7 [(0, .ref (eq E 500)), (1, .int p1), (2, .int p2), (3, .int y3), (4, .int y4), (5, .int y5), (6, .int y6)] → W p l e (rmk 1) s m args below meth c s.heap [] 0 0 (MQ below (QRi res) args s 0 0 (NoF)) (F0 m 56 ls [])) : ∀ (y3 : Int32) (y4 : Int32) (y6 : Int32) (z0 : Int32) (z1 : Int32), fX10_hats_B90 p1 p2 st k37 k56 y3 y4 y6 z0 z1 = some res → ∀ ls : Array Slot, lv_has ls 7 [(0, .ref (eq E 500)), (1, .int p1), (2, .int p2), (3, .int y3), (4, .int y4), (6, .int y6)] → W p l e (rmk 1) s m args below meth c s.heap [] 0 0 (MQ below (QRi res) args s 0 0 (NoF)) (F0 m 90 ls [.int z0, .int z1]) := by
  have hx := X.1.1
  have hb := X.1.2.1
  intro y3 y4 y6 z0 z1 hf ls hl
  unfold fX10_hats_B90 at hf
  refine lv_iadd hx hb dX10_hats_90 ?_
  refine lv_topi (fun x1 ex1 => ?_)
  have hf := nm_s hf x1 ex1
  refine lv_istore (lv' := [(5, .int x1), (0, .ref (eq E 500)), (1, .int p1), (2, .int p2), (3, .int y3), (4, .int y4), (6, .int y6)]) hx hb dX10_hats_91 hl (by decide) rfl (fun ls hl => ?_)
  obtain ⟨x2, ex2⟩ : ∃ y : Int32, y = (y6 + (1 : Int32)) := ⟨_, rfl⟩
  have hf := nm_s hf x2 ex2
  refine lv_iinc (k := 6) (v := x2) (lv' := [(6, .int x2), (5, .int x1), (0, .ref (eq E 500)), (1, .int p1), (2, .int p2), (3, .int y3), (4, .int y4)]) hx hb dX10_hats_93 hl rfl (by rw [ex2]; rfl) (by decide) rfl (fun ls hl => ?_)
  refine lv_goto (tgt := 56) hx hb dX10_hats_96 (by decide) ?_
  exact hk56 y3 y4 x1 x2 hf _ (lv_sub hl [2, 3, 4, 5, 6, 1, 0] rfl)
def fX10_hats_L56 (p1 : Int32) (p2 : Int32) (st : St) (k37 : Int32 → Int32 → Option Int32) : Nat → Int32 → Int32 → Int32 → Int32 → Option Int32
  | 0, _, _, _, _ => none
  | n + 1, y3, y4, y5, y6 => if (st.1 502 3) ≤ y6 then (if y5 < p1 then (fX10_hats_B128 p1 p2 st k37 y3 y4) else (if y3 = (-2 : Int32) then (fX10_hats_B123 p1 p2 st k37 y4) else (br (fX10_bits y4) (fun x6 => br (fX10_bits y3) (fun x8 => if x8 ≤ x6 then (fX10_hats_B128 p1 p2 st k37 y3 y4) else (fX10_hats_B123 p1 p2 st k37 y4)))))) else (br (fX10_has y4 y6) (fun x4 => if x4 = 0 then (fX10_hats_B90 p1 p2 st k37 (fX10_hats_L56 p1 p2 st k37 n) y3 y4 y6 (0 : Int32) y5) else (gd (ix y6 8) (fX10_hats_B90 p1 p2 st k37 (fX10_hats_L56 p1 p2 st k37 n) y3 y4 y6 (st.1 506 y6.toNatClampNeg) y5))))
set_option maxRecDepth 100000 in
theorem wX10_hats_L56 {p : Program} {l : Launch} {e : Env} {s : State} {m : MethodId} {args : Array Value} {below : List Frame} {meth : Method} {c : Code} {E : Ev} (hL : ∀ k, fxM k = true → k ∈ eL E) {p1 : Int32} {p2 : Int32} {st : St} {sz : Nat} {res : Int32} (X : CX p s m args c E RX10 cX10_hats 7 (Af E sz)) (hr : meth.sig.returnType = (some .int)) (hlk : meth.locks = false) (G : Gd E st (Af E sz) s s.heap []) {k37 : Int32 → Int32 → Option Int32} (hk37 : ∀ (y3 : Int32) (y4 : Int32), k37 y3 y4 = some res → ∀ ls : Array Slot, lv_has ls 7 [(0, .ref (eq E 500)), (1, .int p1), (2, .int p2), (3, .int y3), (4, .int y4)] → W p l e (rmk 1) s m args below meth c s.heap [] 0 0 (MQ below (QRi res) args s 0 0 (NoF)) (F0 m 37 ls [])) : ∀ (n : Nat) (y3 : Int32) (y4 : Int32) (y5 : Int32) (y6 : Int32), fX10_hats_L56 p1 p2 st k37 n y3 y4 y5 y6 = some res → ∀ ls : Array Slot, lv_has ls 7 [(0, .ref (eq E 500)), (1, .int p1), (2, .int p2), (3, .int y3), (4, .int y4), (5, .int y5), (6, .int y6)] → W p l e (rmk 1) s m args below meth c s.heap [] 0 0 (MQ below (QRi res) args s 0 0 (NoF)) (F0 m 56 ls []) := by
  have hx := X.1.1
  have hb := X.1.2.1
  intro n
  induction n with
  | zero =>
    intro y3 y4 y5 y6 hf ls hl
    cases (show (none : Option Int32) = some res from hf)
  | succ n ih =>
    intro y3 y4 y5 y6 hf ls hl
    rw [fX10_hats_L56] at hf
    refine lv_iload hx hb dX10_hats_56 (lv_at hl 6 rfl) ?_
    refine lv_aload_n hx hb dX10_hats_58 rfl (lv_at hl 0 rfl) ?_
    refine gf10 X G (hL 500 rfl) rfl 1 (by decide) rfl kf_X10_9 iwX10 dX10_hats_59 ?_
    refine lv_iconst (v := (3 : Int32)) hx hb dX10_hats_62 (by decide) ?_
    refine ia_ldc (k := 502) (n := 12) X G (hL 502 rfl) rfl (by decide) 3 (by decide) dX10_hats_63 ?_
    refine lv_icmp_ge (tgt := 99) hx hb dX10_hats_64 (by decide) (fun c2 => ?_) (fun c2 => ?_)
    · have hf := it_t hf c2
      refine lv_iload hx hb dX10_hats_99 (lv_at hl 5 rfl) ?_
      refine lv_iload_n hx hb dX10_hats_101 rfl (lv_at hl 1 rfl) ?_
      refine lv_icmp_lt (tgt := 128) hx hb dX10_hats_102 (by decide) (fun c3 => ?_) (fun c3 => ?_)
      · have hf := it_t hf c3
        exact wX10_hats_B128 hL X hr hlk G hk37 y3 y4 hf _ (lv_sub hl [0, 1, 2, 3, 4] rfl)
      · have hf := it_f hf c3
        refine lv_iload_n hx hb dX10_hats_105 rfl (lv_at hl 3 rfl) ?_
        refine lv_bipush (v := (-2 : Int32)) hx hb dX10_hats_106 (by decide) ?_
        refine lv_icmp_eq (tgt := 123) hx hb dX10_hats_108 (by decide) (fun c4 => ?_) (fun c4 => ?_)
        · have hf := it_t hf c4
          exact wX10_hats_B123 hL X hr hlk G hk37 y4 hf _ (lv_sub hl [0, 1, 2, 4] rfl)
        · have hf := it_f hf c4
          refine lv_iload hx hb dX10_hats_111 (lv_at hl 4 rfl) ?_
          obtain ⟨x6, h5, hf⟩ := br_s hf
          refine cSRi (As := [.int y4]) (rest := []) X G kc_X10_380 (tX10_bits l E st _  y4 h5) rfl rfl (rmk_le (by omega) (by decide)) rfl hl.1 rfl (Nat.le_of_ble_eq_true rfl) dX10_hats_113 ⟨Nat.zero_le _, Nat.zero_le _⟩ ?_
          refine lv_iload_n hx hb dX10_hats_116 rfl (lv_at hl 3 rfl) ?_
          obtain ⟨x8, h7, hf⟩ := br_s hf
          refine cSRi (As := [.int y3]) (rest := [.int x6]) X G kc_X10_380 (tX10_bits l E st _  y3 h7) rfl rfl (rmk_le (by omega) (by decide)) rfl hl.1 rfl (Nat.le_of_ble_eq_true rfl) dX10_hats_117 ⟨Nat.zero_le _, Nat.zero_le _⟩ ?_
          refine lv_icmp_ge (tgt := 128) hx hb dX10_hats_120 (by decide) (fun c9 => ?_) (fun c9 => ?_)
          · have hf := it_t hf c9
            exact wX10_hats_B128 hL X hr hlk G hk37 y3 y4 hf _ (lv_sub hl [0, 1, 2, 3, 4] rfl)
          · have hf := it_f hf c9
            exact wX10_hats_B123 hL X hr hlk G hk37 y4 hf _ (lv_sub hl [0, 1, 2, 4] rfl)
    · have hf := it_f hf c2
      refine lv_iload hx hb dX10_hats_67 (lv_at hl 5 rfl) ?_
      refine lv_iload hx hb dX10_hats_69 (lv_at hl 4 rfl) ?_
      refine lv_iload hx hb dX10_hats_71 (lv_at hl 6 rfl) ?_
      obtain ⟨x4, h3, hf⟩ := br_s hf
      refine cSRi (As := [.int y4, .int y6]) (rest := [.int y5]) X G kc_X10_156 (tX10_has l E st _  y4 y6 h3) rfl rfl (rmk_le (by omega) (by decide)) rfl hl.1 rfl (Nat.le_of_ble_eq_true rfl) dX10_hats_73 ⟨Nat.zero_le _, Nat.zero_le _⟩ ?_
      refine lv_if_eq (tgt := 89) hx hb dX10_hats_76 (by decide) (fun c5 => ?_) (fun c5 => ?_)
      · have hf := it_t hf c5
        refine lv_iconst (v := (0 : Int32)) hx hb dX10_hats_89 (by decide) ?_
        exact wX10_hats_B90 hL X hr hlk G hk37 ih y3 y4 y6 (0 : Int32) y5 hf _ (lv_sub hl [0, 1, 2, 3, 4, 6] rfl)
      · have hf := it_f hf c5
        refine lv_aload_n hx hb dX10_hats_79 rfl (lv_at hl 0 rfl) ?_
        refine gf10 X G (hL 500 rfl) rfl 5 (by decide) rfl kf_X10_22 iwX10 dX10_hats_80 ?_
        refine lv_iload hx hb dX10_hats_83 (lv_at hl 6 rfl) ?_
        obtain ⟨h6, hf⟩ := gd_s hf
        refine ia_ld (k := 506) (n := 8) X G (hL 506 rfl) rfl (by decide) (ix_in h6) dX10_hats_85 ?_
        refine lv_goto (tgt := 90) hx hb dX10_hats_86 (by decide) ?_
        exact wX10_hats_B90 hL X hr hlk G hk37 ih y3 y4 y6 (st.1 506 y6.toNatClampNeg) y5 hf _ (lv_sub hl [0, 1, 2, 3, 4, 6] rfl)
def fX10_hats_L37 (p1 : Int32) (p2 : Int32) (st : St) : Nat → Int32 → Int32 → Option Int32
  | 0, _, _ => none
  | n + 1, y3, y4 => if ((1 : Int32) <<< ((st.1 502 3) &&& 31)) ≤ y4 then (if y3 = (-2 : Int32) then (some y3) else (if p2 = (1 : Int32) then (some y3) else (br (fX10_bits y3) (fun x6 => some x6)))) else (fX10_hats_L56 p1 p2 st (fX10_hats_L37 p1 p2 st n) 10000 y3 y4 (0 : Int32) (0 : Int32))
set_option maxRecDepth 100000 in
theorem wX10_hats_L37 {p : Program} {l : Launch} {e : Env} {s : State} {m : MethodId} {args : Array Value} {below : List Frame} {meth : Method} {c : Code} {E : Ev} (hL : ∀ k, fxM k = true → k ∈ eL E) {p1 : Int32} {p2 : Int32} {st : St} {sz : Nat} {res : Int32} (X : CX p s m args c E RX10 cX10_hats 7 (Af E sz)) (hr : meth.sig.returnType = (some .int)) (hlk : meth.locks = false) (G : Gd E st (Af E sz) s s.heap []) : ∀ (n : Nat) (y3 : Int32) (y4 : Int32), fX10_hats_L37 p1 p2 st  n y3 y4 = some res → ∀ ls : Array Slot, lv_has ls 7 [(0, .ref (eq E 500)), (1, .int p1), (2, .int p2), (3, .int y3), (4, .int y4)] → W p l e (rmk 1) s m args below meth c s.heap [] 0 0 (MQ below (QRi res) args s 0 0 (NoF)) (F0 m 37 ls []) := by
  have hx := X.1.1
  have hb := X.1.2.1
  intro n
  induction n with
  | zero =>
    intro y3 y4 hf ls hl
    cases (show (none : Option Int32) = some res from hf)
  | succ n ih =>
    intro y3 y4 hf ls hl
    rw [fX10_hats_L37] at hf
    refine lv_iload hx hb dX10_hats_37 (lv_at hl 4 rfl) ?_
    refine lv_iconst (v := (1 : Int32)) hx hb dX10_hats_39 (by decide) ?_
    refine lv_aload_n hx hb dX10_hats_40 rfl (lv_at hl 0 rfl) ?_
    refine gf10 X G (hL 500 rfl) rfl 1 (by decide) rfl kf_X10_9 iwX10 dX10_hats_41 ?_
    refine lv_iconst (v := (3 : Int32)) hx hb dX10_hats_44 (by decide) ?_
    refine ia_ldc (k := 502) (n := 12) X G (hL 502 rfl) rfl (by decide) 3 (by decide) dX10_hats_45 ?_
    refine lv_ishl hx hb dX10_hats_46 ?_
    refine lv_icmp_ge (tgt := 136) hx hb dX10_hats_47 (by decide) (fun c2 => ?_) (fun c2 => ?_)
    · have hf := it_t hf c2
      refine lv_iload_n hx hb dX10_hats_136 rfl (lv_at hl 3 rfl) ?_
      refine lv_bipush (v := (-2 : Int32)) hx hb dX10_hats_137 (by decide) ?_
      refine lv_icmp_eq (tgt := 147) hx hb dX10_hats_139 (by decide) (fun c3 => ?_) (fun c3 => ?_)
      · have hf := it_t hf c3
        refine lv_iload_n hx hb dX10_hats_147 rfl (lv_at hl 3 rfl) ?_
        refine lv_goto (tgt := 155) hx hb dX10_hats_148 (by decide) ?_
        exact rtRi X hlk hr (so_i hf) dX10_hats_155
      · have hf := it_f hf c3
        refine lv_iload_n hx hb dX10_hats_142 rfl (lv_at hl 2 rfl) ?_
        refine lv_iconst (v := (1 : Int32)) hx hb dX10_hats_143 (by decide) ?_
        refine lv_icmp_ne (tgt := 151) hx hb dX10_hats_144 (by decide) (fun c4 => ?_) (fun c4 => ?_)
        · have hf := it_f hf c4
          refine lv_iload_n hx hb dX10_hats_151 rfl (lv_at hl 3 rfl) ?_
          obtain ⟨x6, h5, hf⟩ := br_s hf
          refine cSRi (As := [.int y3]) (rest := []) X G kc_X10_380 (tX10_bits l E st _  y3 h5) rfl rfl (rmk_le (by omega) (by decide)) rfl hl.1 rfl (Nat.le_of_ble_eq_true rfl) dX10_hats_152 ⟨Nat.zero_le _, Nat.zero_le _⟩ ?_
          exact rtRi X hlk hr (so_i hf) dX10_hats_155
        · have hf := it_t hf c4
          refine lv_iload_n hx hb dX10_hats_147 rfl (lv_at hl 3 rfl) ?_
          refine lv_goto (tgt := 155) hx hb dX10_hats_148 (by decide) ?_
          exact rtRi X hlk hr (so_i hf) dX10_hats_155
    · have hf := it_f hf c2
      refine lv_iconst (v := (0 : Int32)) hx hb dX10_hats_50 (by decide) ?_
      refine lv_istore (lv' := [(5, .int (0 : Int32)), (0, .ref (eq E 500)), (1, .int p1), (2, .int p2), (3, .int y3), (4, .int y4)]) hx hb dX10_hats_51 hl (by decide) rfl (fun ls hl => ?_)
      refine lv_iconst (v := (0 : Int32)) hx hb dX10_hats_53 (by decide) ?_
      refine lv_istore (lv' := [(6, .int (0 : Int32)), (5, .int (0 : Int32)), (0, .ref (eq E 500)), (1, .int p1), (2, .int p2), (3, .int y3), (4, .int y4)]) hx hb dX10_hats_54 hl (by decide) rfl (fun ls hl => ?_)
      exact wX10_hats_L56 hL X hr hlk G ih 10000 y3 y4 (0 : Int32) (0 : Int32) hf _ (lv_sub hl [2, 3, 4, 5, 6, 1, 0] rfl)
def fX10_hats (st : St) (p1 : Int32) (p2 : Int32) : Option Int32 := if (st.1 500 28) = 0 then (some (-1 : Int32)) else (br (fX10_in (Int32.toInt64 p1) (1 : Int64) (400 : Int64)) (fun x3 => if x3 = 0 then (some (-1 : Int32)) else (br (fX10_in (Int32.toInt64 p2) (0 : Int64) (1 : Int64)) (fun x6 => if x6 = 0 then (some (-1 : Int32)) else (fX10_hats_L37 p1 p2 st 10000 (-2 : Int32) (0 : Int32))))))
set_option maxRecDepth 100000 in
theorem tX10_hats (l : Launch) (E : Ev) (st : St) (sz : Nat) (hL : ∀ k, fxM k = true → k ∈ eL E) (p1 : Int32) (p2 : Int32) {res : Int32} (hf : fX10_hats st p1 p2 = some res) : Met l yX10_hats (.code yX10_hats cX10_hats 7 (some .int) :: uW) (rmk 1) (va_Pc [.ref (eq E 500), .int p1, .int p2] (Pre E st sz)) (QRi res) 0 0 (NoF) := by
  refine Met_in (by decide) (Nat.le_of_ble_eq_true rfl) ?_
  intro p e s m below meth c X hr hlk hz G ls hl
  have hx := X.1.1
  have hb := X.1.2.1
  have hl : lv_has ls 7 [(0, .ref (eq E 500)), (1, .int p1), (2, .int p2)] := hl
  unfold fX10_hats at hf
  refine lv_aload_n hx hb dX10_hats_0 rfl (lv_at hl 0 rfl) ?_
  refine gf10 X G (hL 500 rfl) rfl 28 (by decide) rfl kf_X10_327 iwX10 dX10_hats_1 ?_
  refine lv_if_eq (tgt := 29) hx hb dX10_hats_4 (by decide) (fun c1 => ?_) (fun c1 => ?_)
  · have hf := it_t hf c1
    refine lv_iconst (v := (-1 : Int32)) hx hb dX10_hats_29 (by decide) ?_
    exact rtRi X hlk hr (so_i hf) dX10_hats_30
  · have hf := it_f hf c1
    refine lv_iload_n hx hb dX10_hats_7 rfl (lv_at hl 1 rfl) ?_
    refine lv_i2l hx hb dX10_hats_8 rfl ?_
    refine lv_lconst (v := (1 : Int64)) hx hb dX10_hats_9 (by decide) ?_
    refine lv_ldc2 (v := (400 : Int64)) hx hb X.1.2.2.2.1 (X.1.2.2.2.2 _ kk_X10_481) dX10_hats_10 ?_
    obtain ⟨x3, h2, hf⟩ := br_s hf
    refine cSRi (As := [.long (Int32.toInt64 p1), .long (1 : Int64), .long (400 : Int64)]) (rest := []) X G kc_X10_152 (tX10_in l E st _  (Int32.toInt64 p1) (1 : Int64) (400 : Int64) h2) rfl rfl (rmk_le (by omega) (by decide)) rfl hl.1 rfl (Nat.le_of_ble_eq_true rfl) dX10_hats_13 ⟨Nat.zero_le _, Nat.zero_le _⟩ ?_
    refine lv_if_eq (tgt := 29) hx hb dX10_hats_16 (by decide) (fun c4 => ?_) (fun c4 => ?_)
    · have hf := it_t hf c4
      refine lv_iconst (v := (-1 : Int32)) hx hb dX10_hats_29 (by decide) ?_
      exact rtRi X hlk hr (so_i hf) dX10_hats_30
    · have hf := it_f hf c4
      refine lv_iload_n hx hb dX10_hats_19 rfl (lv_at hl 2 rfl) ?_
      refine lv_i2l hx hb dX10_hats_20 rfl ?_
      refine lv_lconst (v := (0 : Int64)) hx hb dX10_hats_21 (by decide) ?_
      refine lv_lconst (v := (1 : Int64)) hx hb dX10_hats_22 (by decide) ?_
      obtain ⟨x6, h5, hf⟩ := br_s hf
      refine cSRi (As := [.long (Int32.toInt64 p2), .long (0 : Int64), .long (1 : Int64)]) (rest := []) X G kc_X10_152 (tX10_in l E st _  (Int32.toInt64 p2) (0 : Int64) (1 : Int64) h5) rfl rfl (rmk_le (by omega) (by decide)) rfl hl.1 rfl (Nat.le_of_ble_eq_true rfl) dX10_hats_23 ⟨Nat.zero_le _, Nat.zero_le _⟩ ?_
      refine lv_if_ne (tgt := 31) hx hb dX10_hats_26 (by decide) (fun c7 => ?_) (fun c7 => ?_)
      · have hf := it_f hf c7
        refine lv_bipush (v := (-2 : Int32)) hx hb dX10_hats_31 (by decide) ?_
        refine lv_istore_n (lv' := [(3, .int (-2 : Int32)), (0, .ref (eq E 500)), (1, .int p1), (2, .int p2)]) hx hb dX10_hats_33 rfl hl (by decide) rfl (fun ls hl => ?_)
        refine lv_iconst (v := (0 : Int32)) hx hb dX10_hats_34 (by decide) ?_
        refine lv_istore (lv' := [(4, .int (0 : Int32)), (3, .int (-2 : Int32)), (0, .ref (eq E 500)), (1, .int p1), (2, .int p2)]) hx hb dX10_hats_35 hl (by decide) rfl (fun ls hl => ?_)
        exact wX10_hats_L37 hL X hr hlk G 10000 (-2 : Int32) (0 : Int32) hf _ (lv_sub hl [2, 3, 4, 1, 0] rfl)
      · have hf := it_t hf c7
        refine lv_iconst (v := (-1 : Int32)) hx hb dX10_hats_29 (by decide) ?_
        exact rtRi X hlk hr (so_i hf) dX10_hats_30
def fX10_book (p1 : Int32) (p2 : Int32) (p3 : Int32) (st : St) : Option (Int32 × St) := if p1 = (-1 : Int32) then (nm (ui st 502 9 (0 : Int32)) (fun s3 => some ((0 : Int32), s3))) else (nm (st.1 502 9) (fun x3 => br (fX10_in (Int32.toInt64 p1) (0 : Int64) (60 : Int64)) (fun x5 => if x5 = 0 then (some ((-2 : Int32), st)) else (br (fX10_isHouse st p2) (fun x8 => if x8 = 0 then (some ((-2 : Int32), st)) else (br (fX10_in (Int32.toInt64 p3) (0 : Int64) (999 : Int64)) (fun x11 => if x11 = 0 then (some ((-2 : Int32), st)) else (if x3 = (10 : Int32) then (some ((-2 : Int32), st)) else (gd (ix x3 10) (nm (ui st 513 x3.toNatClampNeg p1) (fun s15 => gd (ix x3 10) (nm (ui s15 514 x3.toNatClampNeg p2) (fun s17 => gd (ix x3 10) (nm (ui s17 515 x3.toNatClampNeg p3) (fun s19 => nm (ui s19 502 9 ((s19.1 502 9) + (1 : Int32))) (fun s22 => some ((x3 + (1 : Int32)), s22)))))))))))))))))
set_option maxRecDepth 100000 in
theorem tX10_book (l : Launch) (E : Ev) (st : St) (sz : Nat) (hL : ∀ k, fxM k = true → k ∈ eL E) (p1 : Int32) (p2 : Int32) (p3 : Int32) {res : (Int32 × St)} (hf : fX10_book  p1 p2 p3 st = some res) : Met l yX10_book (.code yX10_book cX10_book 5 (some .int) :: uW) (rmk 2) (va_Pc [.ref (eq E 500), .int p1, .int p2, .int p3] (Pre E st sz)) (QWi E res.2 sz res.1) 0 0 (Af E sz) := by
  refine Met_in (by decide) (Nat.le_of_ble_eq_true rfl) ?_
  intro p e s m below meth c X hr hlk hz G ls hl
  have hx := X.1.1
  have hb := X.1.2.1
  have hl : lv_has ls 5 [(0, .ref (eq E 500)), (1, .int p1), (2, .int p2), (3, .int p3)] := hl
  unfold fX10_book at hf
  refine lv_iload_n hx hb dX10_book_0 rfl (lv_at hl 1 rfl) ?_
  refine lv_iconst (v := (-1 : Int32)) hx hb dX10_book_1 (by decide) ?_
  refine lv_icmp_ne (tgt := 15) hx hb dX10_book_2 (by decide) (fun c1 => ?_) (fun c1 => ?_)
  · have hf := it_f hf c1
    refine lv_aload_n hx hb dX10_book_15 rfl (lv_at hl 0 rfl) ?_
    refine gf10 X G (hL 500 rfl) rfl 1 (by decide) rfl kf_X10_9 iwX10 dX10_book_16 ?_
    refine lv_bipush (v := (9 : Int32)) hx hb dX10_book_19 (by decide) ?_
    refine ia_ldc (k := 502) (n := 12) X G (hL 502 rfl) rfl (by decide) 9 (by decide) dX10_book_21 ?_
    refine lv_topi (fun x3 ex3 => ?_)
    have hf := nm_s hf x3 ex3
    refine lv_istore (lv' := [(4, .int x3), (0, .ref (eq E 500)), (1, .int p1), (2, .int p2), (3, .int p3)]) hx hb dX10_book_22 hl (by decide) rfl (fun ls hl => ?_)
    refine lv_iload_n hx hb dX10_book_24 rfl (lv_at hl 2 rfl) ?_
    refine lv_i2l hx hb dX10_book_25 rfl ?_
    refine lv_lconst (v := (0 : Int64)) hx hb dX10_book_26 (by decide) ?_
    refine lv_ldc2 (v := (60 : Int64)) hx hb X.1.2.2.2.1 (X.1.2.2.2.2 _ kk_X10_471) dX10_book_27 ?_
    obtain ⟨x5, h4, hf⟩ := br_s hf
    refine cSRi (As := [.long (Int32.toInt64 p1), .long (0 : Int64), .long (60 : Int64)]) (rest := []) X G kc_X10_152 (tX10_in l E st _  (Int32.toInt64 p1) (0 : Int64) (60 : Int64) h4) rfl rfl (rmk_le (by omega) (by decide)) rfl hl.1 rfl (Nat.le_of_ble_eq_true rfl) dX10_book_30 ⟨Nat.zero_le _, Nat.zero_le _⟩ ?_
    refine lv_if_eq (tgt := 63) hx hb dX10_book_33 (by decide) (fun c6 => ?_) (fun c6 => ?_)
    · have hf := it_t hf c6
      refine lv_bipush (v := (-2 : Int32)) hx hb dX10_book_63 (by decide) ?_
      exact rtWi X hlk G hr (so_i hf) dX10_book_65
    · have hf := it_f hf c6
      refine lv_aload_n hx hb dX10_book_36 rfl (lv_at hl 1 rfl) ?_
      refine lv_iload_n hx hb dX10_book_37 rfl (lv_at hl 3 rfl) ?_
      obtain ⟨x8, h7, hf⟩ := br_s hf
      refine cVRi (As := [.int p2]) (rest := []) X G kc_X10_367 (tX10_isHouse l E st _ hL  p2 h7) (rcv X G (hL 500 rfl) (cO10 rfl) rfl) rfl rfl (rmk_le (by omega) (by decide)) rfl hl.1 rfl (Nat.le_of_ble_eq_true rfl) dX10_book_38 ⟨Nat.zero_le _, Nat.zero_le _⟩ ?_
      refine lv_if_eq (tgt := 63) hx hb dX10_book_41 (by decide) (fun c9 => ?_) (fun c9 => ?_)
      · have hf := it_t hf c9
        refine lv_bipush (v := (-2 : Int32)) hx hb dX10_book_63 (by decide) ?_
        exact rtWi X hlk G hr (so_i hf) dX10_book_65
      · have hf := it_f hf c9
        refine lv_iload_n hx hb dX10_book_44 rfl (lv_at hl 4 rfl) ?_
        refine lv_i2l hx hb dX10_book_45 rfl ?_
        refine lv_lconst (v := (0 : Int64)) hx hb dX10_book_46 (by decide) ?_
        refine lv_ldc2 (v := (999 : Int64)) hx hb X.1.2.2.2.1 (X.1.2.2.2.2 _ kk_X10_483) dX10_book_47 ?_
        obtain ⟨x11, h10, hf⟩ := br_s hf
        refine cSRi (As := [.long (Int32.toInt64 p3), .long (0 : Int64), .long (999 : Int64)]) (rest := []) X G kc_X10_152 (tX10_in l E st _  (Int32.toInt64 p3) (0 : Int64) (999 : Int64) h10) rfl rfl (rmk_le (by omega) (by decide)) rfl hl.1 rfl (Nat.le_of_ble_eq_true rfl) dX10_book_50 ⟨Nat.zero_le _, Nat.zero_le _⟩ ?_
        refine lv_if_eq (tgt := 63) hx hb dX10_book_53 (by decide) (fun c12 => ?_) (fun c12 => ?_)
        · have hf := it_t hf c12
          refine lv_bipush (v := (-2 : Int32)) hx hb dX10_book_63 (by decide) ?_
          exact rtWi X hlk G hr (so_i hf) dX10_book_65
        · have hf := it_f hf c12
          refine lv_iload hx hb dX10_book_56 (lv_at hl 0 rfl) ?_
          refine lv_bipush (v := (10 : Int32)) hx hb dX10_book_58 (by decide) ?_
          refine lv_icmp_ne (tgt := 66) hx hb dX10_book_60 (by decide) (fun c13 => ?_) (fun c13 => ?_)
          · have hf := it_f hf c13
            refine lv_aload_n hx hb dX10_book_66 rfl (lv_at hl 1 rfl) ?_
            refine gf10 X G (hL 500 rfl) rfl 12 (by decide) rfl kf_X10_43 iwX10 dX10_book_67 ?_
            refine lv_iload hx hb dX10_book_70 (lv_at hl 0 rfl) ?_
            refine lv_iload_n hx hb dX10_book_72 rfl (lv_at hl 2 rfl) ?_
            obtain ⟨h14, hf⟩ := gd_s hf
            refine ia_st (k := 513) (n := 10) X G (hL 513 rfl) rfl (by decide) (ix_in h14) dX10_book_73 (fun s15 es15 H locs G => ?_)
            have hf := nm_s hf s15 es15
            refine lv_aload_n hx hb dX10_book_74 rfl (lv_at hl 1 rfl) ?_
            refine gf10 X G (hL 500 rfl) rfl 13 (by decide) rfl kf_X10_46 iwX10 dX10_book_75 ?_
            refine lv_iload hx hb dX10_book_78 (lv_at hl 0 rfl) ?_
            refine lv_iload_n hx hb dX10_book_80 rfl (lv_at hl 3 rfl) ?_
            obtain ⟨h16, hf⟩ := gd_s hf
            refine ia_st (k := 514) (n := 10) X G (hL 514 rfl) rfl (by decide) (ix_in h16) dX10_book_81 (fun s17 es17 H locs G => ?_)
            have hf := nm_s hf s17 es17
            refine lv_aload_n hx hb dX10_book_82 rfl (lv_at hl 1 rfl) ?_
            refine gf10 X G (hL 500 rfl) rfl 14 (by decide) rfl kf_X10_49 iwX10 dX10_book_83 ?_
            refine lv_iload hx hb dX10_book_86 (lv_at hl 0 rfl) ?_
            refine lv_iload_n hx hb dX10_book_88 rfl (lv_at hl 4 rfl) ?_
            obtain ⟨h18, hf⟩ := gd_s hf
            refine ia_st (k := 515) (n := 10) X G (hL 515 rfl) rfl (by decide) (ix_in h18) dX10_book_89 (fun s19 es19 H locs G => ?_)
            have hf := nm_s hf s19 es19
            refine lv_aload_n hx hb dX10_book_90 rfl (lv_at hl 1 rfl) ?_
            refine gf10 X G (hL 500 rfl) rfl 1 (by decide) rfl kf_X10_9 iwX10 dX10_book_91 ?_
            refine lv_bipush (v := (9 : Int32)) hx hb dX10_book_94 (by decide) ?_
            refine lv_dup2_11 hx hb dX10_book_96 rfl rfl ?_
            refine ia_ldc (k := 502) (n := 12) X G (hL 502 rfl) rfl (by decide) 9 (by decide) dX10_book_97 ?_
            refine lv_iconst (v := (1 : Int32)) hx hb dX10_book_98 (by decide) ?_
            refine lv_iadd hx hb dX10_book_99 ?_
            refine ia_stc (k := 502) (n := 12) X G (hL 502 rfl) rfl (by decide) 9 (by decide) dX10_book_100 (fun s22 es22 H locs G => ?_)
            have hf := nm_s hf s22 es22
            refine lv_iload hx hb dX10_book_101 (lv_at hl 0 rfl) ?_
            refine lv_iconst (v := (1 : Int32)) hx hb dX10_book_103 (by decide) ?_
            refine lv_iadd hx hb dX10_book_104 ?_
            exact rtWi X hlk G hr (so_i hf) dX10_book_105
          · have hf := it_t hf c13
            refine lv_bipush (v := (-2 : Int32)) hx hb dX10_book_63 (by decide) ?_
            exact rtWi X hlk G hr (so_i hf) dX10_book_65
  · have hf := it_t hf c1
    refine lv_aload_n hx hb dX10_book_5 rfl (lv_at hl 0 rfl) ?_
    refine gf10 X G (hL 500 rfl) rfl 1 (by decide) rfl kf_X10_9 iwX10 dX10_book_6 ?_
    refine lv_bipush (v := (9 : Int32)) hx hb dX10_book_9 (by decide) ?_
    refine lv_iconst (v := (0 : Int32)) hx hb dX10_book_11 (by decide) ?_
    refine ia_stc (k := 502) (n := 12) X G (hL 502 rfl) rfl (by decide) 9 (by decide) dX10_book_12 (fun s3 es3 H locs G => ?_)
    have hf := nm_s hf s3 es3
    refine lv_iconst (v := (0 : Int32)) hx hb dX10_book_13 (by decide) ?_
    exact rtWi X hlk G hr (so_i hf) dX10_book_14
def fX10_couldRule_B86 (p1 : Int32) (p2 : Int32) (k17 : Int32 → Int32 → St → Option (Int32 × St)) (k32 : Int32 → Int32 → Int32 → St → Option (Int32 × St)) (y4 : Int32) (y5 : Int32) (st : St) : Option (Int32 × St) := nm (y5 + (1 : Int32)) (fun x1 => k32 (0 : Int32) y4 x1 st)
set_option maxRecDepth 100000 in
theorem wX10_couldRule_B86 {p : Program} {l : Launch} {e : Env} {s : State} {m : MethodId} {args : Array Value} {below : List Frame} {meth : Method} {c : Code} {E : Ev} (hL : ∀ k, fxM k = true → k ∈ eL E) {p1 : Int32} {p2 : Int32} {sz : Nat} {res : (Int32 × St)} (X : CX p s m args c E RX10 cX10_couldRule 6 (Af E sz)) (hr : meth.sig.returnType = (some .boolean)) (hlk : meth.locks = false) {k17 : Int32 → Int32 → St → Option (Int32 × St)} (hk17 : ∀ (y3 : Int32) (y4 : Int32) (st : St) (H : Heap) (locs : List Loc), k17 y3 y4 st = some res → Gd E st (Af E sz) s H locs → ∀ ls : Array Slot, lv_has ls 6 [(0, .ref (eq E 500)), (2, .int p2), (3, .int y3), (4, .int y4)] → W p l e (rmk 7) s m args below meth c H locs 0 0 (MQ below (QWi E res.2 sz res.1) args s 0 0 (Af E sz)) (F0 m 17 ls [])) {k32 : Int32 → Int32 → Int32 → St → Option (Int32 × St)} (hk32 : ∀ (y3 : Int32) (y4 : Int32) (y5 : Int32) (st : St) (H : Heap) (locs : List Loc), k32 y3 y4 y5 st = some res → Gd E st (Af E sz) s H locs → ∀ ls : Array Slot, lv_has ls 6 [(0, .ref (eq E 500)), (2, .int p2), (3, .int y3), (4, .int y4), (5, .int y5)] → W p l e (rmk 7) s m args below meth c H locs 0 0 (MQ below (QWi E res.2 sz res.1) args s 0 0 (Af E sz)) (F0 m 32 ls [])) : ∀ (y4 : Int32) (y5 : Int32) (st : St) (H : Heap) (locs : List Loc), fX10_couldRule_B86 p1 p2 k17 k32 y4 y5 st = some res → Gd E st (Af E sz) s H locs → ∀ ls : Array Slot, lv_has ls 6 [(0, .ref (eq E 500)), (2, .int p2), (4, .int y4), (5, .int y5)] → W p l e (rmk 7) s m args below meth c H locs 0 0 (MQ below (QWi E res.2 sz res.1) args s 0 0 (Af E sz)) (F0 m 86 ls []) := by
  have hx := X.1.1
  have hb := X.1.2.1
  intro y4 y5 st H locs hf G ls hl
  unfold fX10_couldRule_B86 at hf
  refine lv_iconst (v := (0 : Int32)) hx hb dX10_couldRule_86 (by decide) ?_
  refine lv_istore_n (lv' := [(3, .int (0 : Int32)), (0, .ref (eq E 500)), (2, .int p2), (4, .int y4), (5, .int y5)]) hx hb dX10_couldRule_87 rfl hl (by decide) rfl (fun ls hl => ?_)
  obtain ⟨x1, ex1⟩ : ∃ y : Int32, y = (y5 + (1 : Int32)) := ⟨_, rfl⟩
  have hf := nm_s hf x1 ex1
  refine lv_iinc (k := 4) (v := x1) (lv' := [(5, .int x1), (3, .int (0 : Int32)), (0, .ref (eq E 500)), (2, .int p2), (4, .int y4)]) hx hb dX10_couldRule_88 hl rfl (by rw [ex1]; rfl) (by decide) rfl (fun ls hl => ?_)
  refine lv_goto (tgt := 32) hx hb dX10_couldRule_91 (by decide) ?_
  exact hk32 (0 : Int32) y4 x1 st _ _ hf G _ (lv_sub hl [2, 3, 1, 4, 0] rfl)
def fX10_couldRule_B82 (p1 : Int32) (p2 : Int32) (k17 : Int32 → Int32 → St → Option (Int32 × St)) (k32 : Int32 → Int32 → Int32 → St → Option (Int32 × St)) (y4 : Int32) (y5 : Int32) (st : St) : Option (Int32 × St) := nm (y5 + (1 : Int32)) (fun x1 => k32 (1 : Int32) y4 x1 st)
set_option maxRecDepth 100000 in
theorem wX10_couldRule_B82 {p : Program} {l : Launch} {e : Env} {s : State} {m : MethodId} {args : Array Value} {below : List Frame} {meth : Method} {c : Code} {E : Ev} (hL : ∀ k, fxM k = true → k ∈ eL E) {p1 : Int32} {p2 : Int32} {sz : Nat} {res : (Int32 × St)} (X : CX p s m args c E RX10 cX10_couldRule 6 (Af E sz)) (hr : meth.sig.returnType = (some .boolean)) (hlk : meth.locks = false) {k17 : Int32 → Int32 → St → Option (Int32 × St)} (hk17 : ∀ (y3 : Int32) (y4 : Int32) (st : St) (H : Heap) (locs : List Loc), k17 y3 y4 st = some res → Gd E st (Af E sz) s H locs → ∀ ls : Array Slot, lv_has ls 6 [(0, .ref (eq E 500)), (2, .int p2), (3, .int y3), (4, .int y4)] → W p l e (rmk 7) s m args below meth c H locs 0 0 (MQ below (QWi E res.2 sz res.1) args s 0 0 (Af E sz)) (F0 m 17 ls [])) {k32 : Int32 → Int32 → Int32 → St → Option (Int32 × St)} (hk32 : ∀ (y3 : Int32) (y4 : Int32) (y5 : Int32) (st : St) (H : Heap) (locs : List Loc), k32 y3 y4 y5 st = some res → Gd E st (Af E sz) s H locs → ∀ ls : Array Slot, lv_has ls 6 [(0, .ref (eq E 500)), (2, .int p2), (3, .int y3), (4, .int y4), (5, .int y5)] → W p l e (rmk 7) s m args below meth c H locs 0 0 (MQ below (QWi E res.2 sz res.1) args s 0 0 (Af E sz)) (F0 m 32 ls [])) : ∀ (y4 : Int32) (y5 : Int32) (st : St) (H : Heap) (locs : List Loc), fX10_couldRule_B82 p1 p2 k17 k32 y4 y5 st = some res → Gd E st (Af E sz) s H locs → ∀ ls : Array Slot, lv_has ls 6 [(0, .ref (eq E 500)), (2, .int p2), (4, .int y4), (5, .int y5)] → W p l e (rmk 7) s m args below meth c H locs 0 0 (MQ below (QWi E res.2 sz res.1) args s 0 0 (Af E sz)) (F0 m 82 ls []) := by
  have hx := X.1.1
  have hb := X.1.2.1
  intro y4 y5 st H locs hf G ls hl
  unfold fX10_couldRule_B82 at hf
  refine lv_iconst (v := (1 : Int32)) hx hb dX10_couldRule_82 (by decide) ?_
  refine lv_goto (tgt := 87) hx hb dX10_couldRule_83 (by decide) ?_
  refine lv_istore_n (lv' := [(3, .int (1 : Int32)), (0, .ref (eq E 500)), (2, .int p2), (4, .int y4), (5, .int y5)]) hx hb dX10_couldRule_87 rfl hl (by decide) rfl (fun ls hl => ?_)
  obtain ⟨x1, ex1⟩ : ∃ y : Int32, y = (y5 + (1 : Int32)) := ⟨_, rfl⟩
  have hf := nm_s hf x1 ex1
  refine lv_iinc (k := 4) (v := x1) (lv' := [(5, .int x1), (3, .int (1 : Int32)), (0, .ref (eq E 500)), (2, .int p2), (4, .int y4)]) hx hb dX10_couldRule_88 hl rfl (by rw [ex1]; rfl) (by decide) rfl (fun ls hl => ?_)
  refine lv_goto (tgt := 32) hx hb dX10_couldRule_91 (by decide) ?_
  exact hk32 (1 : Int32) y4 x1 st _ _ hf G _ (lv_sub hl [2, 3, 1, 4, 0] rfl)
def fX10_couldRule_L32 (p1 : Int32) (p2 : Int32) (k17 : Int32 → Int32 → St → Option (Int32 × St)) : Nat → Int32 → Int32 → Int32 → St → Option (Int32 × St)
  | 0, _, _, _, _ => none
  | n + 1, y3, y4, y5, st => if (st.1 502 9) ≤ y5 then (if y4 = p2 then (br (fX10_copies 503 8 557 8 st) (fun s5 => nm (y4 + (1 : Int32)) (fun x6 => k17 y3 x6 s5))) else (nm (y4 + (1 : Int32)) (fun x4 => k17 y3 x4 st))) else (if y3 = 0 then (fX10_couldRule_B86 p1 p2 k17 (fX10_couldRule_L32 p1 p2 k17 n) y4 y5 st) else (gd (ix y5 10) (if (st.1 513 y5.toNatClampNeg) = y4 then (gd (ix y5 10) (gd (ix (st.1 514 y5.toNatClampNeg) 8) (gd (ix y5 10) (if (st.1 503 (st.1 514 y5.toNatClampNeg).toNatClampNeg) = (st.1 515 y5.toNatClampNeg) then (fX10_couldRule_B82 p1 p2 k17 (fX10_couldRule_L32 p1 p2 k17 n) y4 y5 st) else (fX10_couldRule_B86 p1 p2 k17 (fX10_couldRule_L32 p1 p2 k17 n) y4 y5 st))))) else (fX10_couldRule_B82 p1 p2 k17 (fX10_couldRule_L32 p1 p2 k17 n) y4 y5 st))))
set_option maxRecDepth 100000 in
theorem wX10_couldRule_L32 {p : Program} {l : Launch} {e : Env} {s : State} {m : MethodId} {args : Array Value} {below : List Frame} {meth : Method} {c : Code} {E : Ev} (hL : ∀ k, fxM k = true → k ∈ eL E) {p1 : Int32} {p2 : Int32} {sz : Nat} {res : (Int32 × St)} (X : CX p s m args c E RX10 cX10_couldRule 6 (Af E sz)) (hr : meth.sig.returnType = (some .boolean)) (hlk : meth.locks = false) {k17 : Int32 → Int32 → St → Option (Int32 × St)} (hk17 : ∀ (y3 : Int32) (y4 : Int32) (st : St) (H : Heap) (locs : List Loc), k17 y3 y4 st = some res → Gd E st (Af E sz) s H locs → ∀ ls : Array Slot, lv_has ls 6 [(0, .ref (eq E 500)), (2, .int p2), (3, .int y3), (4, .int y4)] → W p l e (rmk 7) s m args below meth c H locs 0 0 (MQ below (QWi E res.2 sz res.1) args s 0 0 (Af E sz)) (F0 m 17 ls [])) : ∀ (n : Nat) (y3 : Int32) (y4 : Int32) (y5 : Int32) (st : St) (H : Heap) (locs : List Loc), fX10_couldRule_L32 p1 p2 k17 n y3 y4 y5 st = some res → Gd E st (Af E sz) s H locs → ∀ ls : Array Slot, lv_has ls 6 [(0, .ref (eq E 500)), (2, .int p2), (3, .int y3), (4, .int y4), (5, .int y5)] → W p l e (rmk 7) s m args below meth c H locs 0 0 (MQ below (QWi E res.2 sz res.1) args s 0 0 (Af E sz)) (F0 m 32 ls []) := by
  have hx := X.1.1
  have hb := X.1.2.1
  intro n
  induction n with
  | zero =>
    intro y3 y4 y5 st H locs hf G ls hl
    cases (show (none : Option (Int32 × St)) = some res from hf)
  | succ n ih =>
    intro y3 y4 y5 st H locs hf G ls hl
    rw [fX10_couldRule_L32] at hf
    refine lv_iload hx hb dX10_couldRule_32 (lv_at hl 4 rfl) ?_
    refine lv_aload_n hx hb dX10_couldRule_34 rfl (lv_at hl 0 rfl) ?_
    refine gf10 X G (hL 500 rfl) rfl 1 (by decide) rfl kf_X10_9 iwX10 dX10_couldRule_35 ?_
    refine lv_bipush (v := (9 : Int32)) hx hb dX10_couldRule_38 (by decide) ?_
    refine ia_ldc (k := 502) (n := 12) X G (hL 502 rfl) rfl (by decide) 9 (by decide) dX10_couldRule_40 ?_
    refine lv_icmp_ge (tgt := 94) hx hb dX10_couldRule_41 (by decide) (fun c2 => ?_) (fun c2 => ?_)
    · have hf := it_t hf c2
      refine lv_iload hx hb dX10_couldRule_94 (lv_at hl 3 rfl) ?_
      refine lv_iload_n hx hb dX10_couldRule_96 rfl (lv_at hl 1 rfl) ?_
      refine lv_icmp_ne (tgt := 111) hx hb dX10_couldRule_97 (by decide) (fun c3 => ?_) (fun c3 => ?_)
      · have hf := it_f hf c3
        obtain ⟨x4, ex4⟩ : ∃ y : Int32, y = (y4 + (1 : Int32)) := ⟨_, rfl⟩
        have hf := nm_s hf x4 ex4
        refine lv_iinc (k := 3) (v := x4) (lv' := [(4, .int x4), (0, .ref (eq E 500)), (2, .int p2), (3, .int y3), (5, .int y5)]) hx hb dX10_couldRule_111 hl rfl (by rw [ex4]; rfl) (by decide) rfl (fun ls hl => ?_)
        refine lv_goto (tgt := 17) hx hb dX10_couldRule_114 (by decide) ?_
        exact hk17 y3 x4 st _ _ hf G _ (lv_sub hl [1, 2, 3, 0] rfl)
      · have hf := it_t hf c3
        refine lv_aload_n hx hb dX10_couldRule_100 rfl (lv_at hl 0 rfl) ?_
        refine gf10 X G (hL 500 rfl) rfl 2 (by decide) rfl kf_X10_13 iwX10 dX10_couldRule_101 ?_
        refine lv_aload_n hx hb dX10_couldRule_104 rfl (lv_at hl 0 rfl) ?_
        refine gf10 X G (hL 500 rfl) rfl 56 (by decide) rfl kf_X10_133 iwX10 dX10_couldRule_105 ?_
        obtain ⟨s5, h4, hf⟩ := br_s hf
        refine cSWv (As := [.ref (eq E 503), .ref (eq E 557)]) (rest := []) X G kc_X10_320 (tX10_copies l E st _ hL (hL 503 rfl) rfl (by decide) (hL 557 rfl) rfl (by decide)  h4) rfl rfl (rmk_le (by omega) (by decide)) rfl hl.1 rfl (Nat.le_of_ble_eq_true rfl) dX10_couldRule_108 ⟨Nat.zero_le _, Nat.zero_le _⟩ (fun H locs G => ?_)
        obtain ⟨x6, ex6⟩ : ∃ y : Int32, y = (y4 + (1 : Int32)) := ⟨_, rfl⟩
        have hf := nm_s hf x6 ex6
        refine lv_iinc (k := 3) (v := x6) (lv' := [(4, .int x6), (0, .ref (eq E 500)), (2, .int p2), (3, .int y3), (5, .int y5)]) hx hb dX10_couldRule_111 hl rfl (by rw [ex6]; rfl) (by decide) rfl (fun ls hl => ?_)
        refine lv_goto (tgt := 17) hx hb dX10_couldRule_114 (by decide) ?_
        exact hk17 y3 x6 s5 _ _ hf G _ (lv_sub hl [1, 2, 3, 0] rfl)
    · have hf := it_f hf c2
      refine lv_iload_n hx hb dX10_couldRule_44 rfl (lv_at hl 2 rfl) ?_
      refine lv_if_eq (tgt := 86) hx hb dX10_couldRule_45 (by decide) (fun c3 => ?_) (fun c3 => ?_)
      · have hf := it_t hf c3
        exact wX10_couldRule_B86 hL X hr hlk hk17 ih y4 y5 st _ _ hf G _ (lv_sub hl [0, 1, 3, 4] rfl)
      · have hf := it_f hf c3
        refine lv_aload_n hx hb dX10_couldRule_48 rfl (lv_at hl 0 rfl) ?_
        refine gf10 X G (hL 500 rfl) rfl 12 (by decide) rfl kf_X10_43 iwX10 dX10_couldRule_49 ?_
        refine lv_iload hx hb dX10_couldRule_52 (lv_at hl 4 rfl) ?_
        obtain ⟨h4, hf⟩ := gd_s hf
        refine ia_ld (k := 513) (n := 10) X G (hL 513 rfl) rfl (by decide) (ix_in h4) dX10_couldRule_54 ?_
        refine lv_iload hx hb dX10_couldRule_55 (lv_at hl 3 rfl) ?_
        refine lv_icmp_ne (tgt := 82) hx hb dX10_couldRule_57 (by decide) (fun c5 => ?_) (fun c5 => ?_)
        · have hf := it_f hf c5
          exact wX10_couldRule_B82 hL X hr hlk hk17 ih y4 y5 st _ _ hf G _ (lv_sub hl [0, 1, 3, 4] rfl)
        · have hf := it_t hf c5
          refine lv_aload_n hx hb dX10_couldRule_60 rfl (lv_at hl 0 rfl) ?_
          refine gf10 X G (hL 500 rfl) rfl 2 (by decide) rfl kf_X10_13 iwX10 dX10_couldRule_61 ?_
          refine lv_aload_n hx hb dX10_couldRule_64 rfl (lv_at hl 0 rfl) ?_
          refine gf10 X G (hL 500 rfl) rfl 13 (by decide) rfl kf_X10_46 iwX10 dX10_couldRule_65 ?_
          refine lv_iload hx hb dX10_couldRule_68 (lv_at hl 4 rfl) ?_
          obtain ⟨h6, hf⟩ := gd_s hf
          refine ia_ld (k := 514) (n := 10) X G (hL 514 rfl) rfl (by decide) (ix_in h6) dX10_couldRule_70 ?_
          obtain ⟨h7, hf⟩ := gd_s hf
          refine ia_ld (k := 503) (n := 8) X G (hL 503 rfl) rfl (by decide) (ix_in h7) dX10_couldRule_71 ?_
          refine lv_aload_n hx hb dX10_couldRule_72 rfl (lv_at hl 0 rfl) ?_
          refine gf10 X G (hL 500 rfl) rfl 14 (by decide) rfl kf_X10_49 iwX10 dX10_couldRule_73 ?_
          refine lv_iload hx hb dX10_couldRule_76 (lv_at hl 4 rfl) ?_
          obtain ⟨h8, hf⟩ := gd_s hf
          refine ia_ld (k := 515) (n := 10) X G (hL 515 rfl) rfl (by decide) (ix_in h8) dX10_couldRule_78 ?_
          refine lv_icmp_ne (tgt := 86) hx hb dX10_couldRule_79 (by decide) (fun c9 => ?_) (fun c9 => ?_)
          · have hf := it_f hf c9
            exact wX10_couldRule_B86 hL X hr hlk hk17 ih y4 y5 st _ _ hf G _ (lv_sub hl [0, 1, 3, 4] rfl)
          · have hf := it_t hf c9
            exact wX10_couldRule_B82 hL X hr hlk hk17 ih y4 y5 st _ _ hf G _ (lv_sub hl [0, 1, 3, 4] rfl)
def fX10_couldRule_L17 (p1 : Int32) (p2 : Int32) : Nat → Int32 → Int32 → St → Option (Int32 × St)
  | 0, _, _, _ => none
  | n + 1, y3, y4, st => if (60 : Int32) < y4 then (br (fX10_laysBack st) (fun s3 => gd (bz y3) (some (y3, s3)))) else (bw (fX10_goes st) (fun x4 s3 => fX10_couldRule_L32 p1 p2 (fX10_couldRule_L17 p1 p2 n) 10000 y3 y4 (0 : Int32) s3))
set_option maxRecDepth 100000 in
theorem wX10_couldRule_L17 {p : Program} {l : Launch} {e : Env} {s : State} {m : MethodId} {args : Array Value} {below : List Frame} {meth : Method} {c : Code} {E : Ev} (hL : ∀ k, fxM k = true → k ∈ eL E) {p1 : Int32} {p2 : Int32} {sz : Nat} {res : (Int32 × St)} (X : CX p s m args c E RX10 cX10_couldRule 6 (Af E sz)) (hr : meth.sig.returnType = (some .boolean)) (hlk : meth.locks = false) : ∀ (n : Nat) (y3 : Int32) (y4 : Int32) (st : St) (H : Heap) (locs : List Loc), fX10_couldRule_L17 p1 p2  n y3 y4 st = some res → Gd E st (Af E sz) s H locs → ∀ ls : Array Slot, lv_has ls 6 [(0, .ref (eq E 500)), (2, .int p2), (3, .int y3), (4, .int y4)] → W p l e (rmk 7) s m args below meth c H locs 0 0 (MQ below (QWi E res.2 sz res.1) args s 0 0 (Af E sz)) (F0 m 17 ls []) := by
  have hx := X.1.1
  have hb := X.1.2.1
  intro n
  induction n with
  | zero =>
    intro y3 y4 st H locs hf G ls hl
    cases (show (none : Option (Int32 × St)) = some res from hf)
  | succ n ih =>
    intro y3 y4 st H locs hf G ls hl
    rw [fX10_couldRule_L17] at hf
    refine lv_iload hx hb dX10_couldRule_17 (lv_at hl 3 rfl) ?_
    refine lv_bipush (v := (60 : Int32)) hx hb dX10_couldRule_19 (by decide) ?_
    refine lv_icmp_gt (tgt := 117) hx hb dX10_couldRule_21 (by decide) (fun c1 => ?_) (fun c1 => ?_)
    · have hf := it_t hf c1
      refine lv_aload_n hx hb dX10_couldRule_117 rfl (lv_at hl 0 rfl) ?_
      obtain ⟨s3, h2, hf⟩ := br_s hf
      refine cVWv (As := []) (rest := []) X G kc_X10_454 (tX10_laysBack l E st _ hL   h2) (rcv X G (hL 500 rfl) (cO10 rfl) rfl) rfl rfl (rmk_le (by omega) (by decide)) rfl hl.1 rfl (Nat.le_of_ble_eq_true rfl) dX10_couldRule_118 ⟨Nat.zero_le _, Nat.zero_le _⟩ (fun H locs G => ?_)
      refine lv_iload_n hx hb dX10_couldRule_121 rfl (lv_at hl 2 rfl) ?_
      obtain ⟨h4, hf⟩ := gd_s hf
      exact rtWz X hlk G hr (bz_n h4) (so_i hf) dX10_couldRule_122
    · have hf := it_f hf c1
      refine lv_aload_n hx hb dX10_couldRule_24 rfl (lv_at hl 0 rfl) ?_
      obtain ⟨x4, s3, h2, hf⟩ := bw_s hf
      refine cVWi (As := []) (rest := []) X G kc_X10_411 (tX10_goes l E st _ hL   h2) (rcv X G (hL 500 rfl) (cO10 rfl) rfl) rfl rfl (rmk_le (by omega) (by decide)) rfl hl.1 rfl (Nat.le_of_ble_eq_true rfl) dX10_couldRule_25 ⟨Nat.zero_le _, Nat.zero_le _⟩ (fun H locs G => ?_)
      refine lv_pop hx hb dX10_couldRule_28 rfl ?_
      refine lv_iconst (v := (0 : Int32)) hx hb dX10_couldRule_29 (by decide) ?_
      refine lv_istore (lv' := [(5, .int (0 : Int32)), (0, .ref (eq E 500)), (2, .int p2), (3, .int y3), (4, .int y4)]) hx hb dX10_couldRule_30 hl (by decide) rfl (fun ls hl => ?_)
      exact wX10_couldRule_L32 hL X hr hlk ih 10000 y3 y4 (0 : Int32) s3 _ _ hf G _ (lv_sub hl [1, 2, 3, 4, 0] rfl)
def fX10_couldRule (p1 : Int32) (p2 : Int32) (st : St) : Option (Int32 × St) := nm (ui st 502 11 p1) (fun s2 => br (fX10_begins s2) (fun s4 => fX10_couldRule_L17 p1 p2 10000 (1 : Int32) (0 : Int32) s4))
set_option maxRecDepth 100000 in
theorem tX10_couldRule (l : Launch) (E : Ev) (st : St) (sz : Nat) (hL : ∀ k, fxM k = true → k ∈ eL E) (p1 : Int32) (p2 : Int32) {res : (Int32 × St)} (hf : fX10_couldRule  p1 p2 st = some res) : Met l yX10_couldRule (.code yX10_couldRule cX10_couldRule 6 (some .boolean) :: uW) (rmk 7) (va_Pc [.ref (eq E 500), .int p1, .int p2] (Pre E st sz)) (QWi E res.2 sz res.1) 0 0 (Af E sz) := by
  refine Met_in (by decide) (Nat.le_of_ble_eq_true rfl) ?_
  intro p e s m below meth c X hr hlk hz G ls hl
  have hx := X.1.1
  have hb := X.1.2.1
  have hl : lv_has ls 6 [(0, .ref (eq E 500)), (1, .int p1), (2, .int p2)] := hl
  unfold fX10_couldRule at hf
  refine lv_aload_n hx hb dX10_couldRule_0 rfl (lv_at hl 0 rfl) ?_
  refine gf10 X G (hL 500 rfl) rfl 1 (by decide) rfl kf_X10_9 iwX10 dX10_couldRule_1 ?_
  refine lv_bipush (v := (11 : Int32)) hx hb dX10_couldRule_4 (by decide) ?_
  refine lv_iload_n hx hb dX10_couldRule_6 rfl (lv_at hl 1 rfl) ?_
  refine ia_stc (k := 502) (n := 12) X G (hL 502 rfl) rfl (by decide) 11 (by decide) dX10_couldRule_7 (fun s2 es2 H locs G => ?_)
  have hf := nm_s hf s2 es2
  refine lv_aload_n hx hb dX10_couldRule_8 rfl (lv_at hl 0 rfl) ?_
  obtain ⟨s4, h3, hf⟩ := br_s hf
  refine cVWv (As := []) (rest := []) X G kc_X10_331 (tX10_begins l E s2 _ hL   h3) (rcv X G (hL 500 rfl) (cO10 rfl) rfl) rfl rfl (rmk_le (by omega) (by decide)) rfl hl.1 rfl (Nat.le_of_ble_eq_true rfl) dX10_couldRule_9 ⟨Nat.zero_le _, Nat.zero_le _⟩ (fun H locs G => ?_)
  refine lv_iconst (v := (1 : Int32)) hx hb dX10_couldRule_12 (by decide) ?_
  refine lv_istore_n (lv' := [(3, .int (1 : Int32)), (0, .ref (eq E 500)), (1, .int p1), (2, .int p2)]) hx hb dX10_couldRule_13 rfl hl (by decide) rfl (fun ls hl => ?_)
  refine lv_iconst (v := (0 : Int32)) hx hb dX10_couldRule_14 (by decide) ?_
  refine lv_istore (lv' := [(4, .int (0 : Int32)), (3, .int (1 : Int32)), (0, .ref (eq E 500)), (1, .int p1), (2, .int p2)]) hx hb dX10_couldRule_15 hl (by decide) rfl (fun ls hl => ?_)
  exact wX10_couldRule_L17 hL X hr hlk 10000 (1 : Int32) (0 : Int32) s4 _ _ hf G _ (lv_sub hl [2, 4, 1, 0] rfl)
def fX10_ruled_B61 (p1 : Int32) (k32 : Int32 → Int32 → Int32 → St → Option (Int32 × St)) (y2 : Int32) (y4 : Int32) (z0 : Int32) (st : St) : Option (Int32 × St) := nm (y2 + (1 : Int32)) (fun x1 => nm (y4 + (1 : Int32)) (fun x2 => k32 x1 z0 x2 st))
set_option maxRecDepth 100000 in
theorem wX10_ruled_B61 {p : Program} {l : Launch} {e : Env} {s : State} {m : MethodId} {args : Array Value} {below : List Frame} {meth : Method} {c : Code} {E : Ev} (hL : ∀ k, fxM k = true → k ∈ eL E) {p1 : Int32} {sz : Nat} {res : (Int32 × St)} (X : CX p s m args c E RX10 cX10_ruled 5 (Af E sz)) (hr : meth.sig.returnType = (some .int)) (hlk : meth.locks = false) {k32 : Int32 → Int32 → Int32 → St → Option (Int32 × St)} (hk32 : ∀ (y2 : Int32) (y3 : Int32) (y4 : Int32) (st : St) (H : Heap) (locs : List Loc), k32 y2 y3 y4 st = some res → Gd E st (Af E sz) s H locs → ∀ ls : Array Slot, lv_has ls 5 [(0, .ref (eq E 500)), (1, .int p1), (2, .int y2), (3, .int y3), (4, .int y4)] → W p l e (rmk 8) s m args below meth c H locs 0 0 (MQ below (QWi E res.2 sz res.1) args s 0 0 (Af E sz)) (F0 m 32 ls [])) : ∀ (y2 : Int32) (y4 : Int32) (z0 : Int32) (st : St) (H : Heap) (locs : List Loc), fX10_ruled_B61 p1 k32 y2 y4 z0 st = some res → Gd E st (Af E sz) s H locs → ∀ ls : Array Slot, lv_has ls 5 [(0, .ref (eq E 500)), (1, .int p1), (2, .int y2), (4, .int y4)] → W p l e (rmk 8) s m args below meth c H locs 0 0 (MQ below (QWi E res.2 sz res.1) args s 0 0 (Af E sz)) (F0 m 61 ls [.int z0]) := by
  have hx := X.1.1
  have hb := X.1.2.1
  intro y2 y4 z0 st H locs hf G ls hl
  unfold fX10_ruled_B61 at hf
  refine lv_istore_n (lv' := [(3, .int z0), (0, .ref (eq E 500)), (1, .int p1), (2, .int y2), (4, .int y4)]) hx hb dX10_ruled_61 rfl hl (by decide) rfl (fun ls hl => ?_)
  obtain ⟨x1, ex1⟩ : ∃ y : Int32, y = (y2 + (1 : Int32)) := ⟨_, rfl⟩
  have hf := nm_s hf x1 ex1
  refine lv_iinc (k := 3) (v := x1) (lv' := [(2, .int x1), (3, .int z0), (0, .ref (eq E 500)), (1, .int p1), (4, .int y4)]) hx hb dX10_ruled_62 hl rfl (by rw [ex1]; rfl) (by decide) rfl (fun ls hl => ?_)
  obtain ⟨x2, ex2⟩ : ∃ y : Int32, y = (y4 + (1 : Int32)) := ⟨_, rfl⟩
  have hf := nm_s hf x2 ex2
  refine lv_iinc (k := 4) (v := x2) (lv' := [(4, .int x2), (2, .int x1), (3, .int z0), (0, .ref (eq E 500)), (1, .int p1)]) hx hb dX10_ruled_65 hl rfl (by rw [ex2]; rfl) (by decide) rfl (fun ls hl => ?_)
  refine lv_goto (tgt := 32) hx hb dX10_ruled_68 (by decide) ?_
  exact hk32 x1 z0 x2 st _ _ hf G _ (lv_sub hl [3, 4, 1, 2, 0] rfl)
def fX10_ruled_L32 (p1 : Int32) : Nat → Int32 → Int32 → Int32 → St → Option (Int32 × St)
  | 0, _, _, _, _ => none
  | n + 1, y2, y3, y4, st => if (st.1 500 33) ≤ y4 then (if p1 = 0 then (some (y2, st)) else (some (y3, st))) else (bw (fX10_couldRule y4 (-1 : Int32) st) (fun x4 s3 => if x4 = 0 then (nm (y4 + (1 : Int32)) (fun x6 => (fX10_ruled_L32 p1 n) y2 y3 x6 s3)) else (if y2 = 0 then (fX10_ruled_B61 p1 (fX10_ruled_L32 p1 n) y2 y4 y4 s3) else (fX10_ruled_B61 p1 (fX10_ruled_L32 p1 n) y2 y4 y3 s3))))
set_option maxRecDepth 100000 in
theorem wX10_ruled_L32 {p : Program} {l : Launch} {e : Env} {s : State} {m : MethodId} {args : Array Value} {below : List Frame} {meth : Method} {c : Code} {E : Ev} (hL : ∀ k, fxM k = true → k ∈ eL E) {p1 : Int32} {sz : Nat} {res : (Int32 × St)} (X : CX p s m args c E RX10 cX10_ruled 5 (Af E sz)) (hr : meth.sig.returnType = (some .int)) (hlk : meth.locks = false) : ∀ (n : Nat) (y2 : Int32) (y3 : Int32) (y4 : Int32) (st : St) (H : Heap) (locs : List Loc), fX10_ruled_L32 p1  n y2 y3 y4 st = some res → Gd E st (Af E sz) s H locs → ∀ ls : Array Slot, lv_has ls 5 [(0, .ref (eq E 500)), (1, .int p1), (2, .int y2), (3, .int y3), (4, .int y4)] → W p l e (rmk 8) s m args below meth c H locs 0 0 (MQ below (QWi E res.2 sz res.1) args s 0 0 (Af E sz)) (F0 m 32 ls []) := by
  have hx := X.1.1
  have hb := X.1.2.1
  intro n
  induction n with
  | zero =>
    intro y2 y3 y4 st H locs hf G ls hl
    cases (show (none : Option (Int32 × St)) = some res from hf)
  | succ n ih =>
    intro y2 y3 y4 st H locs hf G ls hl
    rw [fX10_ruled_L32] at hf
    refine lv_iload hx hb dX10_ruled_32 (lv_at hl 4 rfl) ?_
    refine lv_aload_n hx hb dX10_ruled_34 rfl (lv_at hl 0 rfl) ?_
    refine gf10 X G (hL 500 rfl) rfl 33 (by decide) rfl kf_X10_347 iwX10 dX10_ruled_35 ?_
    refine lv_icmp_ge (tgt := 71) hx hb dX10_ruled_38 (by decide) (fun c1 => ?_) (fun c1 => ?_)
    · have hf := it_t hf c1
      refine lv_iload_n hx hb dX10_ruled_71 rfl (lv_at hl 1 rfl) ?_
      refine lv_if_ne (tgt := 79) hx hb dX10_ruled_72 (by decide) (fun c2 => ?_) (fun c2 => ?_)
      · have hf := it_f hf c2
        refine lv_iload_n hx hb dX10_ruled_79 rfl (lv_at hl 3 rfl) ?_
        exact rtWi X hlk G hr (so_i hf) dX10_ruled_80
      · have hf := it_t hf c2
        refine lv_iload_n hx hb dX10_ruled_75 rfl (lv_at hl 2 rfl) ?_
        refine lv_goto (tgt := 80) hx hb dX10_ruled_76 (by decide) ?_
        exact rtWi X hlk G hr (so_i hf) dX10_ruled_80
    · have hf := it_f hf c1
      refine lv_aload_n hx hb dX10_ruled_41 rfl (lv_at hl 0 rfl) ?_
      refine lv_iload hx hb dX10_ruled_42 (lv_at hl 4 rfl) ?_
      refine lv_iconst (v := (-1 : Int32)) hx hb dX10_ruled_44 (by decide) ?_
      obtain ⟨x4, s3, h2, hf⟩ := bw_s hf
      refine cVWi (As := [.int y4, .int (-1 : Int32)]) (rest := []) X G kc_X10_485 (tX10_couldRule l E st _ hL  y4 (-1 : Int32) h2) (rcv X G (hL 500 rfl) (cO10 rfl) rfl) rfl rfl (rmk_le (by omega) (by decide)) rfl hl.1 rfl (Nat.le_of_ble_eq_true rfl) dX10_ruled_45 ⟨Nat.zero_le _, Nat.zero_le _⟩ (fun H locs G => ?_)
      refine lv_if_eq (tgt := 65) hx hb dX10_ruled_48 (by decide) (fun c5 => ?_) (fun c5 => ?_)
      · have hf := it_t hf c5
        obtain ⟨x6, ex6⟩ : ∃ y : Int32, y = (y4 + (1 : Int32)) := ⟨_, rfl⟩
        have hf := nm_s hf x6 ex6
        refine lv_iinc (k := 4) (v := x6) (lv' := [(4, .int x6), (0, .ref (eq E 500)), (1, .int p1), (2, .int y2), (3, .int y3)]) hx hb dX10_ruled_65 hl rfl (by rw [ex6]; rfl) (by decide) rfl (fun ls hl => ?_)
        refine lv_goto (tgt := 32) hx hb dX10_ruled_68 (by decide) ?_
        exact ih y2 y3 x6 s3 _ _ hf G _ (lv_sub hl [1, 2, 3, 4, 0] rfl)
      · have hf := it_f hf c5
        refine lv_iload_n hx hb dX10_ruled_51 rfl (lv_at hl 2 rfl) ?_
        refine lv_if_ne (tgt := 60) hx hb dX10_ruled_52 (by decide) (fun c6 => ?_) (fun c6 => ?_)
        · have hf := it_f hf c6
          refine lv_iload_n hx hb dX10_ruled_60 rfl (lv_at hl 3 rfl) ?_
          exact wX10_ruled_B61 hL X hr hlk ih y2 y4 y3 s3 _ _ hf G _ (lv_sub hl [0, 1, 2, 4] rfl)
        · have hf := it_t hf c6
          refine lv_iload hx hb dX10_ruled_55 (lv_at hl 4 rfl) ?_
          refine lv_goto (tgt := 61) hx hb dX10_ruled_57 (by decide) ?_
          exact wX10_ruled_B61 hL X hr hlk ih y2 y4 y4 s3 _ _ hf G _ (lv_sub hl [0, 1, 2, 4] rfl)
def fX10_ruled (p1 : Int32) (st : St) : Option (Int32 × St) := if (st.1 500 28) = 0 then (some ((-3 : Int32), st)) else (br (fX10_in (Int32.toInt64 p1) (0 : Int64) (1 : Int64)) (fun x3 => if x3 = 0 then (some ((-3 : Int32), st)) else (br (fX10_keepsAll st) (fun s6 => fX10_ruled_L32 p1 10000 (0 : Int32) (-2 : Int32) (-1 : Int32) s6))))
set_option maxRecDepth 100000 in
theorem tX10_ruled (l : Launch) (E : Ev) (st : St) (sz : Nat) (hL : ∀ k, fxM k = true → k ∈ eL E) (p1 : Int32) {res : (Int32 × St)} (hf : fX10_ruled  p1 st = some res) : Met l yX10_ruled (.code yX10_ruled cX10_ruled 5 (some .int) :: uW) (rmk 8) (va_Pc [.ref (eq E 500), .int p1] (Pre E st sz)) (QWi E res.2 sz res.1) 0 0 (Af E sz) := by
  refine Met_in (by decide) (Nat.le_of_ble_eq_true rfl) ?_
  intro p e s m below meth c X hr hlk hz G ls hl
  have hx := X.1.1
  have hb := X.1.2.1
  have hl : lv_has ls 5 [(0, .ref (eq E 500)), (1, .int p1)] := hl
  unfold fX10_ruled at hf
  refine lv_aload_n hx hb dX10_ruled_0 rfl (lv_at hl 0 rfl) ?_
  refine gf10 X G (hL 500 rfl) rfl 28 (by decide) rfl kf_X10_327 iwX10 dX10_ruled_1 ?_
  refine lv_if_eq (tgt := 17) hx hb dX10_ruled_4 (by decide) (fun c1 => ?_) (fun c1 => ?_)
  · have hf := it_t hf c1
    refine lv_bipush (v := (-3 : Int32)) hx hb dX10_ruled_17 (by decide) ?_
    exact rtWi X hlk G hr (so_i hf) dX10_ruled_19
  · have hf := it_f hf c1
    refine lv_iload_n hx hb dX10_ruled_7 rfl (lv_at hl 1 rfl) ?_
    refine lv_i2l hx hb dX10_ruled_8 rfl ?_
    refine lv_lconst (v := (0 : Int64)) hx hb dX10_ruled_9 (by decide) ?_
    refine lv_lconst (v := (1 : Int64)) hx hb dX10_ruled_10 (by decide) ?_
    obtain ⟨x3, h2, hf⟩ := br_s hf
    refine cSRi (As := [.long (Int32.toInt64 p1), .long (0 : Int64), .long (1 : Int64)]) (rest := []) X G kc_X10_152 (tX10_in l E st _  (Int32.toInt64 p1) (0 : Int64) (1 : Int64) h2) rfl rfl (rmk_le (by omega) (by decide)) rfl hl.1 rfl (Nat.le_of_ble_eq_true rfl) dX10_ruled_11 ⟨Nat.zero_le _, Nat.zero_le _⟩ ?_
    refine lv_if_ne (tgt := 20) hx hb dX10_ruled_14 (by decide) (fun c4 => ?_) (fun c4 => ?_)
    · have hf := it_f hf c4
      refine lv_aload_n hx hb dX10_ruled_20 rfl (lv_at hl 0 rfl) ?_
      obtain ⟨s6, h5, hf⟩ := br_s hf
      refine cVWv (As := []) (rest := []) X G kc_X10_448 (tX10_keepsAll l E st _ hL   h5) (rcv X G (hL 500 rfl) (cO10 rfl) rfl) rfl rfl (rmk_le (by omega) (by decide)) rfl hl.1 rfl (Nat.le_of_ble_eq_true rfl) dX10_ruled_21 ⟨Nat.zero_le _, Nat.zero_le _⟩ (fun H locs G => ?_)
      refine lv_iconst (v := (0 : Int32)) hx hb dX10_ruled_24 (by decide) ?_
      refine lv_istore_n (lv' := [(2, .int (0 : Int32)), (0, .ref (eq E 500)), (1, .int p1)]) hx hb dX10_ruled_25 rfl hl (by decide) rfl (fun ls hl => ?_)
      refine lv_bipush (v := (-2 : Int32)) hx hb dX10_ruled_26 (by decide) ?_
      refine lv_istore_n (lv' := [(3, .int (-2 : Int32)), (2, .int (0 : Int32)), (0, .ref (eq E 500)), (1, .int p1)]) hx hb dX10_ruled_28 rfl hl (by decide) rfl (fun ls hl => ?_)
      refine lv_iconst (v := (-1 : Int32)) hx hb dX10_ruled_29 (by decide) ?_
      refine lv_istore (lv' := [(4, .int (-1 : Int32)), (3, .int (-2 : Int32)), (2, .int (0 : Int32)), (0, .ref (eq E 500)), (1, .int p1)]) hx hb dX10_ruled_30 hl (by decide) rfl (fun ls hl => ?_)
      exact wX10_ruled_L32 hL X hr hlk 10000 (0 : Int32) (-2 : Int32) (-1 : Int32) s6 _ _ hf G _ (lv_sub hl [3, 4, 2, 1, 0] rfl)
    · have hf := it_t hf c4
      refine lv_bipush (v := (-3 : Int32)) hx hb dX10_ruled_17 (by decide) ?_
      exact rtWi X hlk G hr (so_i hf) dX10_ruled_19
