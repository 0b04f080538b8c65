theorem dX5_readFact_0 : decode cX5_readFact 0 = .ok (.aload_n 0, 1) := by decide +kernel
theorem dX5_readFact_1 : decode cX5_readFact 1 = .ok (.getfield 25, 3) := by decide +kernel
theorem dX5_readFact_4 : decode cX5_readFact 4 = .ok (.getfield 43, 3) := by decide +kernel
theorem dX5_readFact_7 : decode cX5_readFact 7 = .ok (.istore_n 2, 1) := by decide +kernel
theorem dX5_readFact_8 : decode cX5_readFact 8 = .ok (.iload_n 2, 1) := by decide +kernel
theorem dX5_readFact_9 : decode cX5_readFact 9 = .ok (.bipush 20, 2) := by decide +kernel
theorem dX5_readFact_11 : decode cX5_readFact 11 = .ok (.if_icmp .eq 9, 3) := by decide +kernel
theorem dX5_readFact_14 : decode cX5_readFact 14 = .ok (.iload_n 2, 1) := by decide +kernel
theorem dX5_readFact_15 : decode cX5_readFact 15 = .ok (.bipush 31, 2) := by decide +kernel
theorem dX5_readFact_17 : decode cX5_readFact 17 = .ok (.if_icmp .ne 26, 3) := by decide +kernel
theorem dX5_readFact_20 : decode cX5_readFact 20 = .ok (.iload_n 1, 1) := by decide +kernel
theorem dX5_readFact_21 : decode cX5_readFact 21 = .ok (.bipush 10, 2) := by decide +kernel
theorem dX5_readFact_23 : decode cX5_readFact 23 = .ok (.if_icmp .ge 14, 3) := by decide +kernel
theorem dX5_readFact_26 : decode cX5_readFact 26 = .ok (.aload_n 0, 1) := by decide +kernel
theorem dX5_readFact_27 : decode cX5_readFact 27 = .ok (.iload_n 2, 1) := by decide +kernel
theorem dX5_readFact_28 : decode cX5_readFact 28 = .ok (.iload_n 1, 1) := by decide +kernel
theorem dX5_readFact_29 : decode cX5_readFact 29 = .ok (.iconst 1, 1) := by decide +kernel
theorem dX5_readFact_30 : decode cX5_readFact 30 = .ok (.iadd, 1) := by decide +kernel
theorem dX5_readFact_31 : decode cX5_readFact 31 = .ok (.invokevirtual 70, 3) := by decide +kernel
theorem dX5_readFact_34 : decode cX5_readFact 34 = .ok (.goto 8, 3) := by decide +kernel
theorem dX5_readFact_37 : decode cX5_readFact 37 = .ok (.aload_n 0, 1) := by decide +kernel
theorem dX5_readFact_38 : decode cX5_readFact 38 = .ok (.iconst 2, 1) := by decide +kernel
theorem dX5_readFact_39 : decode cX5_readFact 39 = .ok (.invokevirtual 57, 3) := by decide +kernel
theorem dX5_readFact_42 : decode cX5_readFact 42 = .ok (.ireturn, 1) := by decide +kernel
theorem dX5_readFact_43 : decode cX5_readFact 43 = .ok (.aload_n 0, 1) := by decide +kernel
theorem dX5_readFact_44 : decode cX5_readFact 44 = .ok (.invokevirtual 36, 3) := by decide +kernel
theorem dX5_readFact_47 : decode cX5_readFact 47 = .ok (.ifCond .ne 5, 3) := by decide +kernel
theorem dX5_readFact_50 : decode cX5_readFact 50 = .ok (.iconst 0, 1) := by decide +kernel
theorem dX5_readFact_51 : decode cX5_readFact 51 = .ok (.ireturn, 1) := by decide +kernel
theorem dX5_readFact_52 : decode cX5_readFact 52 = .ok (.aload_n 0, 1) := by decide +kernel
theorem dX5_readFact_53 : decode cX5_readFact 53 = .ok (.getfield 25, 3) := by decide +kernel
theorem dX5_readFact_56 : decode cX5_readFact 56 = .ok (.getfield 43, 3) := by decide +kernel
theorem dX5_readFact_59 : decode cX5_readFact 59 = .ok (.istore_n 3, 1) := by decide +kernel
theorem dX5_readFact_60 : decode cX5_readFact 60 = .ok (.aload_n 0, 1) := by decide +kernel
theorem dX5_readFact_61 : decode cX5_readFact 61 = .ok (.invokevirtual 74, 3) := by decide +kernel
theorem dX5_readFact_64 : decode cX5_readFact 64 = .ok (.ifCond .eq 10, 3) := by decide +kernel
theorem dX5_readFact_67 : decode cX5_readFact 67 = .ok (.aload_n 0, 1) := by decide +kernel
theorem dX5_readFact_68 : decode cX5_readFact 68 = .ok (.invokevirtual 36, 3) := by decide +kernel
theorem dX5_readFact_71 : decode cX5_readFact 71 = .ok (.ifCond .ne 5, 3) := by decide +kernel
theorem dX5_readFact_74 : decode cX5_readFact 74 = .ok (.iconst 0, 1) := by decide +kernel
theorem dX5_readFact_75 : decode cX5_readFact 75 = .ok (.ireturn, 1) := by decide +kernel
theorem dX5_readFact_76 : decode cX5_readFact 76 = .ok (.aload_n 0, 1) := by decide +kernel
theorem dX5_readFact_77 : decode cX5_readFact 77 = .ok (.getfield 12, 3) := by decide +kernel
theorem dX5_readFact_80 : decode cX5_readFact 80 = .ok (.iload_n 3, 1) := by decide +kernel
theorem dX5_readFact_81 : decode cX5_readFact 81 = .ok (.ineg, 1) := by decide +kernel
theorem dX5_readFact_82 : decode cX5_readFact 82 = .ok (.invokevirtual 63, 3) := by decide +kernel
theorem dX5_readFact_85 : decode cX5_readFact 85 = .ok (.iconst 1, 1) := by decide +kernel
theorem dX5_readFact_86 : decode cX5_readFact 86 = .ok (.ireturn, 1) := by decide +kernel
theorem dX5_read_0 : decode cX5_read 0 = .ok (.aload_n 0, 1) := by decide +kernel
theorem dX5_read_1 : decode cX5_read 1 = .ok (.getfield 12, 3) := by decide +kernel
theorem dX5_read_4 : decode cX5_read 4 = .ok (.invokevirtual 29, 3) := by decide +kernel
theorem dX5_read_7 : decode cX5_read 7 = .ok (.aload_n 0, 1) := by decide +kernel
theorem dX5_read_8 : decode cX5_read 8 = .ok (.iconst 0, 1) := by decide +kernel
theorem dX5_read_9 : decode cX5_read 9 = .ok (.putfield 18, 3) := by decide +kernel
theorem dX5_read_12 : decode cX5_read 12 = .ok (.aload_n 0, 1) := by decide +kernel
theorem dX5_read_13 : decode cX5_read 13 = .ok (.iconst 0, 1) := by decide +kernel
theorem dX5_read_14 : decode cX5_read 14 = .ok (.putfield 22, 3) := by decide +kernel
theorem dX5_read_17 : decode cX5_read 17 = .ok (.iconst 0, 1) := by decide +kernel
theorem dX5_read_18 : decode cX5_read 18 = .ok (.istore_n 1, 1) := by decide +kernel
theorem dX5_read_19 : decode cX5_read 19 = .ok (.iload_n 1, 1) := by decide +kernel
theorem dX5_read_20 : decode cX5_read 20 = .ok (.bipush 12, 2) := by decide +kernel
theorem dX5_read_22 : decode cX5_read 22 = .ok (.if_icmp .gt 119, 3) := by decide +kernel
theorem dX5_read_25 : decode cX5_read 25 = .ok (.aload_n 0, 1) := by decide +kernel
theorem dX5_read_26 : decode cX5_read 26 = .ok (.iload_n 1, 1) := by decide +kernel
theorem dX5_read_27 : decode cX5_read 27 = .ok (.invokevirtual 32, 3) := by decide +kernel
theorem dX5_read_30 : decode cX5_read 30 = .ok (.ifCond .eq 10, 3) := by decide +kernel
theorem dX5_read_33 : decode cX5_read 33 = .ok (.aload_n 0, 1) := by decide +kernel
theorem dX5_read_34 : decode cX5_read 34 = .ok (.invokevirtual 36, 3) := by decide +kernel
theorem dX5_read_37 : decode cX5_read 37 = .ok (.ifCond .ne 8, 3) := by decide +kernel
theorem dX5_read_40 : decode cX5_read 40 = .ok (.aload_n 0, 1) := by decide +kernel
theorem dX5_read_41 : decode cX5_read 41 = .ok (.getfield 22, 3) := by decide +kernel
theorem dX5_read_44 : decode cX5_read 44 = .ok (.ireturn, 1) := by decide +kernel
theorem dX5_read_45 : decode cX5_read 45 = .ok (.aload_n 0, 1) := by decide +kernel
theorem dX5_read_46 : decode cX5_read 46 = .ok (.getfield 12, 3) := by decide +kernel
theorem dX5_read_49 : decode cX5_read 49 = .ok (.invokevirtual 40, 3) := by decide +kernel
theorem dX5_read_52 : decode cX5_read 52 = .ok (.aload_n 0, 1) := by decide +kernel
theorem dX5_read_53 : decode cX5_read 53 = .ok (.getfield 25, 3) := by decide +kernel
theorem dX5_read_56 : decode cX5_read 56 = .ok (.getfield 43, 3) := by decide +kernel
theorem dX5_read_59 : decode cX5_read 59 = .ok (.bipush 17, 2) := by decide +kernel
theorem dX5_read_61 : decode cX5_read 61 = .ok (.if_icmp .ne 23, 3) := by decide +kernel
theorem dX5_read_64 : decode cX5_read 64 = .ok (.aload_n 0, 1) := by decide +kernel
theorem dX5_read_65 : decode cX5_read 65 = .ok (.getfield 25, 3) := by decide +kernel
theorem dX5_read_68 : decode cX5_read 68 = .ok (.invokevirtual 48, 3) := by decide +kernel
theorem dX5_read_71 : decode cX5_read 71 = .ok (.aload_n 0, 1) := by decide +kernel
theorem dX5_read_72 : decode cX5_read 72 = .ok (.iconst 0, 1) := by decide +kernel
theorem dX5_read_73 : decode cX5_read 73 = .ok (.invokevirtual 51, 3) := by decide +kernel
theorem dX5_read_76 : decode cX5_read 76 = .ok (.ifCond .ne 8, 3) := by decide +kernel
theorem dX5_read_79 : decode cX5_read 79 = .ok (.aload_n 0, 1) := by decide +kernel
theorem dX5_read_80 : decode cX5_read 80 = .ok (.getfield 22, 3) := by decide +kernel
theorem dX5_read_83 : decode cX5_read 83 = .ok (.ireturn, 1) := by decide +kernel
theorem dX5_read_84 : decode cX5_read 84 = .ok (.aload_n 0, 1) := by decide +kernel
theorem dX5_read_85 : decode cX5_read 85 = .ok (.getfield 12, 3) := by decide +kernel
theorem dX5_read_88 : decode cX5_read 88 = .ok (.invokevirtual 54, 3) := by decide +kernel
theorem dX5_read_91 : decode cX5_read 91 = .ok (.aload_n 0, 1) := by decide +kernel
theorem dX5_read_92 : decode cX5_read 92 = .ok (.getfield 25, 3) := by decide +kernel
theorem dX5_read_95 : decode cX5_read 95 = .ok (.getfield 43, 3) := by decide +kernel
theorem dX5_read_98 : decode cX5_read 98 = .ok (.bipush 23, 2) := by decide +kernel
theorem dX5_read_100 : decode cX5_read 100 = .ok (.if_icmp .ne 5, 3) := by decide +kernel
theorem dX5_read_103 : decode cX5_read 103 = .ok (.iconst 0, 1) := by decide +kernel
theorem dX5_read_104 : decode cX5_read 104 = .ok (.ireturn, 1) := by decide +kernel
theorem dX5_read_105 : decode cX5_read 105 = .ok (.aload_n 0, 1) := by decide +kernel
theorem dX5_read_106 : decode cX5_read 106 = .ok (.getfield 25, 3) := by decide +kernel
theorem dX5_read_109 : decode cX5_read 109 = .ok (.getfield 43, 3) := by decide +kernel
theorem dX5_read_112 : decode cX5_read 112 = .ok (.bipush 25, 2) := by decide +kernel
theorem dX5_read_114 : decode cX5_read 114 = .ok (.if_icmp .eq 14, 3) := by decide +kernel
theorem dX5_read_117 : decode cX5_read 117 = .ok (.aload_n 0, 1) := by decide +kernel
theorem dX5_read_118 : decode cX5_read 118 = .ok (.iconst 0, 1) := by decide +kernel
theorem dX5_read_119 : decode cX5_read 119 = .ok (.invokevirtual 57, 3) := by decide +kernel
theorem dX5_read_122 : decode cX5_read 122 = .ok (.pop, 1) := by decide +kernel
theorem dX5_read_123 : decode cX5_read 123 = .ok (.aload_n 0, 1) := by decide +kernel
theorem dX5_read_124 : decode cX5_read 124 = .ok (.getfield 22, 3) := by decide +kernel
theorem dX5_read_127 : decode cX5_read 127 = .ok (.ireturn, 1) := by decide +kernel
theorem dX5_read_128 : decode cX5_read 128 = .ok (.aload_n 0, 1) := by decide +kernel
theorem dX5_read_129 : decode cX5_read 129 = .ok (.getfield 25, 3) := by decide +kernel
theorem dX5_read_132 : decode cX5_read 132 = .ok (.invokevirtual 48, 3) := by decide +kernel
theorem dX5_read_135 : decode cX5_read 135 = .ok (.iinc 1 1, 3) := by decide +kernel
theorem dX5_read_138 : decode cX5_read 138 = .ok (.goto (-119), 3) := by decide +kernel
theorem dX5_read_141 : decode cX5_read 141 = .ok (.aload_n 0, 1) := by decide +kernel
theorem dX5_read_142 : decode cX5_read 142 = .ok (.getfield 22, 3) := by decide +kernel
theorem dX5_read_145 : decode cX5_read 145 = .ok (.ireturn, 1) := by decide +kernel
theorem dX9_putBytes_0 : decode cX9_putBytes 0 = .ok (.bipush 24, 2) := by decide +kernel
theorem dX9_putBytes_2 : decode cX9_putBytes 2 = .ok (.istore_n 2, 1) := by decide +kernel
theorem dX9_putBytes_3 : decode cX9_putBytes 3 = .ok (.iload_n 2, 1) := by decide +kernel
theorem dX9_putBytes_4 : decode cX9_putBytes 4 = .ok (.ifCond .lt 52, 3) := by decide +kernel
theorem dX9_putBytes_7 : decode cX9_putBytes 7 = .ok (.aload_n 0, 1) := by decide +kernel
theorem dX9_putBytes_8 : decode cX9_putBytes 8 = .ok (.getfield 13, 3) := by decide +kernel
theorem dX9_putBytes_11 : decode cX9_putBytes 11 = .ok (.ifCond .lt 39, 3) := by decide +kernel
theorem dX9_putBytes_14 : decode cX9_putBytes 14 = .ok (.aload_n 0, 1) := by decide +kernel
theorem dX9_putBytes_15 : decode cX9_putBytes 15 = .ok (.getfield 13, 3) := by decide +kernel
theorem dX9_putBytes_18 : decode cX9_putBytes 18 = .ok (.sipush 400, 3) := by decide +kernel
theorem dX9_putBytes_21 : decode cX9_putBytes 21 = .ok (.if_icmp .ge 29, 3) := by decide +kernel
theorem dX9_putBytes_24 : decode cX9_putBytes 24 = .ok (.aload_n 0, 1) := by decide +kernel
theorem dX9_putBytes_25 : decode cX9_putBytes 25 = .ok (.getfield 9, 3) := by decide +kernel
theorem dX9_putBytes_28 : decode cX9_putBytes 28 = .ok (.aload_n 0, 1) := by decide +kernel
theorem dX9_putBytes_29 : decode cX9_putBytes 29 = .ok (.getfield 13, 3) := by decide +kernel
theorem dX9_putBytes_32 : decode cX9_putBytes 32 = .ok (.iload_n 1, 1) := by decide +kernel
theorem dX9_putBytes_33 : decode cX9_putBytes 33 = .ok (.iload_n 2, 1) := by decide +kernel
theorem dX9_putBytes_34 : decode cX9_putBytes 34 = .ok (.iushr, 1) := by decide +kernel
theorem dX9_putBytes_35 : decode cX9_putBytes 35 = .ok (.sipush 255, 3) := by decide +kernel
theorem dX9_putBytes_38 : decode cX9_putBytes 38 = .ok (.iand, 1) := by decide +kernel
theorem dX9_putBytes_39 : decode cX9_putBytes 39 = .ok (.iastore, 1) := by decide +kernel
theorem dX9_putBytes_40 : decode cX9_putBytes 40 = .ok (.aload_n 0, 1) := by decide +kernel
theorem dX9_putBytes_41 : decode cX9_putBytes 41 = .ok (.dup, 1) := by decide +kernel
theorem dX9_putBytes_42 : decode cX9_putBytes 42 = .ok (.getfield 13, 3) := by decide +kernel
theorem dX9_putBytes_45 : decode cX9_putBytes 45 = .ok (.iconst 1, 1) := by decide +kernel
theorem dX9_putBytes_46 : decode cX9_putBytes 46 = .ok (.iadd, 1) := by decide +kernel
theorem dX9_putBytes_47 : decode cX9_putBytes 47 = .ok (.putfield 13, 3) := by decide +kernel
theorem dX9_putBytes_50 : decode cX9_putBytes 50 = .ok (.iinc 2 (-8), 3) := by decide +kernel
theorem dX9_putBytes_53 : decode cX9_putBytes 53 = .ok (.goto (-50), 3) := by decide +kernel
theorem dX9_putBytes_56 : decode cX9_putBytes 56 = .ok (.return_, 1) := by decide +kernel
theorem dX9_feed_0 : decode cX9_feed 0 = .ok (.aload_n 0, 1) := by decide +kernel
theorem dX9_feed_1 : decode cX9_feed 1 = .ok (.getfield 13, 3) := by decide +kernel
theorem dX9_feed_4 : decode cX9_feed 4 = .ok (.sipush 380, 3) := by decide +kernel
theorem dX9_feed_7 : decode cX9_feed 7 = .ok (.if_icmp .le 5, 3) := by decide +kernel
theorem dX9_feed_10 : decode cX9_feed 10 = .ok (.iconst (-1), 1) := by decide +kernel
theorem dX9_feed_11 : decode cX9_feed 11 = .ok (.ireturn, 1) := by decide +kernel
theorem dX9_feed_12 : decode cX9_feed 12 = .ok (.aload_n 0, 1) := by decide +kernel
theorem dX9_feed_13 : decode cX9_feed 13 = .ok (.iload_n 1, 1) := by decide +kernel
theorem dX9_feed_14 : decode cX9_feed 14 = .ok (.invokevirtual 94, 3) := by decide +kernel
theorem dX9_feed_17 : decode cX9_feed 17 = .ok (.aload_n 0, 1) := by decide +kernel
theorem dX9_feed_18 : decode cX9_feed 18 = .ok (.iload_n 2, 1) := by decide +kernel
theorem dX9_feed_19 : decode cX9_feed 19 = .ok (.invokevirtual 94, 3) := by decide +kernel
theorem dX9_feed_22 : decode cX9_feed 22 = .ok (.aload_n 0, 1) := by decide +kernel
theorem dX9_feed_23 : decode cX9_feed 23 = .ok (.iload_n 3, 1) := by decide +kernel
theorem dX9_feed_24 : decode cX9_feed 24 = .ok (.invokevirtual 94, 3) := by decide +kernel
theorem dX9_feed_27 : decode cX9_feed 27 = .ok (.aload_n 0, 1) := by decide +kernel
theorem dX9_feed_28 : decode cX9_feed 28 = .ok (.iload 4, 2) := by decide +kernel
theorem dX9_feed_30 : decode cX9_feed 30 = .ok (.invokevirtual 94, 3) := by decide +kernel
theorem dX9_feed_33 : decode cX9_feed 33 = .ok (.aload_n 0, 1) := by decide +kernel
theorem dX9_feed_34 : decode cX9_feed 34 = .ok (.iload 5, 2) := by decide +kernel
theorem dX9_feed_36 : decode cX9_feed 36 = .ok (.invokevirtual 94, 3) := by decide +kernel
theorem dX9_feed_39 : decode cX9_feed 39 = .ok (.aload_n 0, 1) := by decide +kernel
theorem dX9_feed_40 : decode cX9_feed 40 = .ok (.getfield 13, 3) := by decide +kernel
theorem dX9_feed_43 : decode cX9_feed 43 = .ok (.ireturn, 1) := by decide +kernel
theorem dX9_end_0 : decode cX9_end 0 = .ok (.iload_n 1, 1) := by decide +kernel
theorem dX9_end_1 : decode cX9_end 1 = .ok (.ifCond .lt 11, 3) := by decide +kernel
theorem dX9_end_4 : decode cX9_end 4 = .ok (.iload_n 1, 1) := by decide +kernel
theorem dX9_end_5 : decode cX9_end 5 = .ok (.aload_n 0, 1) := by decide +kernel
theorem dX9_end_6 : decode cX9_end 6 = .ok (.getfield 13, 3) := by decide +kernel
theorem dX9_end_9 : decode cX9_end 9 = .ok (.if_icmp .le 5, 3) := by decide +kernel
theorem dX9_end_12 : decode cX9_end 12 = .ok (.iconst (-1), 1) := by decide +kernel
theorem dX9_end_13 : decode cX9_end 13 = .ok (.ireturn, 1) := by decide +kernel
theorem dX9_end_14 : decode cX9_end 14 = .ok (.aload_n 0, 1) := by decide +kernel
theorem dX9_end_15 : decode cX9_end 15 = .ok (.iload_n 1, 1) := by decide +kernel
theorem dX9_end_16 : decode cX9_end 16 = .ok (.putfield 13, 3) := by decide +kernel
theorem dX9_end_19 : decode cX9_end 19 = .ok (.iload_n 1, 1) := by decide +kernel
theorem dX9_end_20 : decode cX9_end 20 = .ok (.ireturn, 1) := by decide +kernel
theorem dX9_duchy_0 : decode cX9_duchy 0 = .ok (.aload_n 0, 1) := by decide +kernel
theorem dX9_duchy_1 : decode cX9_duchy 1 = .ok (.getfield 20, 3) := by decide +kernel
theorem dX9_duchy_4 : decode cX9_duchy 4 = .ok (.aload_n 0, 1) := by decide +kernel
theorem dX9_duchy_5 : decode cX9_duchy 5 = .ok (.getfield 9, 3) := by decide +kernel
theorem dX9_duchy_8 : decode cX9_duchy 8 = .ok (.aload_n 0, 1) := by decide +kernel
theorem dX9_duchy_9 : decode cX9_duchy 9 = .ok (.getfield 13, 3) := by decide +kernel
theorem dX9_duchy_12 : decode cX9_duchy 12 = .ok (.invokevirtual 98, 3) := by decide +kernel
theorem dX9_duchy_15 : decode cX9_duchy 15 = .ok (.aload_n 0, 1) := by decide +kernel
theorem dX9_duchy_16 : decode cX9_duchy 16 = .ok (.iconst 0, 1) := by decide +kernel
theorem dX9_duchy_17 : decode cX9_duchy 17 = .ok (.putfield 13, 3) := by decide +kernel
theorem dX9_duchy_20 : decode cX9_duchy 20 = .ok (.aload_n 0, 1) := by decide +kernel
theorem dX9_duchy_21 : decode cX9_duchy 21 = .ok (.getfield 29, 3) := by decide +kernel
theorem dX9_duchy_24 : decode cX9_duchy 24 = .ok (.invokevirtual 102, 3) := by decide +kernel
theorem dX9_duchy_27 : decode cX9_duchy 27 = .ok (.istore_n 1, 1) := by decide +kernel
theorem dX9_duchy_28 : decode cX9_duchy 28 = .ok (.iload_n 1, 1) := by decide +kernel
theorem dX9_duchy_29 : decode cX9_duchy 29 = .ok (.ifCond .eq 8, 3) := by decide +kernel
theorem dX9_duchy_32 : decode cX9_duchy 32 = .ok (.bipush (-2), 2) := by decide +kernel
theorem dX9_duchy_34 : decode cX9_duchy 34 = .ok (.iload_n 1, 1) := by decide +kernel
theorem dX9_duchy_35 : decode cX9_duchy 35 = .ok (.isub, 1) := by decide +kernel
theorem dX9_duchy_36 : decode cX9_duchy 36 = .ok (.ireturn, 1) := by decide +kernel
theorem dX9_duchy_37 : decode cX9_duchy 37 = .ok (.aload_n 0, 1) := by decide +kernel
theorem dX9_duchy_38 : decode cX9_duchy 38 = .ok (.getfield 52, 3) := by decide +kernel
theorem dX9_duchy_41 : decode cX9_duchy 41 = .ok (.aload_n 0, 1) := by decide +kernel
theorem dX9_duchy_42 : decode cX9_duchy 42 = .ok (.getfield 29, 3) := by decide +kernel
theorem dX9_duchy_45 : decode cX9_duchy 45 = .ok (.getfield 105, 3) := by decide +kernel
theorem dX9_duchy_48 : decode cX9_duchy 48 = .ok (.invokevirtual 108, 3) := by decide +kernel
theorem dX9_duchy_51 : decode cX9_duchy 51 = .ok (.aload_n 0, 1) := by decide +kernel
theorem dX9_duchy_52 : decode cX9_duchy 52 = .ok (.getfield 52, 3) := by decide +kernel
theorem dX9_duchy_55 : decode cX9_duchy 55 = .ok (.getfield 62, 3) := by decide +kernel
theorem dX9_duchy_58 : decode cX9_duchy 58 = .ok (.getfield 111, 3) := by decide +kernel
theorem dX9_duchy_61 : decode cX9_duchy 61 = .ok (.ireturn, 1) := by decide +kernel
theorem dX9_force_0 : decode cX9_force 0 = .ok (.iload_n 1, 1) := by decide +kernel
theorem dX9_force_1 : decode cX9_force 1 = .ok (.iconst (-1), 1) := by decide +kernel
theorem dX9_force_2 : decode cX9_force 2 = .ok (.if_icmp .lt 11, 3) := by decide +kernel
theorem dX9_force_5 : decode cX9_force 5 = .ok (.iload_n 1, 1) := by decide +kernel
theorem dX9_force_6 : decode cX9_force 6 = .ok (.aload_n 0, 1) := by decide +kernel
theorem dX9_force_7 : decode cX9_force 7 = .ok (.getfield 46, 3) := by decide +kernel
theorem dX9_force_10 : decode cX9_force 10 = .ok (.if_icmp .lt 6, 3) := by decide +kernel
theorem dX9_force_13 : decode cX9_force 13 = .ok (.bipush (-2), 2) := by decide +kernel
theorem dX9_force_15 : decode cX9_force 15 = .ok (.ireturn, 1) := by decide +kernel
theorem dX9_force_16 : decode cX9_force 16 = .ok (.aload_n 0, 1) := by decide +kernel
theorem dX9_force_17 : decode cX9_force 17 = .ok (.getfield 52, 3) := by decide +kernel
theorem dX9_force_20 : decode cX9_force 20 = .ok (.getfield 121, 3) := by decide +kernel
theorem dX9_force_23 : decode cX9_force 23 = .ok (.istore_n 2, 1) := by decide +kernel
theorem dX9_force_24 : decode cX9_force 24 = .ok (.aload_n 0, 1) := by decide +kernel
theorem dX9_force_25 : decode cX9_force 25 = .ok (.getfield 52, 3) := by decide +kernel
theorem dX9_force_28 : decode cX9_force 28 = .ok (.iload_n 1, 1) := by decide +kernel
theorem dX9_force_29 : decode cX9_force 29 = .ok (.putfield 121, 3) := by decide +kernel
theorem dX9_force_32 : decode cX9_force 32 = .ok (.iload_n 2, 1) := by decide +kernel
theorem dX9_force_33 : decode cX9_force 33 = .ok (.ireturn, 1) := by decide +kernel
theorem dX9_isHouse_0 : decode cX9_isHouse 0 = .ok (.iload_n 1, 1) := by decide +kernel
theorem dX9_isHouse_1 : decode cX9_isHouse 1 = .ok (.ifCond .lt 21, 3) := by decide +kernel
theorem dX9_isHouse_4 : decode cX9_isHouse 4 = .ok (.iload_n 1, 1) := by decide +kernel
theorem dX9_isHouse_5 : decode cX9_isHouse 5 = .ok (.aload_n 0, 1) := by decide +kernel
theorem dX9_isHouse_6 : decode cX9_isHouse 6 = .ok (.getfield 52, 3) := by decide +kernel
theorem dX9_isHouse_9 : decode cX9_isHouse 9 = .ok (.getfield 62, 3) := by decide +kernel
theorem dX9_isHouse_12 : decode cX9_isHouse 12 = .ok (.getfield 111, 3) := by decide +kernel
theorem dX9_isHouse_15 : decode cX9_isHouse 15 = .ok (.if_icmp .ge 7, 3) := by decide +kernel
theorem dX9_isHouse_18 : decode cX9_isHouse 18 = .ok (.iconst 1, 1) := by decide +kernel
theorem dX9_isHouse_19 : decode cX9_isHouse 19 = .ok (.goto 4, 3) := by decide +kernel
theorem dX9_isHouse_22 : decode cX9_isHouse 22 = .ok (.iconst 0, 1) := by decide +kernel
theorem dX9_isHouse_23 : decode cX9_isHouse 23 = .ok (.ireturn, 1) := by decide +kernel
theorem dX9_isFrozen_0 : decode cX9_isFrozen 0 = .ok (.aload_n 0, 1) := by decide +kernel
theorem dX9_isFrozen_1 : decode cX9_isFrozen 1 = .ok (.getfield 52, 3) := by decide +kernel
theorem dX9_isFrozen_4 : decode cX9_isFrozen 4 = .ok (.getfield 128, 3) := by decide +kernel
theorem dX9_isFrozen_7 : decode cX9_isFrozen 7 = .ok (.bipush 38, 2) := by decide +kernel
theorem dX9_isFrozen_9 : decode cX9_isFrozen 9 = .ok (.iaload, 1) := by decide +kernel
theorem dX9_isFrozen_10 : decode cX9_isFrozen 10 = .ok (.iload_n 1, 1) := by decide +kernel
theorem dX9_isFrozen_11 : decode cX9_isFrozen 11 = .ok (.ishr, 1) := by decide +kernel
theorem dX9_isFrozen_12 : decode cX9_isFrozen 12 = .ok (.iconst 1, 1) := by decide +kernel
theorem dX9_isFrozen_13 : decode cX9_isFrozen 13 = .ok (.iand, 1) := by decide +kernel
theorem dX9_isFrozen_14 : decode cX9_isFrozen 14 = .ok (.ifCond .eq 7, 3) := by decide +kernel
theorem dX9_isFrozen_17 : decode cX9_isFrozen 17 = .ok (.iconst 1, 1) := by decide +kernel
theorem dX9_isFrozen_18 : decode cX9_isFrozen 18 = .ok (.goto 4, 3) := by decide +kernel
theorem dX9_isFrozen_21 : decode cX9_isFrozen 21 = .ok (.iconst 0, 1) := by decide +kernel
theorem dX9_isFrozen_22 : decode cX9_isFrozen 22 = .ok (.ireturn, 1) := by decide +kernel
theorem dX9_house_0 : decode cX9_house 0 = .ok (.aload_n 0, 1) := by decide +kernel
theorem dX9_house_1 : decode cX9_house 1 = .ok (.iload_n 1, 1) := by decide +kernel
theorem dX9_house_2 : decode cX9_house 2 = .ok (.invokevirtual 124, 3) := by decide +kernel
theorem dX9_house_5 : decode cX9_house 5 = .ok (.ifCond .ne 6, 3) := by decide +kernel
theorem dX9_house_8 : decode cX9_house 8 = .ok (.bipush (-2), 2) := by decide +kernel
theorem dX9_house_10 : decode cX9_house 10 = .ok (.ireturn, 1) := by decide +kernel
theorem dX9_house_11 : decode cX9_house 11 = .ok (.iload_n 2, 1) := by decide +kernel
theorem dX9_house_12 : decode cX9_house 12 = .ok (.tableswitch 135 0 6 #[44, 56, 69, 82, 95, 109, 122], 44) := by decide +kernel
theorem dX9_house_56 : decode cX9_house 56 = .ok (.aload_n 0, 1) := by decide +kernel
theorem dX9_house_57 : decode cX9_house 57 = .ok (.getfield 52, 3) := by decide +kernel
theorem dX9_house_60 : decode cX9_house 60 = .ok (.getfield 128, 3) := by decide +kernel
theorem dX9_house_63 : decode cX9_house 63 = .ok (.iconst 0, 1) := by decide +kernel
theorem dX9_house_64 : decode cX9_house 64 = .ok (.iload_n 1, 1) := by decide +kernel
theorem dX9_house_65 : decode cX9_house 65 = .ok (.iadd, 1) := by decide +kernel
theorem dX9_house_66 : decode cX9_house 66 = .ok (.iaload, 1) := by decide +kernel
theorem dX9_house_67 : decode cX9_house 67 = .ok (.ireturn, 1) := by decide +kernel
theorem dX9_house_68 : decode cX9_house 68 = .ok (.aload_n 0, 1) := by decide +kernel
theorem dX9_house_69 : decode cX9_house 69 = .ok (.getfield 52, 3) := by decide +kernel
theorem dX9_house_72 : decode cX9_house 72 = .ok (.getfield 128, 3) := by decide +kernel
theorem dX9_house_75 : decode cX9_house 75 = .ok (.bipush 8, 2) := by decide +kernel
theorem dX9_house_77 : decode cX9_house 77 = .ok (.iload_n 1, 1) := by decide +kernel
theorem dX9_house_78 : decode cX9_house 78 = .ok (.iadd, 1) := by decide +kernel
theorem dX9_house_79 : decode cX9_house 79 = .ok (.iaload, 1) := by decide +kernel
theorem dX9_house_80 : decode cX9_house 80 = .ok (.ireturn, 1) := by decide +kernel
theorem dX9_house_81 : decode cX9_house 81 = .ok (.aload_n 0, 1) := by decide +kernel
theorem dX9_house_82 : decode cX9_house 82 = .ok (.getfield 52, 3) := by decide +kernel
theorem dX9_house_85 : decode cX9_house 85 = .ok (.getfield 62, 3) := by decide +kernel
theorem dX9_house_88 : decode cX9_house 88 = .ok (.getfield 131, 3) := by decide +kernel
theorem dX9_house_91 : decode cX9_house 91 = .ok (.iload_n 1, 1) := by decide +kernel
theorem dX9_house_92 : decode cX9_house 92 = .ok (.iaload, 1) := by decide +kernel
theorem dX9_house_93 : decode cX9_house 93 = .ok (.ireturn, 1) := by decide +kernel
theorem dX9_house_94 : decode cX9_house 94 = .ok (.aload_n 0, 1) := by decide +kernel
theorem dX9_house_95 : decode cX9_house 95 = .ok (.getfield 52, 3) := by decide +kernel
theorem dX9_house_98 : decode cX9_house 98 = .ok (.getfield 128, 3) := by decide +kernel
theorem dX9_house_101 : decode cX9_house 101 = .ok (.bipush 16, 2) := by decide +kernel
theorem dX9_house_103 : decode cX9_house 103 = .ok (.iload_n 1, 1) := by decide +kernel
theorem dX9_house_104 : decode cX9_house 104 = .ok (.iadd, 1) := by decide +kernel
theorem dX9_house_105 : decode cX9_house 105 = .ok (.iaload, 1) := by decide +kernel
theorem dX9_house_106 : decode cX9_house 106 = .ok (.ireturn, 1) := by decide +kernel
theorem dX9_house_107 : decode cX9_house 107 = .ok (.aload_n 0, 1) := by decide +kernel
theorem dX9_house_108 : decode cX9_house 108 = .ok (.iload_n 1, 1) := by decide +kernel
theorem dX9_house_109 : decode cX9_house 109 = .ok (.invokevirtual 134, 3) := by decide +kernel
theorem dX9_house_112 : decode cX9_house 112 = .ok (.ifCond .eq 7, 3) := by decide +kernel
theorem dX9_house_115 : decode cX9_house 115 = .ok (.iconst 1, 1) := by decide +kernel
theorem dX9_house_116 : decode cX9_house 116 = .ok (.goto 4, 3) := by decide +kernel
theorem dX9_house_119 : decode cX9_house 119 = .ok (.iconst 0, 1) := by decide +kernel
theorem dX9_house_120 : decode cX9_house 120 = .ok (.ireturn, 1) := by decide +kernel
theorem dX9_house_121 : decode cX9_house 121 = .ok (.aload_n 0, 1) := by decide +kernel
theorem dX9_house_122 : decode cX9_house 122 = .ok (.getfield 52, 3) := by decide +kernel
theorem dX9_house_125 : decode cX9_house 125 = .ok (.getfield 62, 3) := by decide +kernel
theorem dX9_house_128 : decode cX9_house 128 = .ok (.getfield 137, 3) := by decide +kernel
theorem dX9_house_131 : decode cX9_house 131 = .ok (.iload_n 1, 1) := by decide +kernel
theorem dX9_house_132 : decode cX9_house 132 = .ok (.iaload, 1) := by decide +kernel
theorem dX9_house_133 : decode cX9_house 133 = .ok (.ireturn, 1) := by decide +kernel
theorem dX9_house_134 : decode cX9_house 134 = .ok (.aload_n 0, 1) := by decide +kernel
theorem dX9_house_135 : decode cX9_house 135 = .ok (.getfield 52, 3) := by decide +kernel
theorem dX9_house_138 : decode cX9_house 138 = .ok (.getfield 128, 3) := by decide +kernel
theorem dX9_house_141 : decode cX9_house 141 = .ok (.bipush 24, 2) := by decide +kernel
theorem dX9_house_143 : decode cX9_house 143 = .ok (.iload_n 1, 1) := by decide +kernel
theorem dX9_house_144 : decode cX9_house 144 = .ok (.iadd, 1) := by decide +kernel
theorem dX9_house_145 : decode cX9_house 145 = .ok (.iaload, 1) := by decide +kernel
theorem dX9_house_146 : decode cX9_house 146 = .ok (.ireturn, 1) := by decide +kernel
theorem dX9_house_147 : decode cX9_house 147 = .ok (.bipush (-2), 2) := by decide +kernel
theorem dX9_house_149 : decode cX9_house 149 = .ok (.ireturn, 1) := by decide +kernel
theorem dX9_isOfficer_0 : decode cX9_isOfficer 0 = .ok (.iload_n 1, 1) := by decide +kernel
theorem dX9_isOfficer_1 : decode cX9_isOfficer 1 = .ok (.ifCond .lt 21, 3) := by decide +kernel
theorem dX9_isOfficer_4 : decode cX9_isOfficer 4 = .ok (.iload_n 1, 1) := by decide +kernel
theorem dX9_isOfficer_5 : decode cX9_isOfficer 5 = .ok (.aload_n 0, 1) := by decide +kernel
theorem dX9_isOfficer_6 : decode cX9_isOfficer 6 = .ok (.getfield 52, 3) := by decide +kernel
theorem dX9_isOfficer_9 : decode cX9_isOfficer 9 = .ok (.getfield 62, 3) := by decide +kernel
theorem dX9_isOfficer_12 : decode cX9_isOfficer 12 = .ok (.getfield 231, 3) := by decide +kernel
theorem dX9_isOfficer_15 : decode cX9_isOfficer 15 = .ok (.if_icmp .ge 7, 3) := by decide +kernel
theorem dX9_isOfficer_18 : decode cX9_isOfficer 18 = .ok (.iconst 1, 1) := by decide +kernel
theorem dX9_isOfficer_19 : decode cX9_isOfficer 19 = .ok (.goto 4, 3) := by decide +kernel
theorem dX9_isOfficer_22 : decode cX9_isOfficer 22 = .ok (.iconst 0, 1) := by decide +kernel
theorem dX9_isOfficer_23 : decode cX9_isOfficer 23 = .ok (.ireturn, 1) := by decide +kernel
theorem dX9_officer_0 : decode cX9_officer 0 = .ok (.aload_n 0, 1) := by decide +kernel
theorem dX9_officer_1 : decode cX9_officer 1 = .ok (.iload_n 1, 1) := by decide +kernel
theorem dX9_officer_2 : decode cX9_officer 2 = .ok (.invokevirtual 140, 3) := by decide +kernel
theorem dX9_officer_5 : decode cX9_officer 5 = .ok (.ifCond .ne 5, 3) := by decide +kernel
theorem dX9_officer_8 : decode cX9_officer 8 = .ok (.iconst (-1), 1) := by decide +kernel
theorem dX9_officer_9 : decode cX9_officer 9 = .ok (.ireturn, 1) := by decide +kernel
theorem dX9_officer_10 : decode cX9_officer 10 = .ok (.iload_n 2, 1) := by decide +kernel
theorem dX9_officer_11 : decode cX9_officer 11 = .ok (.tableswitch 64 0 2 #[25, 38, 51], 25) := by decide +kernel
theorem dX9_officer_36 : decode cX9_officer 36 = .ok (.aload_n 0, 1) := by decide +kernel
theorem dX9_officer_37 : decode cX9_officer 37 = .ok (.getfield 52, 3) := by decide +kernel
theorem dX9_officer_40 : decode cX9_officer 40 = .ok (.getfield 128, 3) := by decide +kernel
theorem dX9_officer_43 : decode cX9_officer 43 = .ok (.bipush 32, 2) := by decide +kernel
theorem dX9_officer_45 : decode cX9_officer 45 = .ok (.iload_n 1, 1) := by decide +kernel
theorem dX9_officer_46 : decode cX9_officer 46 = .ok (.iadd, 1) := by decide +kernel
theorem dX9_officer_47 : decode cX9_officer 47 = .ok (.iaload, 1) := by decide +kernel
theorem dX9_officer_48 : decode cX9_officer 48 = .ok (.ireturn, 1) := by decide +kernel
theorem dX9_officer_49 : decode cX9_officer 49 = .ok (.aload_n 0, 1) := by decide +kernel
theorem dX9_officer_50 : decode cX9_officer 50 = .ok (.getfield 52, 3) := by decide +kernel
theorem dX9_officer_53 : decode cX9_officer 53 = .ok (.getfield 62, 3) := by decide +kernel
theorem dX9_officer_56 : decode cX9_officer 56 = .ok (.getfield 143, 3) := by decide +kernel
theorem dX9_officer_59 : decode cX9_officer 59 = .ok (.iload_n 1, 1) := by decide +kernel
theorem dX9_officer_60 : decode cX9_officer 60 = .ok (.iaload, 1) := by decide +kernel
theorem dX9_officer_61 : decode cX9_officer 61 = .ok (.ireturn, 1) := by decide +kernel
theorem dX9_officer_62 : decode cX9_officer 62 = .ok (.aload_n 0, 1) := by decide +kernel
theorem dX9_officer_63 : decode cX9_officer 63 = .ok (.getfield 52, 3) := by decide +kernel
theorem dX9_officer_66 : decode cX9_officer 66 = .ok (.getfield 128, 3) := by decide +kernel
theorem dX9_officer_69 : decode cX9_officer 69 = .ok (.bipush 35, 2) := by decide +kernel
theorem dX9_officer_71 : decode cX9_officer 71 = .ok (.iload_n 1, 1) := by decide +kernel
theorem dX9_officer_72 : decode cX9_officer 72 = .ok (.iadd, 1) := by decide +kernel
theorem dX9_officer_73 : decode cX9_officer 73 = .ok (.iaload, 1) := by decide +kernel
theorem dX9_officer_74 : decode cX9_officer 74 = .ok (.ireturn, 1) := by decide +kernel
theorem dX9_officer_75 : decode cX9_officer 75 = .ok (.iconst (-1), 1) := by decide +kernel
theorem dX9_officer_76 : decode cX9_officer 76 = .ok (.ireturn, 1) := by decide +kernel
theorem dX9_ruleAt_0 : decode cX9_ruleAt 0 = .ok (.iload_n 1, 1) := by decide +kernel
theorem dX9_ruleAt_1 : decode cX9_ruleAt 1 = .ok (.ifCond .lt 20, 3) := by decide +kernel
theorem dX9_ruleAt_4 : decode cX9_ruleAt 4 = .ok (.iload_n 1, 1) := by decide +kernel
theorem dX9_ruleAt_5 : decode cX9_ruleAt 5 = .ok (.aload_n 0, 1) := by decide +kernel
theorem dX9_ruleAt_6 : decode cX9_ruleAt 6 = .ok (.getfield 46, 3) := by decide +kernel
theorem dX9_ruleAt_9 : decode cX9_ruleAt 9 = .ok (.if_icmp .ge 12, 3) := by decide +kernel
theorem dX9_ruleAt_12 : decode cX9_ruleAt 12 = .ok (.aload_n 0, 1) := by decide +kernel
theorem dX9_ruleAt_13 : decode cX9_ruleAt 13 = .ok (.getfield 42, 3) := by decide +kernel
theorem dX9_ruleAt_16 : decode cX9_ruleAt 16 = .ok (.iload_n 1, 1) := by decide +kernel
theorem dX9_ruleAt_17 : decode cX9_ruleAt 17 = .ok (.aaload, 1) := by decide +kernel
theorem dX9_ruleAt_18 : decode cX9_ruleAt 18 = .ok (.goto 4, 3) := by decide +kernel
theorem dX9_ruleAt_21 : decode cX9_ruleAt 21 = .ok (.aconst_null, 1) := by decide +kernel
theorem dX9_ruleAt_22 : decode cX9_ruleAt 22 = .ok (.areturn, 1) := by decide +kernel
theorem dX9_night_0 : decode cX9_night 0 = .ok (.aload_n 0, 1) := by decide +kernel
theorem dX9_night_1 : decode cX9_night 1 = .ok (.getfield 52, 3) := by decide +kernel
theorem dX9_night_4 : decode cX9_night 4 = .ok (.getfield 62, 3) := by decide +kernel
theorem dX9_night_7 : decode cX9_night 7 = .ok (.getfield 146, 3) := by decide +kernel
theorem dX9_night_10 : decode cX9_night 10 = .ok (.ifCond .eq 19, 3) := by decide +kernel
theorem dX9_night_13 : decode cX9_night 13 = .ok (.aload_n 0, 1) := by decide +kernel
theorem dX9_night_14 : decode cX9_night 14 = .ok (.getfield 52, 3) := by decide +kernel
theorem dX9_night_17 : decode cX9_night 17 = .ok (.getfield 128, 3) := by decide +kernel
theorem dX9_night_20 : decode cX9_night 20 = .ok (.bipush 39, 2) := by decide +kernel
theorem dX9_night_22 : decode cX9_night 22 = .ok (.iaload, 1) := by decide +kernel
theorem dX9_night_23 : decode cX9_night 23 = .ok (.sipush 999, 3) := by decide +kernel
theorem dX9_night_26 : decode cX9_night 26 = .ok (.if_icmp .lt 5, 3) := by decide +kernel
theorem dX9_night_29 : decode cX9_night 29 = .ok (.iconst (-1), 1) := by decide +kernel
theorem dX9_night_30 : decode cX9_night 30 = .ok (.ireturn, 1) := by decide +kernel
theorem dX9_night_31 : decode cX9_night 31 = .ok (.aload_n 0, 1) := by decide +kernel
theorem dX9_night_32 : decode cX9_night 32 = .ok (.getfield 52, 3) := by decide +kernel
theorem dX9_night_35 : decode cX9_night 35 = .ok (.invokevirtual 150, 3) := by decide +kernel
theorem dX9_night_38 : decode cX9_night 38 = .ok (.aload_n 0, 1) := by decide +kernel
theorem dX9_night_39 : decode cX9_night 39 = .ok (.getfield 69, 3) := by decide +kernel
theorem dX9_night_42 : decode cX9_night 42 = .ok (.aload_n 0, 1) := by decide +kernel
theorem dX9_night_43 : decode cX9_night 43 = .ok (.aload_n 0, 1) := by decide +kernel
theorem dX9_night_44 : decode cX9_night 44 = .ok (.getfield 52, 3) := by decide +kernel
theorem dX9_night_47 : decode cX9_night 47 = .ok (.getfield 121, 3) := by decide +kernel
theorem dX9_night_50 : decode cX9_night 50 = .ok (.invokevirtual 153, 3) := by decide +kernel
theorem dX9_night_53 : decode cX9_night 53 = .ok (.invokevirtual 157, 3) := by decide +kernel
theorem dX9_night_56 : decode cX9_night 56 = .ok (.aload_n 0, 1) := by decide +kernel
theorem dX9_night_57 : decode cX9_night 57 = .ok (.getfield 69, 3) := by decide +kernel
theorem dX9_night_60 : decode cX9_night 60 = .ok (.aload_n 0, 1) := by decide +kernel
theorem dX9_night_61 : decode cX9_night 61 = .ok (.getfield 52, 3) := by decide +kernel
theorem dX9_night_64 : decode cX9_night 64 = .ok (.getfield 128, 3) := by decide +kernel
theorem dX9_night_67 : decode cX9_night 67 = .ok (.iconst 0, 1) := by decide +kernel
theorem dX9_night_68 : decode cX9_night 68 = .ok (.invokevirtual 161, 3) := by decide +kernel
theorem dX9_night_71 : decode cX9_night 71 = .ok (.ireturn, 1) := by decide +kernel
theorem dX9_fell_0 : decode cX9_fell 0 = .ok (.aload_n 0, 1) := by decide +kernel
theorem dX9_fell_1 : decode cX9_fell 1 = .ok (.iload_n 1, 1) := by decide +kernel
theorem dX9_fell_2 : decode cX9_fell 2 = .ok (.invokevirtual 124, 3) := by decide +kernel
theorem dX9_fell_5 : decode cX9_fell 5 = .ok (.ifCond .eq 33, 3) := by decide +kernel
theorem dX9_fell_8 : decode cX9_fell 8 = .ok (.iload_n 2, 1) := by decide +kernel
theorem dX9_fell_9 : decode cX9_fell 9 = .ok (.iconst 1, 1) := by decide +kernel
theorem dX9_fell_10 : decode cX9_fell 10 = .ok (.if_icmp .lt 28, 3) := by decide +kernel
theorem dX9_fell_13 : decode cX9_fell 13 = .ok (.iload_n 2, 1) := by decide +kernel
theorem dX9_fell_14 : decode cX9_fell 14 = .ok (.bipush 9, 2) := by decide +kernel
theorem dX9_fell_16 : decode cX9_fell 16 = .ok (.if_icmp .gt 22, 3) := by decide +kernel
theorem dX9_fell_19 : decode cX9_fell 19 = .ok (.aload_n 0, 1) := by decide +kernel
theorem dX9_fell_20 : decode cX9_fell 20 = .ok (.getfield 52, 3) := by decide +kernel
theorem dX9_fell_23 : decode cX9_fell 23 = .ok (.getfield 128, 3) := by decide +kernel
theorem dX9_fell_26 : decode cX9_fell 26 = .ok (.bipush 8, 2) := by decide +kernel
theorem dX9_fell_28 : decode cX9_fell 28 = .ok (.iload_n 1, 1) := by decide +kernel
theorem dX9_fell_29 : decode cX9_fell 29 = .ok (.iadd, 1) := by decide +kernel
theorem dX9_fell_30 : decode cX9_fell 30 = .ok (.iaload, 1) := by decide +kernel
theorem dX9_fell_31 : decode cX9_fell 31 = .ok (.iload_n 2, 1) := by decide +kernel
theorem dX9_fell_32 : decode cX9_fell 32 = .ok (.iadd, 1) := by decide +kernel
theorem dX9_fell_33 : decode cX9_fell 33 = .ok (.bipush 99, 2) := by decide +kernel
theorem dX9_fell_35 : decode cX9_fell 35 = .ok (.if_icmp .le 5, 3) := by decide +kernel
theorem dX9_fell_38 : decode cX9_fell 38 = .ok (.iconst (-1), 1) := by decide +kernel
theorem dX9_fell_39 : decode cX9_fell 39 = .ok (.ireturn, 1) := by decide +kernel
theorem dX9_fell_40 : decode cX9_fell 40 = .ok (.aload_n 0, 1) := by decide +kernel
theorem dX9_fell_41 : decode cX9_fell 41 = .ok (.getfield 52, 3) := by decide +kernel
theorem dX9_fell_44 : decode cX9_fell 44 = .ok (.invokevirtual 150, 3) := by decide +kernel
theorem dX9_fell_47 : decode cX9_fell 47 = .ok (.aload_n 0, 1) := by decide +kernel
theorem dX9_fell_48 : decode cX9_fell 48 = .ok (.getfield 52, 3) := by decide +kernel
theorem dX9_fell_51 : decode cX9_fell 51 = .ok (.getfield 128, 3) := by decide +kernel
theorem dX9_fell_54 : decode cX9_fell 54 = .ok (.bipush 8, 2) := by decide +kernel
theorem dX9_fell_56 : decode cX9_fell 56 = .ok (.iload_n 1, 1) := by decide +kernel
theorem dX9_fell_57 : decode cX9_fell 57 = .ok (.iadd, 1) := by decide +kernel
theorem dX9_fell_58 : decode cX9_fell 58 = .ok (.dup2, 1) := by decide +kernel
theorem dX9_fell_59 : decode cX9_fell 59 = .ok (.iaload, 1) := by decide +kernel
theorem dX9_fell_60 : decode cX9_fell 60 = .ok (.iload_n 2, 1) := by decide +kernel
theorem dX9_fell_61 : decode cX9_fell 61 = .ok (.iadd, 1) := by decide +kernel
theorem dX9_fell_62 : decode cX9_fell 62 = .ok (.iastore, 1) := by decide +kernel
theorem dX9_fell_63 : decode cX9_fell 63 = .ok (.aload_n 0, 1) := by decide +kernel
theorem dX9_fell_64 : decode cX9_fell 64 = .ok (.getfield 52, 3) := by decide +kernel
theorem dX9_fell_67 : decode cX9_fell 67 = .ok (.getfield 128, 3) := by decide +kernel
theorem dX9_fell_70 : decode cX9_fell 70 = .ok (.bipush 8, 2) := by decide +kernel
theorem dX9_fell_72 : decode cX9_fell 72 = .ok (.iload_n 1, 1) := by decide +kernel
theorem dX9_fell_73 : decode cX9_fell 73 = .ok (.iadd, 1) := by decide +kernel
theorem dX9_fell_74 : decode cX9_fell 74 = .ok (.iaload, 1) := by decide +kernel
theorem dX9_fell_75 : decode cX9_fell 75 = .ok (.ireturn, 1) := by decide +kernel
theorem dX9_areBeside_0 : decode cX9_areBeside 0 = .ok (.aload_n 0, 1) := by decide +kernel
theorem dX9_areBeside_1 : decode cX9_areBeside 1 = .ok (.iload_n 1, 1) := by decide +kernel
theorem dX9_areBeside_2 : decode cX9_areBeside 2 = .ok (.invokevirtual 124, 3) := by decide +kernel
theorem dX9_areBeside_5 : decode cX9_areBeside 5 = .ok (.ifCond .eq 34, 3) := by decide +kernel
theorem dX9_areBeside_8 : decode cX9_areBeside 8 = .ok (.aload_n 0, 1) := by decide +kernel
theorem dX9_areBeside_9 : decode cX9_areBeside 9 = .ok (.iload_n 2, 1) := by decide +kernel
theorem dX9_areBeside_10 : decode cX9_areBeside 10 = .ok (.invokevirtual 124, 3) := by decide +kernel
theorem dX9_areBeside_13 : decode cX9_areBeside 13 = .ok (.ifCond .eq 26, 3) := by decide +kernel
theorem dX9_areBeside_16 : decode cX9_areBeside 16 = .ok (.aload_n 0, 1) := by decide +kernel
theorem dX9_areBeside_17 : decode cX9_areBeside 17 = .ok (.getfield 52, 3) := by decide +kernel
theorem dX9_areBeside_20 : decode cX9_areBeside 20 = .ok (.getfield 62, 3) := by decide +kernel
theorem dX9_areBeside_23 : decode cX9_areBeside 23 = .ok (.getfield 137, 3) := by decide +kernel
theorem dX9_areBeside_26 : decode cX9_areBeside 26 = .ok (.iload_n 1, 1) := by decide +kernel
theorem dX9_areBeside_27 : decode cX9_areBeside 27 = .ok (.iaload, 1) := by decide +kernel
theorem dX9_areBeside_28 : decode cX9_areBeside 28 = .ok (.iload_n 2, 1) := by decide +kernel
theorem dX9_areBeside_29 : decode cX9_areBeside 29 = .ok (.ishr, 1) := by decide +kernel
theorem dX9_areBeside_30 : decode cX9_areBeside 30 = .ok (.iconst 1, 1) := by decide +kernel
theorem dX9_areBeside_31 : decode cX9_areBeside 31 = .ok (.iand, 1) := by decide +kernel
theorem dX9_areBeside_32 : decode cX9_areBeside 32 = .ok (.ifCond .eq 7, 3) := by decide +kernel
theorem dX9_areBeside_35 : decode cX9_areBeside 35 = .ok (.iconst 1, 1) := by decide +kernel
theorem dX9_areBeside_36 : decode cX9_areBeside 36 = .ok (.goto 4, 3) := by decide +kernel
theorem dX9_areBeside_39 : decode cX9_areBeside 39 = .ok (.iconst 0, 1) := by decide +kernel
theorem dX9_areBeside_40 : decode cX9_areBeside 40 = .ok (.ireturn, 1) := by decide +kernel
theorem dX9_moveWarmth_0 : decode cX9_moveWarmth 0 = .ok (.aload_n 0, 1) := by decide +kernel
theorem dX9_moveWarmth_1 : decode cX9_moveWarmth 1 = .ok (.iconst 0, 1) := by decide +kernel
theorem dX9_moveWarmth_2 : decode cX9_moveWarmth 2 = .ok (.iload_n 1, 1) := by decide +kernel
theorem dX9_moveWarmth_3 : decode cX9_moveWarmth 3 = .ok (.iadd, 1) := by decide +kernel
theorem dX9_moveWarmth_4 : decode cX9_moveWarmth 4 = .ok (.dup2, 1) := by decide +kernel
theorem dX9_moveWarmth_5 : decode cX9_moveWarmth 5 = .ok (.iaload, 1) := by decide +kernel
theorem dX9_moveWarmth_6 : decode cX9_moveWarmth 6 = .ok (.iload_n 3, 1) := by decide +kernel
theorem dX9_moveWarmth_7 : decode cX9_moveWarmth 7 = .ok (.isub, 1) := by decide +kernel
theorem dX9_moveWarmth_8 : decode cX9_moveWarmth 8 = .ok (.iastore, 1) := by decide +kernel
theorem dX9_moveWarmth_9 : decode cX9_moveWarmth 9 = .ok (.aload_n 0, 1) := by decide +kernel
theorem dX9_moveWarmth_10 : decode cX9_moveWarmth 10 = .ok (.iconst 0, 1) := by decide +kernel
theorem dX9_moveWarmth_11 : decode cX9_moveWarmth 11 = .ok (.iload_n 2, 1) := by decide +kernel
theorem dX9_moveWarmth_12 : decode cX9_moveWarmth 12 = .ok (.iadd, 1) := by decide +kernel
theorem dX9_moveWarmth_13 : decode cX9_moveWarmth 13 = .ok (.sipush 999, 3) := by decide +kernel
theorem dX9_moveWarmth_16 : decode cX9_moveWarmth 16 = .ok (.aload_n 0, 1) := by decide +kernel
theorem dX9_moveWarmth_17 : decode cX9_moveWarmth 17 = .ok (.iconst 0, 1) := by decide +kernel
theorem dX9_moveWarmth_18 : decode cX9_moveWarmth 18 = .ok (.iload_n 2, 1) := by decide +kernel
theorem dX9_moveWarmth_19 : decode cX9_moveWarmth 19 = .ok (.iadd, 1) := by decide +kernel
theorem dX9_moveWarmth_20 : decode cX9_moveWarmth 20 = .ok (.iaload, 1) := by decide +kernel
theorem dX9_moveWarmth_21 : decode cX9_moveWarmth 21 = .ok (.iload_n 3, 1) := by decide +kernel
theorem dX9_moveWarmth_22 : decode cX9_moveWarmth 22 = .ok (.iadd, 1) := by decide +kernel
theorem dX9_moveWarmth_23 : decode cX9_moveWarmth 23 = .ok (.invokestatic 180, 3) := by decide +kernel
theorem dX9_moveWarmth_26 : decode cX9_moveWarmth 26 = .ok (.iastore, 1) := by decide +kernel
theorem dX9_moveWarmth_27 : decode cX9_moveWarmth 27 = .ok (.return_, 1) := by decide +kernel
theorem dX9_lend_0 : decode cX9_lend 0 = .ok (.aload_n 0, 1) := by decide +kernel
theorem dX9_lend_1 : decode cX9_lend 1 = .ok (.iload_n 1, 1) := by decide +kernel
theorem dX9_lend_2 : decode cX9_lend 2 = .ok (.iload_n 2, 1) := by decide +kernel
theorem dX9_lend_3 : decode cX9_lend 3 = .ok (.invokevirtual 165, 3) := by decide +kernel
theorem dX9_lend_6 : decode cX9_lend 6 = .ok (.ifCond .eq 31, 3) := by decide +kernel
theorem dX9_lend_9 : decode cX9_lend 9 = .ok (.aload_n 0, 1) := by decide +kernel
theorem dX9_lend_10 : decode cX9_lend 10 = .ok (.iload_n 1, 1) := by decide +kernel
theorem dX9_lend_11 : decode cX9_lend 11 = .ok (.invokevirtual 134, 3) := by decide +kernel
theorem dX9_lend_14 : decode cX9_lend 14 = .ok (.ifCond .ne 23, 3) := by decide +kernel
theorem dX9_lend_17 : decode cX9_lend 17 = .ok (.iload_n 3, 1) := by decide +kernel
theorem dX9_lend_18 : decode cX9_lend 18 = .ok (.iconst 1, 1) := by decide +kernel
theorem dX9_lend_19 : decode cX9_lend 19 = .ok (.if_icmp .lt 18, 3) := by decide +kernel
theorem dX9_lend_22 : decode cX9_lend 22 = .ok (.iload_n 3, 1) := by decide +kernel
theorem dX9_lend_23 : decode cX9_lend 23 = .ok (.aload_n 0, 1) := by decide +kernel
theorem dX9_lend_24 : decode cX9_lend 24 = .ok (.getfield 52, 3) := by decide +kernel
theorem dX9_lend_27 : decode cX9_lend 27 = .ok (.getfield 128, 3) := by decide +kernel
theorem dX9_lend_30 : decode cX9_lend 30 = .ok (.iconst 0, 1) := by decide +kernel
theorem dX9_lend_31 : decode cX9_lend 31 = .ok (.iload_n 1, 1) := by decide +kernel
theorem dX9_lend_32 : decode cX9_lend 32 = .ok (.iadd, 1) := by decide +kernel
theorem dX9_lend_33 : decode cX9_lend 33 = .ok (.iaload, 1) := by decide +kernel
theorem dX9_lend_34 : decode cX9_lend 34 = .ok (.if_icmp .le 5, 3) := by decide +kernel
theorem dX9_lend_37 : decode cX9_lend 37 = .ok (.iconst (-1), 1) := by decide +kernel
theorem dX9_lend_38 : decode cX9_lend 38 = .ok (.ireturn, 1) := by decide +kernel
theorem dX9_lend_39 : decode cX9_lend 39 = .ok (.aload_n 0, 1) := by decide +kernel
theorem dX9_lend_40 : decode cX9_lend 40 = .ok (.getfield 52, 3) := by decide +kernel
theorem dX9_lend_43 : decode cX9_lend 43 = .ok (.invokevirtual 150, 3) := by decide +kernel
theorem dX9_lend_46 : decode cX9_lend 46 = .ok (.aload_n 0, 1) := by decide +kernel
theorem dX9_lend_47 : decode cX9_lend 47 = .ok (.getfield 52, 3) := by decide +kernel
theorem dX9_lend_50 : decode cX9_lend 50 = .ok (.getfield 128, 3) := by decide +kernel
theorem dX9_lend_53 : decode cX9_lend 53 = .ok (.iload_n 1, 1) := by decide +kernel
theorem dX9_lend_54 : decode cX9_lend 54 = .ok (.iload_n 2, 1) := by decide +kernel
theorem dX9_lend_55 : decode cX9_lend 55 = .ok (.iload_n 3, 1) := by decide +kernel
theorem dX9_lend_56 : decode cX9_lend 56 = .ok (.invokestatic 169, 3) := by decide +kernel
theorem dX9_lend_59 : decode cX9_lend 59 = .ok (.aload_n 0, 1) := by decide +kernel
theorem dX9_lend_60 : decode cX9_lend 60 = .ok (.getfield 52, 3) := by decide +kernel
theorem dX9_lend_63 : decode cX9_lend 63 = .ok (.getfield 128, 3) := by decide +kernel
theorem dX9_lend_66 : decode cX9_lend 66 = .ok (.iconst 0, 1) := by decide +kernel
theorem dX9_lend_67 : decode cX9_lend 67 = .ok (.iload_n 2, 1) := by decide +kernel
theorem dX9_lend_68 : decode cX9_lend 68 = .ok (.iadd, 1) := by decide +kernel
theorem dX9_lend_69 : decode cX9_lend 69 = .ok (.iaload, 1) := by decide +kernel
theorem dX9_lend_70 : decode cX9_lend 70 = .ok (.aload_n 0, 1) := by decide +kernel
theorem dX9_lend_71 : decode cX9_lend 71 = .ok (.getfield 52, 3) := by decide +kernel
theorem dX9_lend_74 : decode cX9_lend 74 = .ok (.getfield 62, 3) := by decide +kernel
theorem dX9_lend_77 : decode cX9_lend 77 = .ok (.getfield 173, 3) := by decide +kernel
theorem dX9_lend_80 : decode cX9_lend 80 = .ok (.if_icmp .lt 7, 3) := by decide +kernel
theorem dX9_lend_83 : decode cX9_lend 83 = .ok (.iconst 1, 1) := by decide +kernel
theorem dX9_lend_84 : decode cX9_lend 84 = .ok (.goto 4, 3) := by decide +kernel
theorem dX9_lend_87 : decode cX9_lend 87 = .ok (.iconst 0, 1) := by decide +kernel
theorem dX9_lend_88 : decode cX9_lend 88 = .ok (.istore 4, 2) := by decide +kernel
theorem dX9_lend_90 : decode cX9_lend 90 = .ok (.iload 4, 2) := by decide +kernel
theorem dX9_lend_92 : decode cX9_lend 92 = .ok (.ifCond .eq 21, 3) := by decide +kernel
theorem dX9_lend_95 : decode cX9_lend 95 = .ok (.aload_n 0, 1) := by decide +kernel
theorem dX9_lend_96 : decode cX9_lend 96 = .ok (.getfield 52, 3) := by decide +kernel
theorem dX9_lend_99 : decode cX9_lend 99 = .ok (.getfield 128, 3) := by decide +kernel
theorem dX9_lend_102 : decode cX9_lend 102 = .ok (.bipush 38, 2) := by decide +kernel
theorem dX9_lend_104 : decode cX9_lend 104 = .ok (.dup2, 1) := by decide +kernel
theorem dX9_lend_105 : decode cX9_lend 105 = .ok (.iaload, 1) := by decide +kernel
theorem dX9_lend_106 : decode cX9_lend 106 = .ok (.iconst 1, 1) := by decide +kernel
theorem dX9_lend_107 : decode cX9_lend 107 = .ok (.iload_n 2, 1) := by decide +kernel
theorem dX9_lend_108 : decode cX9_lend 108 = .ok (.ishl, 1) := by decide +kernel
theorem dX9_lend_109 : decode cX9_lend 109 = .ok (.iconst (-1), 1) := by decide +kernel
theorem dX9_lend_110 : decode cX9_lend 110 = .ok (.ixor, 1) := by decide +kernel
theorem dX9_lend_111 : decode cX9_lend 111 = .ok (.iand, 1) := by decide +kernel
theorem dX9_lend_112 : decode cX9_lend 112 = .ok (.iastore, 1) := by decide +kernel
theorem dX9_lend_113 : decode cX9_lend 113 = .ok (.aload_n 0, 1) := by decide +kernel
theorem dX9_lend_114 : decode cX9_lend 114 = .ok (.getfield 52, 3) := by decide +kernel
theorem dX9_lend_117 : decode cX9_lend 117 = .ok (.getfield 128, 3) := by decide +kernel
theorem dX9_lend_120 : decode cX9_lend 120 = .ok (.iconst 0, 1) := by decide +kernel
theorem dX9_lend_121 : decode cX9_lend 121 = .ok (.iload_n 2, 1) := by decide +kernel
theorem dX9_lend_122 : decode cX9_lend 122 = .ok (.iadd, 1) := by decide +kernel
theorem dX9_lend_123 : decode cX9_lend 123 = .ok (.iaload, 1) := by decide +kernel
theorem dX9_lend_124 : decode cX9_lend 124 = .ok (.ireturn, 1) := by decide +kernel
theorem dX9_hide_0 : decode cX9_hide 0 = .ok (.aload_n 0, 1) := by decide +kernel
theorem dX9_hide_1 : decode cX9_hide 1 = .ok (.iload_n 1, 1) := by decide +kernel
theorem dX9_hide_2 : decode cX9_hide 2 = .ok (.invokevirtual 124, 3) := by decide +kernel
theorem dX9_hide_5 : decode cX9_hide 5 = .ok (.ifCond .eq 50, 3) := by decide +kernel
theorem dX9_hide_8 : decode cX9_hide 8 = .ok (.aload_n 0, 1) := by decide +kernel
theorem dX9_hide_9 : decode cX9_hide 9 = .ok (.iload_n 1, 1) := by decide +kernel
theorem dX9_hide_10 : decode cX9_hide 10 = .ok (.invokevirtual 134, 3) := by decide +kernel
theorem dX9_hide_13 : decode cX9_hide 13 = .ok (.ifCond .ne 42, 3) := by decide +kernel
theorem dX9_hide_16 : decode cX9_hide 16 = .ok (.iload_n 2, 1) := by decide +kernel
theorem dX9_hide_17 : decode cX9_hide 17 = .ok (.iconst 1, 1) := by decide +kernel
theorem dX9_hide_18 : decode cX9_hide 18 = .ok (.if_icmp .lt 37, 3) := by decide +kernel
theorem dX9_hide_21 : decode cX9_hide 21 = .ok (.iload_n 2, 1) := by decide +kernel
theorem dX9_hide_22 : decode cX9_hide 22 = .ok (.aload_n 0, 1) := by decide +kernel
theorem dX9_hide_23 : decode cX9_hide 23 = .ok (.getfield 52, 3) := by decide +kernel
theorem dX9_hide_26 : decode cX9_hide 26 = .ok (.getfield 128, 3) := by decide +kernel
theorem dX9_hide_29 : decode cX9_hide 29 = .ok (.iconst 0, 1) := by decide +kernel
theorem dX9_hide_30 : decode cX9_hide 30 = .ok (.iload_n 1, 1) := by decide +kernel
theorem dX9_hide_31 : decode cX9_hide 31 = .ok (.iadd, 1) := by decide +kernel
theorem dX9_hide_32 : decode cX9_hide 32 = .ok (.iaload, 1) := by decide +kernel
theorem dX9_hide_33 : decode cX9_hide 33 = .ok (.if_icmp .gt 22, 3) := by decide +kernel
theorem dX9_hide_36 : decode cX9_hide 36 = .ok (.iload_n 2, 1) := by decide +kernel
theorem dX9_hide_37 : decode cX9_hide 37 = .ok (.bipush 99, 2) := by decide +kernel
theorem dX9_hide_39 : decode cX9_hide 39 = .ok (.aload_n 0, 1) := by decide +kernel
theorem dX9_hide_40 : decode cX9_hide 40 = .ok (.getfield 52, 3) := by decide +kernel
theorem dX9_hide_43 : decode cX9_hide 43 = .ok (.getfield 128, 3) := by decide +kernel
theorem dX9_hide_46 : decode cX9_hide 46 = .ok (.bipush 16, 2) := by decide +kernel
theorem dX9_hide_48 : decode cX9_hide 48 = .ok (.iload_n 1, 1) := by decide +kernel
theorem dX9_hide_49 : decode cX9_hide 49 = .ok (.iadd, 1) := by decide +kernel
theorem dX9_hide_50 : decode cX9_hide 50 = .ok (.iaload, 1) := by decide +kernel
theorem dX9_hide_51 : decode cX9_hide 51 = .ok (.isub, 1) := by decide +kernel
theorem dX9_hide_52 : decode cX9_hide 52 = .ok (.if_icmp .le 5, 3) := by decide +kernel
theorem dX9_hide_55 : decode cX9_hide 55 = .ok (.iconst (-1), 1) := by decide +kernel
theorem dX9_hide_56 : decode cX9_hide 56 = .ok (.ireturn, 1) := by decide +kernel
theorem dX9_hide_57 : decode cX9_hide 57 = .ok (.aload_n 0, 1) := by decide +kernel
theorem dX9_hide_58 : decode cX9_hide 58 = .ok (.getfield 52, 3) := by decide +kernel
theorem dX9_hide_61 : decode cX9_hide 61 = .ok (.invokevirtual 150, 3) := by decide +kernel
theorem dX9_hide_64 : decode cX9_hide 64 = .ok (.aload_n 0, 1) := by decide +kernel
theorem dX9_hide_65 : decode cX9_hide 65 = .ok (.getfield 52, 3) := by decide +kernel
theorem dX9_hide_68 : decode cX9_hide 68 = .ok (.getfield 128, 3) := by decide +kernel
theorem dX9_hide_71 : decode cX9_hide 71 = .ok (.iconst 0, 1) := by decide +kernel
theorem dX9_hide_72 : decode cX9_hide 72 = .ok (.iload_n 1, 1) := by decide +kernel
theorem dX9_hide_73 : decode cX9_hide 73 = .ok (.iadd, 1) := by decide +kernel
theorem dX9_hide_74 : decode cX9_hide 74 = .ok (.dup2, 1) := by decide +kernel
theorem dX9_hide_75 : decode cX9_hide 75 = .ok (.iaload, 1) := by decide +kernel
theorem dX9_hide_76 : decode cX9_hide 76 = .ok (.iload_n 2, 1) := by decide +kernel
theorem dX9_hide_77 : decode cX9_hide 77 = .ok (.isub, 1) := by decide +kernel
theorem dX9_hide_78 : decode cX9_hide 78 = .ok (.iastore, 1) := by decide +kernel
theorem dX9_hide_79 : decode cX9_hide 79 = .ok (.aload_n 0, 1) := by decide +kernel
theorem dX9_hide_80 : decode cX9_hide 80 = .ok (.getfield 52, 3) := by decide +kernel
theorem dX9_hide_83 : decode cX9_hide 83 = .ok (.getfield 128, 3) := by decide +kernel
theorem dX9_hide_86 : decode cX9_hide 86 = .ok (.bipush 16, 2) := by decide +kernel
theorem dX9_hide_88 : decode cX9_hide 88 = .ok (.iload_n 1, 1) := by decide +kernel
theorem dX9_hide_89 : decode cX9_hide 89 = .ok (.iadd, 1) := by decide +kernel
theorem dX9_hide_90 : decode cX9_hide 90 = .ok (.dup2, 1) := by decide +kernel
theorem dX9_hide_91 : decode cX9_hide 91 = .ok (.iaload, 1) := by decide +kernel
theorem dX9_hide_92 : decode cX9_hide 92 = .ok (.iload_n 2, 1) := by decide +kernel
theorem dX9_hide_93 : decode cX9_hide 93 = .ok (.iadd, 1) := by decide +kernel
theorem dX9_hide_94 : decode cX9_hide 94 = .ok (.iastore, 1) := by decide +kernel
theorem dX9_hide_95 : decode cX9_hide 95 = .ok (.aload_n 0, 1) := by decide +kernel
theorem dX9_hide_96 : decode cX9_hide 96 = .ok (.getfield 52, 3) := by decide +kernel
theorem dX9_hide_99 : decode cX9_hide 99 = .ok (.getfield 128, 3) := by decide +kernel
theorem dX9_hide_102 : decode cX9_hide 102 = .ok (.bipush 16, 2) := by decide +kernel
theorem dX9_hide_104 : decode cX9_hide 104 = .ok (.iload_n 1, 1) := by decide +kernel
theorem dX9_hide_105 : decode cX9_hide 105 = .ok (.iadd, 1) := by decide +kernel
theorem dX9_hide_106 : decode cX9_hide 106 = .ok (.iaload, 1) := by decide +kernel
theorem dX9_hide_107 : decode cX9_hide 107 = .ok (.ireturn, 1) := by decide +kernel
def fX5_readFact_B20 (L : List Nat) (g : Int32 → St → Option (Int32 × St)) (p1 : Int32) (y2 : Int32) (st : St) : Option (Int32 × St) := if (10 : Int32) ≤ p1 then (bw (fX5_fail (2 : Int32) st) (fun x4 s3 => gd (bz x4) (some (x4, s3)))) else (bw (fX5_readWithin L g y2 (p1 + (1 : Int32)) st) (fun x4 s3 => gd (bz x4) (some (x4, s3))))
set_option maxRecDepth 100000 in
theorem wX5_readFact_B20 {kg : Nat} {p : Program} {l : Launch} {e : Env} {s : State} {m : MethodId} {args : Array Value} {below : List Frame} {meth : Method} {c : Code} {E : Ev} (hL : ∀ k, fxC k = true → k ∈ eL E) {L : List Nat} {g : Int32 → St → Option (Int32 × St)} {p1 : Int32} (hLL : L = eL E) (hg : ∀ (st : St) (sz : Nat) (p1 : Int32) (res : Int32 × St), g p1 st = some res → Met l yX5_readFact (.code yX5_readFact cX5_readFact 4 (some .boolean) :: uW) (rmk kg) (va_Pc [.ref (eq E 40), .int p1] (Pre E st sz)) (QWi E res.2 sz res.1) 0 0 (Af E sz)) {sz : Nat} {res : (Int32 × St)} (X : CX p s m args c E RX5 cX5_readFact 4 (Af E sz)) (hr : meth.sig.returnType = (some .boolean)) (hlk : meth.locks = false) : ∀ (y2 : Int32) (st : St) (H : Heap) (locs : List Loc), fX5_readFact_B20 L g p1  y2 st = some res → Gd E st (Af E sz) s H locs → ∀ ls : Array Slot, lv_has ls 4 [(0, .ref (eq E 40)), (1, .int p1), (2, .int y2)] → W p l e (rmk (kg + 10)) s m args below meth c H locs 0 0 (MQ below (QWi E res.2 sz res.1) args s 0 0 (Af E sz)) (F0 m 20 ls []) := by
  have hx := X.1.1
  have hb := X.1.2.1
  intro y2 st H locs hf G ls hl
  unfold fX5_readFact_B20 at hf
  refine lv_iload_n hx hb dX5_readFact_20 rfl (lv_at hl 1 rfl) ?_
  refine lv_bipush (v := (10 : Int32)) hx hb dX5_readFact_21 (by decide) ?_
  refine lv_icmp_ge (tgt := 37) hx hb dX5_readFact_23 (by decide) (fun c1 => ?_) (fun c1 => ?_)
  · have hf := it_t hf c1
    refine lv_aload_n hx hb dX5_readFact_37 rfl (lv_at hl 0 rfl) ?_
    refine lv_iconst (v := (2 : Int32)) hx hb dX5_readFact_38 (by decide) ?_
    obtain ⟨x4, s3, h2, hf⟩ := bw_s hf
    refine cVWi (As := [.int (2 : Int32)]) (rest := []) X G kc_X5_57 (tX5_fail l E st _ hL  (2 : Int32) h2) (rcv X G (hL 40 rfl) (cO5 rfl) rfl) rfl rfl (rmk_le (by omega) (by decide)) rfl hl.1 rfl (Nat.le_of_ble_eq_true rfl) dX5_readFact_39 ⟨Nat.zero_le _, Nat.zero_le _⟩ (fun H locs G => ?_)
    obtain ⟨h5, hf⟩ := gd_s hf
    exact rtWz X hlk G hr (bz_n h5) (so_i hf) dX5_readFact_42
  · have hf := it_f hf c1
    refine lv_aload_n hx hb dX5_readFact_26 rfl (lv_at hl 0 rfl) ?_
    refine lv_iload_n hx hb dX5_readFact_27 rfl (lv_at hl 2 rfl) ?_
    refine lv_iload_n hx hb dX5_readFact_28 rfl (lv_at hl 1 rfl) ?_
    refine lv_iconst (v := (1 : Int32)) hx hb dX5_readFact_29 (by decide) ?_
    refine lv_iadd hx hb dX5_readFact_30 ?_
    obtain ⟨x4, s3, h2, hf⟩ := bw_s hf
    refine cVWi (As := [.int y2, .int (p1 + (1 : Int32))]) (rest := []) X G kc_X5_70 (tX5_readWithin l E st _ hL hLL hg y2 (p1 + (1 : Int32)) h2) (rcv X G (hL 40 rfl) (cO5 rfl) rfl) rfl rfl (rmk_le (by omega) (by decide)) rfl hl.1 rfl (Nat.le_of_ble_eq_true rfl) dX5_readFact_31 ⟨Nat.zero_le _, Nat.zero_le _⟩ (fun H locs G => ?_)
    refine lv_goto (tgt := 42) hx hb dX5_readFact_34 (by decide) ?_
    obtain ⟨h5, hf⟩ := gd_s hf
    exact rtWz X hlk G hr (bz_n h5) (so_i hf) dX5_readFact_42
def fX5_readFact_body (L : List Nat) (g : Int32 → St → Option (Int32 × St)) (p1 : Int32) (st : St) : Option (Int32 × St) := nm (st.1 20 5) (fun x1 => if x1 = (20 : Int32) then (fX5_readFact_B20 L g p1 x1 st) else (if x1 = (31 : Int32) then (fX5_readFact_B20 L g p1 x1 st) else (bw (fX5_readSum L st) (fun x6 s5 => if x6 = 0 then (some ((0 : Int32), s5)) else (nm (s5.1 20 5) (fun x8 => bw (fX5_readSign s5) (fun x11 s10 => if x11 = 0 then (some ((0 : Int32), s10)) else (bw (fX5_readSum L s10) (fun x15 s14 => if x15 = 0 then (some ((0 : Int32), s14)) else (br (s14.2.2 40 1) (fun r17 => gd (okRb L r17) (br (fX4_put r17 (-x8) s14) (fun s21 => some ((1 : Int32), s21))))))))))))))
set_option maxRecDepth 100000 in
theorem tX5_readFact_body {kg : Nat} (l : Launch) (E : Ev) (st : St) (sz : Nat) (hL : ∀ k, fxC k = true → k ∈ eL E) {L : List Nat} {g : Int32 → St → Option (Int32 × St)} (hLL : L = eL E) (hg : ∀ (st : St) (sz : Nat) (p1 : Int32) (res : Int32 × St), g p1 st = some res → Met l yX5_readFact (.code yX5_readFact cX5_readFact 4 (some .boolean) :: uW) (rmk kg) (va_Pc [.ref (eq E 40), .int p1] (Pre E st sz)) (QWi E res.2 sz res.1) 0 0 (Af E sz)) (p1 : Int32) {res : (Int32 × St)} (hf : fX5_readFact_body L g p1 st = some res) : Met l yX5_readFact (.code yX5_readFact cX5_readFact 4 (some .boolean) :: uW) (rmk (kg + 10)) (va_Pc [.ref (eq E 40), .int p1] (Pre E st sz)) (QWi E res.2 sz res.1) 0 0 (Af E sz) := by
  refine Met_in (by decide) (Nat.le_of_ble_eq_true rfl) ?_
  intro p e s m below meth c X hr hlk hz G ls hl
  have hx := X.1.1
  have hb := X.1.2.1
  have hl : lv_has ls 4 [(0, .ref (eq E 40)), (1, .int p1)] := hl
  unfold fX5_readFact_body at hf
  refine lv_aload_n hx hb dX5_readFact_0 rfl (lv_at hl 0 rfl) ?_
  refine gf5 X G (hL 40 rfl) rfl 0 (by decide) rfl kf_X5_25 iwX5 dX5_readFact_1 ?_
  refine gf7 X G (hL 20 rfl) rfl 5 (by decide) rfl kf_X5_43 iwX7 dX5_readFact_4 ?_
  refine lv_topi (fun x1 ex1 => ?_)
  have hf := nm_s hf x1 ex1
  refine lv_istore_n (lv' := [(2, .int x1), (0, .ref (eq E 40)), (1, .int p1)]) hx hb dX5_readFact_7 rfl hl (by decide) rfl (fun ls hl => ?_)
  refine lv_iload_n hx hb dX5_readFact_8 rfl (lv_at hl 0 rfl) ?_
  refine lv_bipush (v := (20 : Int32)) hx hb dX5_readFact_9 (by decide) ?_
  refine lv_icmp_eq (tgt := 20) hx hb dX5_readFact_11 (by decide) (fun c2 => ?_) (fun c2 => ?_)
  · have hf := it_t hf c2
    exact wX5_readFact_B20 hL hLL hg X hr hlk x1 st _ _ hf G _ (lv_sub hl [1, 2, 0] rfl)
  · have hf := it_f hf c2
    refine lv_iload_n hx hb dX5_readFact_14 rfl (lv_at hl 0 rfl) ?_
    refine lv_bipush (v := (31 : Int32)) hx hb dX5_readFact_15 (by decide) ?_
    refine lv_icmp_ne (tgt := 43) hx hb dX5_readFact_17 (by decide) (fun c3 => ?_) (fun c3 => ?_)
    · have hf := it_f hf c3
      refine lv_aload_n hx hb dX5_readFact_43 rfl (lv_at hl 1 rfl) ?_
      obtain ⟨x6, s5, h4, hf⟩ := bw_s hf
      refine cVWi (As := []) (rest := []) X G kc_X5_36 (tX5_readSum l E st _ hL hLL  h4) (rcv X G (hL 40 rfl) (cO5 rfl) rfl) rfl rfl (rmk_le (by omega) (by decide)) rfl hl.1 rfl (Nat.le_of_ble_eq_true rfl) dX5_readFact_44 ⟨Nat.zero_le _, Nat.zero_le _⟩ (fun H locs G => ?_)
      refine lv_if_ne (tgt := 52) hx hb dX5_readFact_47 (by decide) (fun c7 => ?_) (fun c7 => ?_)
      · have hf := it_f hf c7
        refine lv_aload_n hx hb dX5_readFact_52 rfl (lv_at hl 1 rfl) ?_
        refine gf5 X G (hL 40 rfl) rfl 0 (by decide) rfl kf_X5_25 iwX5 dX5_readFact_53 ?_
        refine gf7 X G (hL 20 rfl) rfl 5 (by decide) rfl kf_X5_43 iwX7 dX5_readFact_56 ?_
        refine lv_topi (fun x8 ex8 => ?_)
        have hf := nm_s hf x8 ex8
        refine lv_istore_n (lv' := [(3, .int x8), (2, .int x1), (0, .ref (eq E 40)), (1, .int p1)]) hx hb dX5_readFact_59 rfl hl (by decide) rfl (fun ls hl => ?_)
        refine lv_aload_n hx hb dX5_readFact_60 rfl (lv_at hl 2 rfl) ?_
        obtain ⟨x11, s10, h9, hf⟩ := bw_s hf
        refine cVWi (As := []) (rest := []) X G kc_X5_74 (tX5_readSign l E s5 _ hL   h9) (rcv X G (hL 40 rfl) (cO5 rfl) rfl) rfl rfl (rmk_le (by omega) (by decide)) rfl hl.1 rfl (Nat.le_of_ble_eq_true rfl) dX5_readFact_61 ⟨Nat.zero_le _, Nat.zero_le _⟩ (fun H locs G => ?_)
        refine lv_if_eq (tgt := 74) hx hb dX5_readFact_64 (by decide) (fun c12 => ?_) (fun c12 => ?_)
        · have hf := it_t hf c12
          refine lv_iconst (v := (0 : Int32)) hx hb dX5_readFact_74 (by decide) ?_
          exact rtWz X hlk G hr rfl (so_i hf) dX5_readFact_75
        · have hf := it_f hf c12
          refine lv_aload_n hx hb dX5_readFact_67 rfl (lv_at hl 2 rfl) ?_
          obtain ⟨x15, s14, h13, hf⟩ := bw_s hf
          refine cVWi (As := []) (rest := []) X G kc_X5_36 (tX5_readSum l E s10 _ hL hLL  h13) (rcv X G (hL 40 rfl) (cO5 rfl) rfl) rfl rfl (rmk_le (by omega) (by decide)) rfl hl.1 rfl (Nat.le_of_ble_eq_true rfl) dX5_readFact_68 ⟨Nat.zero_le _, Nat.zero_le _⟩ (fun H locs G => ?_)
          refine lv_if_ne (tgt := 76) hx hb dX5_readFact_71 (by decide) (fun c16 => ?_) (fun c16 => ?_)
          · have hf := it_f hf c16
            refine lv_aload_n hx hb dX5_readFact_76 rfl (lv_at hl 2 rfl) ?_
            refine gf5 X G (hL 40 rfl) rfl 1 (by decide) rfl kf_X5_12 iwX5 dX5_readFact_77 ?_
            obtain ⟨r17, h18, hf⟩ := br_s hf
            obtain ⟨h19, hf⟩ := gd_s hf
            rw [h18]
            refine lv_iload_n hx hb dX5_readFact_80 rfl (lv_at hl 0 rfl) ?_
            refine lv_ineg hx hb dX5_readFact_81 ?_
            obtain ⟨s21, h20, hf⟩ := br_s hf
            refine cVWv (As := [.int (-x8)]) (rest := []) X G kc_X5_63 (tX4_put l E s14 _ hL (okRb_s hLL h19) (-x8) h20) (rcv X G (((okRb_s hLL h19) 0 (by decide)).2 (by decide)) (cO4 ((okRb_s hLL h19) 0 (by decide)).1) rfl) rfl rfl (rmk_le (by omega) (by decide)) rfl hl.1 rfl (Nat.le_of_ble_eq_true rfl) dX5_readFact_82 ⟨Nat.zero_le _, Nat.zero_le _⟩ (fun H locs G => ?_)
            refine lv_iconst (v := (1 : Int32)) hx hb dX5_readFact_85 (by decide) ?_
            exact rtWz X hlk G hr rfl (so_i hf) dX5_readFact_86
          · have hf := it_t hf c16
            refine lv_iconst (v := (0 : Int32)) hx hb dX5_readFact_74 (by decide) ?_
            exact rtWz X hlk G hr rfl (so_i hf) dX5_readFact_75
      · have hf := it_t hf c7
        refine lv_iconst (v := (0 : Int32)) hx hb dX5_readFact_50 (by decide) ?_
        exact rtWz X hlk G hr rfl (so_i hf) dX5_readFact_51
    · have hf := it_t hf c3
      exact wX5_readFact_B20 hL hLL hg X hr hlk x1 st _ _ hf G _ (lv_sub hl [1, 2, 0] rfl)
def fX5_readFact (L : List Nat) : Nat → Int32 → St → Option (Int32 × St)
  | 0, _, _ => none
  | n + 1, p1, st => fX5_readFact_body L (fX5_readFact L n) p1 st
theorem tX5_readFact (l : Launch) (E : Ev) (hL : ∀ k, fxC k = true → k ∈ eL E) {L : List Nat} (hLL : L = eL E) : ∀ (n : Nat) (st : St) (sz : Nat) (p1 : Int32) (res : Int32 × St), fX5_readFact L n p1 st = some res → Met l yX5_readFact (.code yX5_readFact cX5_readFact 4 (some .boolean) :: uW) (rmk (10 * n)) (va_Pc [.ref (eq E 40), .int p1] (Pre E st sz)) (QWi E res.2 sz res.1) 0 0 (Af E sz) := by
  intro n
  induction n with
  | zero => intro st sz p1 res hf; cases (show (none : Option (Int32 × St)) = some res from hf)
  | succ n ih =>
    intro st sz p1 res hf
    exact tX5_readFact_body (kg := 10 * n) l E st sz hL hLL ih p1 hf
def fX5_read_B84 (L : List Nat) (k19 : Int32 → St → Option (Int32 × St)) (y1 : Int32) (st : St) : Option (Int32 × St) := br (st.2.2 40 1) (fun r1 => gd (okRb L r1) (br (fX4_endClause r1 st) (fun s5 => if (s5.1 20 5) = (23 : Int32) then (some ((0 : Int32), s5)) else (if (s5.1 20 5) = (25 : Int32) then (br (fX7_step s5) (fun s9 => nm (y1 + (1 : Int32)) (fun x10 => k19 x10 s9))) else (bw (fX5_fail (0 : Int32) s5) (fun x10 s9 => some ((s9.1 40 3), s9)))))))
set_option maxRecDepth 100000 in
theorem wX5_read_B84 {p : Program} {l : Launch} {e : Env} {s : State} {m : MethodId} {args : Array Value} {below : List Frame} {meth : Method} {c : Code} {E : Ev} (hL : ∀ k, fxC k = true → k ∈ eL E) {L : List Nat} (hLL : L = eL E) {sz : Nat} {res : (Int32 × St)} (X : CX p s m args c E RX5 cX5_read 2 (Af E sz)) (hr : meth.sig.returnType = (some .int)) (hlk : meth.locks = false) {k19 : Int32 → St → Option (Int32 × St)} (hk19 : ∀ (y1 : Int32) (st : St) (H : Heap) (locs : List Loc), k19 y1 st = some res → Gd E st (Af E sz) s H locs → ∀ ls : Array Slot, lv_has ls 2 [(0, .ref (eq E 40)), (1, .int y1)] → W p l e (rmk 126) s m args below meth c H locs 0 0 (MQ below (QWi E res.2 sz res.1) args s 0 0 (Af E sz)) (F0 m 19 ls [])) : ∀ (y1 : Int32) (st : St) (H : Heap) (locs : List Loc), fX5_read_B84 L k19 y1 st = some res → Gd E st (Af E sz) s H locs → ∀ ls : Array Slot, lv_has ls 2 [(0, .ref (eq E 40)), (1, .int y1)] → W p l e (rmk 126) s m args below meth c H locs 0 0 (MQ below (QWi E res.2 sz res.1) args s 0 0 (Af E sz)) (F0 m 84 ls []) := by
  have hx := X.1.1
  have hb := X.1.2.1
  intro y1 st H locs hf G ls hl
  unfold fX5_read_B84 at hf
  refine lv_aload_n hx hb dX5_read_84 rfl (lv_at hl 0 rfl) ?_
  refine gf5 X G (hL 40 rfl) rfl 1 (by decide) rfl kf_X5_12 iwX5 dX5_read_85 ?_
  obtain ⟨r1, h2, hf⟩ := br_s hf
  obtain ⟨h3, hf⟩ := gd_s hf
  rw [h2]
  obtain ⟨s5, h4, hf⟩ := br_s hf
  refine cVWv (As := []) (rest := []) X G kc_X5_54 (tX4_endClause l E st _ hL (okRb_s hLL h3)  h4) (rcv X G (((okRb_s hLL h3) 0 (by decide)).2 (by decide)) (cO4 ((okRb_s hLL h3) 0 (by decide)).1) rfl) rfl rfl (rmk_le (by omega) (by decide)) rfl hl.1 rfl (Nat.le_of_ble_eq_true rfl) dX5_read_88 ⟨Nat.zero_le _, Nat.zero_le _⟩ (fun H locs G => ?_)
  refine lv_aload_n hx hb dX5_read_91 rfl (lv_at hl 0 rfl) ?_
  refine gf5 X G (hL 40 rfl) rfl 0 (by decide) rfl kf_X5_25 iwX5 dX5_read_92 ?_
  refine gf7 X G (hL 20 rfl) rfl 5 (by decide) rfl kf_X5_43 iwX7 dX5_read_95 ?_
  refine lv_bipush (v := (23 : Int32)) hx hb dX5_read_98 (by decide) ?_
  refine lv_icmp_ne (tgt := 105) hx hb dX5_read_100 (by decide) (fun c6 => ?_) (fun c6 => ?_)
  · have hf := it_f hf c6
    refine lv_aload_n hx hb dX5_read_105 rfl (lv_at hl 0 rfl) ?_
    refine gf5 X G (hL 40 rfl) rfl 0 (by decide) rfl kf_X5_25 iwX5 dX5_read_106 ?_
    refine gf7 X G (hL 20 rfl) rfl 5 (by decide) rfl kf_X5_43 iwX7 dX5_read_109 ?_
    refine lv_bipush (v := (25 : Int32)) hx hb dX5_read_112 (by decide) ?_
    refine lv_icmp_eq (tgt := 128) hx hb dX5_read_114 (by decide) (fun c7 => ?_) (fun c7 => ?_)
    · have hf := it_t hf c7
      refine lv_aload_n hx hb dX5_read_128 rfl (lv_at hl 0 rfl) ?_
      refine gf5 X G (hL 40 rfl) rfl 0 (by decide) rfl kf_X5_25 iwX5 dX5_read_129 ?_
      obtain ⟨s9, h8, hf⟩ := br_s hf
      refine cVWv (As := []) (rest := []) X G kc_X5_48 (tX7_step l E s5 _ hL   h8) (rcv X G (hL 20 rfl) (cO7 rfl) rfl) rfl rfl (rmk_le (by omega) (by decide)) rfl hl.1 rfl (Nat.le_of_ble_eq_true rfl) dX5_read_132 ⟨Nat.zero_le _, Nat.zero_le _⟩ (fun H locs G => ?_)
      obtain ⟨x10, ex10⟩ : ∃ y : Int32, y = (y1 + (1 : Int32)) := ⟨_, rfl⟩
      have hf := nm_s hf x10 ex10
      refine lv_iinc (k := 1) (v := x10) (lv' := [(1, .int x10), (0, .ref (eq E 40))]) hx hb dX5_read_135 hl rfl (by rw [ex10]; rfl) (by decide) rfl (fun ls hl => ?_)
      refine lv_goto (tgt := 19) hx hb dX5_read_138 (by decide) ?_
      exact hk19 x10 s9 _ _ hf G _ (lv_sub hl [1, 0] rfl)
    · have hf := it_f hf c7
      refine lv_aload_n hx hb dX5_read_117 rfl (lv_at hl 0 rfl) ?_
      refine lv_iconst (v := (0 : Int32)) hx hb dX5_read_118 (by decide) ?_
      obtain ⟨x10, s9, h8, hf⟩ := bw_s hf
      refine cVWi (As := [.int (0 : Int32)]) (rest := []) X G kc_X5_57 (tX5_fail l E s5 _ hL  (0 : Int32) h8) (rcv X G (hL 40 rfl) (cO5 rfl) rfl) rfl rfl (rmk_le (by omega) (by decide)) rfl hl.1 rfl (Nat.le_of_ble_eq_true rfl) dX5_read_119 ⟨Nat.zero_le _, Nat.zero_le _⟩ (fun H locs G => ?_)
      refine lv_pop hx hb dX5_read_122 rfl ?_
      refine lv_aload_n hx hb dX5_read_123 rfl (lv_at hl 0 rfl) ?_
      refine gf5 X G (hL 40 rfl) rfl 3 (by decide) rfl kf_X5_22 iwX5 dX5_read_124 ?_
      exact rtWi X hlk G hr (so_i hf) dX5_read_127
  · have hf := it_t hf c6
    refine lv_iconst (v := (0 : Int32)) hx hb dX5_read_103 (by decide) ?_
    exact rtWi X hlk G hr (so_i hf) dX5_read_104
def fX5_read_L19 (L : List Nat) : Nat → Int32 → St → Option (Int32 × St)
  | 0, _, _ => none
  | n + 1, y1, st => if (12 : Int32) < y1 then (some ((st.1 40 3), st)) else (bw (fX5_readHead y1 st) (fun x4 s3 => if x4 = 0 then (some ((s3.1 40 3), s3)) else (bw (fX5_readSum L s3) (fun x8 s7 => if x8 = 0 then (some ((s7.1 40 3), s7)) else (br (s7.2.2 40 1) (fun r10 => gd (okRb L r10) (br (fX4_endSum r10 s7) (fun s14 => if (s14.1 20 5) = (17 : Int32) then (br (fX7_step s14) (fun s17 => bw (fX5_readTest L (fX5_readFact L 12) (0 : Int32) s17) (fun x20 s19 => if x20 = 0 then (some ((s19.1 40 3), s19)) else (fX5_read_B84 L (fX5_read_L19 L n) y1 s19)))) else (fX5_read_B84 L (fX5_read_L19 L n) y1 s14)))))))))
set_option maxRecDepth 100000 in
theorem wX5_read_L19 {p : Program} {l : Launch} {e : Env} {s : State} {m : MethodId} {args : Array Value} {below : List Frame} {meth : Method} {c : Code} {E : Ev} (hL : ∀ k, fxC k = true → k ∈ eL E) {L : List Nat} (hLL : L = eL E) {sz : Nat} {res : (Int32 × St)} (X : CX p s m args c E RX5 cX5_read 2 (Af E sz)) (hr : meth.sig.returnType = (some .int)) (hlk : meth.locks = false) : ∀ (n : Nat) (y1 : Int32) (st : St) (H : Heap) (locs : List Loc), fX5_read_L19 L  n y1 st = some res → Gd E st (Af E sz) s H locs → ∀ ls : Array Slot, lv_has ls 2 [(0, .ref (eq E 40)), (1, .int y1)] → W p l e (rmk 126) s m args below meth c H locs 0 0 (MQ below (QWi E res.2 sz res.1) args s 0 0 (Af E sz)) (F0 m 19 ls []) := by
  have hx := X.1.1
  have hb := X.1.2.1
  intro n
  induction n with
  | zero =>
    intro y1 st H locs hf G ls hl
    cases (show (none : Option (Int32 × St)) = some res from hf)
  | succ n ih =>
    intro y1 st H locs hf G ls hl
    rw [fX5_read_L19] at hf
    refine lv_iload_n hx hb dX5_read_19 rfl (lv_at hl 1 rfl) ?_
    refine lv_bipush (v := (12 : Int32)) hx hb dX5_read_20 (by decide) ?_
    refine lv_icmp_gt (tgt := 141) hx hb dX5_read_22 (by decide) (fun c1 => ?_) (fun c1 => ?_)
    · have hf := it_t hf c1
      refine lv_aload_n hx hb dX5_read_141 rfl (lv_at hl 0 rfl) ?_
      refine gf5 X G (hL 40 rfl) rfl 3 (by decide) rfl kf_X5_22 iwX5 dX5_read_142 ?_
      exact rtWi X hlk G hr (so_i hf) dX5_read_145
    · have hf := it_f hf c1
      refine lv_aload_n hx hb dX5_read_25 rfl (lv_at hl 0 rfl) ?_
      refine lv_iload_n hx hb dX5_read_26 rfl (lv_at hl 1 rfl) ?_
      obtain ⟨x4, s3, h2, hf⟩ := bw_s hf
      refine cVWi (As := [.int y1]) (rest := []) X G kc_X5_32 (tX5_readHead l E st _ hL  y1 h2) (rcv X G (hL 40 rfl) (cO5 rfl) rfl) rfl rfl (rmk_le (by omega) (by decide)) rfl hl.1 rfl (Nat.le_of_ble_eq_true rfl) dX5_read_27 ⟨Nat.zero_le _, Nat.zero_le _⟩ (fun H locs G => ?_)
      refine lv_if_eq (tgt := 40) hx hb dX5_read_30 (by decide) (fun c5 => ?_) (fun c5 => ?_)
      · have hf := it_t hf c5
        refine lv_aload_n hx hb dX5_read_40 rfl (lv_at hl 0 rfl) ?_
        refine gf5 X G (hL 40 rfl) rfl 3 (by decide) rfl kf_X5_22 iwX5 dX5_read_41 ?_
        exact rtWi X hlk G hr (so_i hf) dX5_read_44
      · have hf := it_f hf c5
        refine lv_aload_n hx hb dX5_read_33 rfl (lv_at hl 0 rfl) ?_
        obtain ⟨x8, s7, h6, hf⟩ := bw_s hf
        refine cVWi (As := []) (rest := []) X G kc_X5_36 (tX5_readSum l E s3 _ hL hLL  h6) (rcv X G (hL 40 rfl) (cO5 rfl) rfl) rfl rfl (rmk_le (by omega) (by decide)) rfl hl.1 rfl (Nat.le_of_ble_eq_true rfl) dX5_read_34 ⟨Nat.zero_le _, Nat.zero_le _⟩ (fun H locs G => ?_)
        refine lv_if_ne (tgt := 45) hx hb dX5_read_37 (by decide) (fun c9 => ?_) (fun c9 => ?_)
        · have hf := it_f hf c9
          refine lv_aload_n hx hb dX5_read_45 rfl (lv_at hl 0 rfl) ?_
          refine gf5 X G (hL 40 rfl) rfl 1 (by decide) rfl kf_X5_12 iwX5 dX5_read_46 ?_
          obtain ⟨r10, h11, hf⟩ := br_s hf
          obtain ⟨h12, hf⟩ := gd_s hf
          rw [h11]
          obtain ⟨s14, h13, hf⟩ := br_s hf
          refine cVWv (As := []) (rest := []) X G kc_X5_40 (tX4_endSum l E s7 _ hL (okRb_s hLL h12)  h13) (rcv X G (((okRb_s hLL h12) 0 (by decide)).2 (by decide)) (cO4 ((okRb_s hLL h12) 0 (by decide)).1) rfl) rfl rfl (rmk_le (by omega) (by decide)) rfl hl.1 rfl (Nat.le_of_ble_eq_true rfl) dX5_read_49 ⟨Nat.zero_le _, Nat.zero_le _⟩ (fun H locs G => ?_)
          refine lv_aload_n hx hb dX5_read_52 rfl (lv_at hl 0 rfl) ?_
          refine gf5 X G (hL 40 rfl) rfl 0 (by decide) rfl kf_X5_25 iwX5 dX5_read_53 ?_
          refine gf7 X G (hL 20 rfl) rfl 5 (by decide) rfl kf_X5_43 iwX7 dX5_read_56 ?_
          refine lv_bipush (v := (17 : Int32)) hx hb dX5_read_59 (by decide) ?_
          refine lv_icmp_ne (tgt := 84) hx hb dX5_read_61 (by decide) (fun c15 => ?_) (fun c15 => ?_)
          · have hf := it_f hf c15
            exact wX5_read_B84 hL hLL X hr hlk ih y1 s14 _ _ hf G _ (lv_sub hl [0, 1] rfl)
          · have hf := it_t hf c15
            refine lv_aload_n hx hb dX5_read_64 rfl (lv_at hl 0 rfl) ?_
            refine gf5 X G (hL 40 rfl) rfl 0 (by decide) rfl kf_X5_25 iwX5 dX5_read_65 ?_
            obtain ⟨s17, h16, hf⟩ := br_s hf
            refine cVWv (As := []) (rest := []) X G kc_X5_48 (tX7_step l E s14 _ hL   h16) (rcv X G (hL 20 rfl) (cO7 rfl) rfl) rfl rfl (rmk_le (by omega) (by decide)) rfl hl.1 rfl (Nat.le_of_ble_eq_true rfl) dX5_read_68 ⟨Nat.zero_le _, Nat.zero_le _⟩ (fun H locs G => ?_)
            refine lv_aload_n hx hb dX5_read_71 rfl (lv_at hl 0 rfl) ?_
            refine lv_iconst (v := (0 : Int32)) hx hb dX5_read_72 (by decide) ?_
            obtain ⟨x20, s19, h18, hf⟩ := bw_s hf
            refine cVWi (As := [.int (0 : Int32)]) (rest := []) X G kc_X5_51 (tX5_readTest l E s17 _ hL hLL (tX5_readFact l E hL hLL 12) (0 : Int32) h18) (rcv X G (hL 40 rfl) (cO5 rfl) rfl) rfl rfl (rmk_le (by omega) (by decide)) rfl hl.1 rfl (Nat.le_of_ble_eq_true rfl) dX5_read_73 ⟨Nat.zero_le _, Nat.zero_le _⟩ (fun H locs G => ?_)
            refine lv_if_ne (tgt := 84) hx hb dX5_read_76 (by decide) (fun c21 => ?_) (fun c21 => ?_)
            · have hf := it_f hf c21
              exact wX5_read_B84 hL hLL X hr hlk ih y1 s19 _ _ hf G _ (lv_sub hl [0, 1] rfl)
            · have hf := it_t hf c21
              refine lv_aload_n hx hb dX5_read_79 rfl (lv_at hl 0 rfl) ?_
              refine gf5 X G (hL 40 rfl) rfl 3 (by decide) rfl kf_X5_22 iwX5 dX5_read_80 ?_
              exact rtWi X hlk G hr (so_i hf) dX5_read_83
        · have hf := it_t hf c9
          refine lv_aload_n hx hb dX5_read_40 rfl (lv_at hl 0 rfl) ?_
          refine gf5 X G (hL 40 rfl) rfl 3 (by decide) rfl kf_X5_22 iwX5 dX5_read_41 ?_
          exact rtWi X hlk G hr (so_i hf) dX5_read_44
def fX5_read (L : List Nat) (st : St) : Option (Int32 × St) := br (st.2.2 40 1) (fun r1 => gd (okRb L r1) (br (fX4_clear r1 st) (fun s5 => nm (ui s5 40 2 (0 : Int32)) (fun s6 => nm (ui s6 40 3 (0 : Int32)) (fun s7 => fX5_read_L19 L 10000 (0 : Int32) s7)))))
set_option maxRecDepth 100000 in
theorem tX5_read (l : Launch) (E : Ev) (st : St) (sz : Nat) (hL : ∀ k, fxC k = true → k ∈ eL E) {L : List Nat} (hLL : L = eL E)  {res : (Int32 × St)} (hf : fX5_read L  st = some res) : Met l yX5_read (.code yX5_read cX5_read 2 (some .int) :: uW) (rmk 126) (va_Pc [.ref (eq E 40)] (Pre E st sz)) (QWi E res.2 sz res.1) 0 0 (Af E sz) := by
  refine Met_in (by decide) (Nat.le_of_ble_eq_true rfl) ?_
  intro p e s m below meth c X hr hlk hz G ls hl
  have hx := X.1.1
  have hb := X.1.2.1
  have hl : lv_has ls 2 [(0, .ref (eq E 40))] := hl
  unfold fX5_read at hf
  refine lv_aload_n hx hb dX5_read_0 rfl (lv_at hl 0 rfl) ?_
  refine gf5 X G (hL 40 rfl) rfl 1 (by decide) rfl kf_X5_12 iwX5 dX5_read_1 ?_
  obtain ⟨r1, h2, hf⟩ := br_s hf
  obtain ⟨h3, hf⟩ := gd_s hf
  rw [h2]
  obtain ⟨s5, h4, hf⟩ := br_s hf
  refine cVWv (As := []) (rest := []) X G kc_X5_29 (tX4_clear l E st _ hL (okRb_s hLL h3)  h4) (rcv X G (((okRb_s hLL h3) 0 (by decide)).2 (by decide)) (cO4 ((okRb_s hLL h3) 0 (by decide)).1) rfl) rfl rfl (rmk_le (by omega) (by decide)) rfl hl.1 rfl (Nat.le_of_ble_eq_true rfl) dX5_read_4 ⟨Nat.zero_le _, Nat.zero_le _⟩ (fun H locs G => ?_)
  refine lv_aload_n hx hb dX5_read_7 rfl (lv_at hl 0 rfl) ?_
  refine lv_iconst (v := (0 : Int32)) hx hb dX5_read_8 (by decide) ?_
  refine pf5 X G (hL 40 rfl) rfl 2 (by decide) ps5_2 uio kf_X5_18 iwX5 rfl (ty := .int) (by decide +kernel) rfl rfl dX5_read_9 (fun s6 es6 H locs G => ?_)
  have hf := nm_s hf s6 es6
  refine lv_aload_n hx hb dX5_read_12 rfl (lv_at hl 0 rfl) ?_
  refine lv_iconst (v := (0 : Int32)) hx hb dX5_read_13 (by decide) ?_
  refine pf5 X G (hL 40 rfl) rfl 3 (by decide) ps5_3 uio kf_X5_22 iwX5 rfl (ty := .int) (by decide +kernel) rfl rfl dX5_read_14 (fun s7 es7 H locs G => ?_)
  have hf := nm_s hf s7 es7
  refine lv_iconst (v := (0 : Int32)) hx hb dX5_read_17 (by decide) ?_
  refine lv_istore_n (lv' := [(1, .int (0 : Int32)), (0, .ref (eq E 40))]) hx hb dX5_read_18 rfl hl (by decide) rfl (fun ls hl => ?_)
  exact wX5_read_L19 hL hLL X hr hlk 10000 (0 : Int32) s7 _ _ hf G _ (lv_sub hl [1, 0] rfl)
def fX9_putBytes_L3 (p1 : Int32) : Nat → Int32 → St → Option St
  | 0, _, _ => none
  | n + 1, y2, st => if y2 < 0 then (some st) else (if (st.1 0 1) < 0 then (nm (y2 + (-8 : Int32)) (fun x3 => (fX9_putBytes_L3 p1 n) x3 st)) else (if (400 : Int32) ≤ (st.1 0 1) then (nm (y2 + (-8 : Int32)) (fun x4 => (fX9_putBytes_L3 p1 n) x4 st)) else (gd (ix (st.1 0 1) 400) (nm (ui st 1 (st.1 0 1).toNatClampNeg ((((Int32.toUInt32 p1) >>> ((Int32.toUInt32 y2) &&& Int32.toUInt32 31)).toInt32) &&& (255 : Int32))) (fun s5 => nm (ui s5 0 1 ((s5.1 0 1) + (1 : Int32))) (fun s6 => nm (y2 + (-8 : Int32)) (fun x7 => (fX9_putBytes_L3 p1 n) x7 s6)))))))
set_option maxRecDepth 100000 in
theorem wX9_putBytes_L3 {p : Program} {l : Launch} {e : Env} {s : State} {m : MethodId} {args : Array Value} {below : List Frame} {meth : Method} {c : Code} {E : Ev} (hL : ∀ k, fxC k = true → k ∈ eL E) {p1 : Int32} {sz : Nat} {res : St} (X : CX p s m args c E RX9 cX9_putBytes 3 (Af E sz)) (hr : meth.sig.returnType = none) (hlk : meth.locks = false) : ∀ (n : Nat) (y2 : Int32) (st : St) (H : Heap) (locs : List Loc), fX9_putBytes_L3 p1  n y2 st = some res → Gd E st (Af E sz) s H locs → ∀ ls : Array Slot, lv_has ls 3 [(0, .ref (eq E 0)), (1, .int p1), (2, .int y2)] → W p l e (rmk 0) s m args below meth c H locs 0 0 (MQ below (QWv E res sz) args s 0 0 (Af E sz)) (F0 m 3 ls []) := by
  have hx := X.1.1
  have hb := X.1.2.1
  intro n
  induction n with
  | zero =>
    intro y2 st H locs hf G ls hl
    cases (show (none : Option St) = some res from hf)
  | succ n ih =>
    intro y2 st H locs hf G ls hl
    rw [fX9_putBytes_L3] at hf
    refine lv_iload_n hx hb dX9_putBytes_3 rfl (lv_at hl 2 rfl) ?_
    refine lv_if_lt (tgt := 56) hx hb dX9_putBytes_4 (by decide) (fun c1 => ?_) (fun c1 => ?_)
    · have hf := it_t hf c1
      exact rtWv X hlk G hr (so_i hf) dX9_putBytes_56
    · have hf := it_f hf c1
      refine lv_aload_n hx hb dX9_putBytes_7 rfl (lv_at hl 0 rfl) ?_
      refine gf9 X G (hL 0 rfl) rfl 1 (by decide) rfl kf_X9_13 iwX9 dX9_putBytes_8 ?_
      refine lv_if_lt (tgt := 50) hx hb dX9_putBytes_11 (by decide) (fun c2 => ?_) (fun c2 => ?_)
      · have hf := it_t hf c2
        obtain ⟨x3, ex3⟩ : ∃ y : Int32, y = (y2 + (-8 : Int32)) := ⟨_, rfl⟩
        have hf := nm_s hf x3 ex3
        refine lv_iinc (k := 2) (v := x3) (lv' := [(2, .int x3), (0, .ref (eq E 0)), (1, .int p1)]) hx hb dX9_putBytes_50 hl rfl (by rw [ex3]; rfl) (by decide) rfl (fun ls hl => ?_)
        refine lv_goto (tgt := 3) hx hb dX9_putBytes_53 (by decide) ?_
        exact ih x3 st _ _ hf G _ (lv_sub hl [1, 2, 0] rfl)
      · have hf := it_f hf c2
        refine lv_aload_n hx hb dX9_putBytes_14 rfl (lv_at hl 0 rfl) ?_
        refine gf9 X G (hL 0 rfl) rfl 1 (by decide) rfl kf_X9_13 iwX9 dX9_putBytes_15 ?_
        refine lv_sipush (v := (400 : Int32)) hx hb dX9_putBytes_18 (by decide) ?_
        refine lv_icmp_ge (tgt := 50) hx hb dX9_putBytes_21 (by decide) (fun c3 => ?_) (fun c3 => ?_)
        · have hf := it_t hf c3
          obtain ⟨x4, ex4⟩ : ∃ y : Int32, y = (y2 + (-8 : Int32)) := ⟨_, rfl⟩
          have hf := nm_s hf x4 ex4
          refine lv_iinc (k := 2) (v := x4) (lv' := [(2, .int x4), (0, .ref (eq E 0)), (1, .int p1)]) hx hb dX9_putBytes_50 hl rfl (by rw [ex4]; rfl) (by decide) rfl (fun ls hl => ?_)
          refine lv_goto (tgt := 3) hx hb dX9_putBytes_53 (by decide) ?_
          exact ih x4 st _ _ hf G _ (lv_sub hl [1, 2, 0] rfl)
        · have hf := it_f hf c3
          refine lv_aload_n hx hb dX9_putBytes_24 rfl (lv_at hl 0 rfl) ?_
          refine gf9 X G (hL 0 rfl) rfl 0 (by decide) rfl kf_X9_9 iwX9 dX9_putBytes_25 ?_
          refine lv_aload_n hx hb dX9_putBytes_28 rfl (lv_at hl 0 rfl) ?_
          refine gf9 X G (hL 0 rfl) rfl 1 (by decide) rfl kf_X9_13 iwX9 dX9_putBytes_29 ?_
          refine lv_iload_n hx hb dX9_putBytes_32 rfl (lv_at hl 1 rfl) ?_
          refine lv_iload_n hx hb dX9_putBytes_33 rfl (lv_at hl 2 rfl) ?_
          refine lv_iushr hx hb dX9_putBytes_34 rfl ?_
          refine lv_sipush (v := (255 : Int32)) hx hb dX9_putBytes_35 (by decide) ?_
          refine lv_iand hx hb dX9_putBytes_38 ?_
          obtain ⟨h4, hf⟩ := gd_s hf
          refine ia_st (k := 1) (n := 400) X G (hL 1 rfl) rfl (by decide) (ix_in h4) dX9_putBytes_39 (fun s5 es5 H locs G => ?_)
          have hf := nm_s hf s5 es5
          refine lv_aload_n hx hb dX9_putBytes_40 rfl (lv_at hl 0 rfl) ?_
          refine lv_dup hx hb dX9_putBytes_41 rfl ?_
          refine gf9 X G (hL 0 rfl) rfl 1 (by decide) rfl kf_X9_13 iwX9 dX9_putBytes_42 ?_
          refine lv_iconst (v := (1 : Int32)) hx hb dX9_putBytes_45 (by decide) ?_
          refine lv_iadd hx hb dX9_putBytes_46 ?_
          refine pf9 X G (hL 0 rfl) rfl 1 (by decide) ps9_1 uio kf_X9_13 iwX9 rfl (ty := .int) (by decide +kernel) rfl rfl dX9_putBytes_47 (fun s6 es6 H locs G => ?_)
          have hf := nm_s hf s6 es6
          obtain ⟨x7, ex7⟩ : ∃ y : Int32, y = (y2 + (-8 : Int32)) := ⟨_, rfl⟩
          have hf := nm_s hf x7 ex7
          refine lv_iinc (k := 2) (v := x7) (lv' := [(2, .int x7), (0, .ref (eq E 0)), (1, .int p1)]) hx hb dX9_putBytes_50 hl rfl (by rw [ex7]; rfl) (by decide) rfl (fun ls hl => ?_)
          refine lv_goto (tgt := 3) hx hb dX9_putBytes_53 (by decide) ?_
          exact ih x7 s6 _ _ hf G _ (lv_sub hl [1, 2, 0] rfl)
def fX9_putBytes (p1 : Int32) (st : St) : Option St := fX9_putBytes_L3 p1 10000 (24 : Int32) st
set_option maxRecDepth 100000 in
theorem tX9_putBytes (l : Launch) (E : Ev) (st : St) (sz : Nat) (hL : ∀ k, fxC k = true → k ∈ eL E) (p1 : Int32) {res : St} (hf : fX9_putBytes  p1 st = some res) : Met l yX9_putBytes (.code yX9_putBytes cX9_putBytes 3 none :: uW) (rmk 0) (va_Pc [.ref (eq E 0), .int p1] (Pre E st sz)) (QWv E res sz) 0 0 (Af E sz) := by
  refine Met_in (by decide) (Nat.le_of_ble_eq_true rfl) ?_
  intro p e s m below meth c X hr hlk hz G ls hl
  have hx := X.1.1
  have hb := X.1.2.1
  have hl : lv_has ls 3 [(0, .ref (eq E 0)), (1, .int p1)] := hl
  unfold fX9_putBytes at hf
  refine lv_bipush (v := (24 : Int32)) hx hb dX9_putBytes_0 (by decide) ?_
  refine lv_istore_n (lv' := [(2, .int (24 : Int32)), (0, .ref (eq E 0)), (1, .int p1)]) hx hb dX9_putBytes_2 rfl hl (by decide) rfl (fun ls hl => ?_)
  exact wX9_putBytes_L3 hL X hr hlk 10000 (24 : Int32) st _ _ hf G _ (lv_sub hl [1, 2, 0] rfl)
def fX9_feed (p1 : Int32) (p2 : Int32) (p3 : Int32) (p4 : Int32) (p5 : Int32) (st : St) : Option (Int32 × St) := if (st.1 0 1) ≤ (380 : Int32) then (br (fX9_putBytes p1 st) (fun s3 => br (fX9_putBytes p2 s3) (fun s5 => br (fX9_putBytes p3 s5) (fun s7 => br (fX9_putBytes p4 s7) (fun s9 => br (fX9_putBytes p5 s9) (fun s11 => some ((s11.1 0 1), s11))))))) else (some ((-1 : Int32), st))
set_option maxRecDepth 100000 in
theorem tX9_feed (l : Launch) (E : Ev) (st : St) (sz : Nat) (hL : ∀ k, fxC k = true → k ∈ eL E) (p1 : Int32) (p2 : Int32) (p3 : Int32) (p4 : Int32) (p5 : Int32) {res : (Int32 × St)} (hf : fX9_feed  p1 p2 p3 p4 p5 st = some res) : Met l yX9_feed (.code yX9_feed cX9_feed 6 (some .int) :: uW) (rmk 1) (va_Pc [.ref (eq E 0), .int p1, .int p2, .int p3, .int p4, .int p5] (Pre E st sz)) (QWi E res.2 sz res.1) 0 0 (Af E sz) := by
  refine Met_in (by decide) (Nat.le_of_ble_eq_true rfl) ?_
  intro p e s m below meth c X hr hlk hz G ls hl
  have hx := X.1.1
  have hb := X.1.2.1
  have hl : lv_has ls 6 [(0, .ref (eq E 0)), (1, .int p1), (2, .int p2), (3, .int p3), (4, .int p4), (5, .int p5)] := hl
  unfold fX9_feed at hf
  refine lv_aload_n hx hb dX9_feed_0 rfl (lv_at hl 0 rfl) ?_
  refine gf9 X G (hL 0 rfl) rfl 1 (by decide) rfl kf_X9_13 iwX9 dX9_feed_1 ?_
  refine lv_sipush (v := (380 : Int32)) hx hb dX9_feed_4 (by decide) ?_
  refine lv_icmp_le (tgt := 12) hx hb dX9_feed_7 (by decide) (fun c1 => ?_) (fun c1 => ?_)
  · have hf := it_t hf c1
    refine lv_aload_n hx hb dX9_feed_12 rfl (lv_at hl 0 rfl) ?_
    refine lv_iload_n hx hb dX9_feed_13 rfl (lv_at hl 1 rfl) ?_
    obtain ⟨s3, h2, hf⟩ := br_s hf
    refine cVWv (As := [.int p1]) (rest := []) X G kc_X9_94 (tX9_putBytes l E st _ hL  p1 h2) (rcv X G (hL 0 rfl) (cO9 rfl) rfl) rfl rfl (rmk_le (by omega) (by decide)) rfl hl.1 rfl (Nat.le_of_ble_eq_true rfl) dX9_feed_14 ⟨Nat.zero_le _, Nat.zero_le _⟩ (fun H locs G => ?_)
    refine lv_aload_n hx hb dX9_feed_17 rfl (lv_at hl 0 rfl) ?_
    refine lv_iload_n hx hb dX9_feed_18 rfl (lv_at hl 2 rfl) ?_
    obtain ⟨s5, h4, hf⟩ := br_s hf
    refine cVWv (As := [.int p2]) (rest := []) X G kc_X9_94 (tX9_putBytes l E s3 _ hL  p2 h4) (rcv X G (hL 0 rfl) (cO9 rfl) rfl) rfl rfl (rmk_le (by omega) (by decide)) rfl hl.1 rfl (Nat.le_of_ble_eq_true rfl) dX9_feed_19 ⟨Nat.zero_le _, Nat.zero_le _⟩ (fun H locs G => ?_)
    refine lv_aload_n hx hb dX9_feed_22 rfl (lv_at hl 0 rfl) ?_
    refine lv_iload_n hx hb dX9_feed_23 rfl (lv_at hl 3 rfl) ?_
    obtain ⟨s7, h6, hf⟩ := br_s hf
    refine cVWv (As := [.int p3]) (rest := []) X G kc_X9_94 (tX9_putBytes l E s5 _ hL  p3 h6) (rcv X G (hL 0 rfl) (cO9 rfl) rfl) rfl rfl (rmk_le (by omega) (by decide)) rfl hl.1 rfl (Nat.le_of_ble_eq_true rfl) dX9_feed_24 ⟨Nat.zero_le _, Nat.zero_le _⟩ (fun H locs G => ?_)
    refine lv_aload_n hx hb dX9_feed_27 rfl (lv_at hl 0 rfl) ?_
    refine lv_iload hx hb dX9_feed_28 (lv_at hl 4 rfl) ?_
    obtain ⟨s9, h8, hf⟩ := br_s hf
    refine cVWv (As := [.int p4]) (rest := []) X G kc_X9_94 (tX9_putBytes l E s7 _ hL  p4 h8) (rcv X G (hL 0 rfl) (cO9 rfl) rfl) rfl rfl (rmk_le (by omega) (by decide)) rfl hl.1 rfl (Nat.le_of_ble_eq_true rfl) dX9_feed_30 ⟨Nat.zero_le _, Nat.zero_le _⟩ (fun H locs G => ?_)
    refine lv_aload_n hx hb dX9_feed_33 rfl (lv_at hl 0 rfl) ?_
    refine lv_iload hx hb dX9_feed_34 (lv_at hl 5 rfl) ?_
    obtain ⟨s11, h10, hf⟩ := br_s hf
    refine cVWv (As := [.int p5]) (rest := []) X G kc_X9_94 (tX9_putBytes l E s9 _ hL  p5 h10) (rcv X G (hL 0 rfl) (cO9 rfl) rfl) rfl rfl (rmk_le (by omega) (by decide)) rfl hl.1 rfl (Nat.le_of_ble_eq_true rfl) dX9_feed_36 ⟨Nat.zero_le _, Nat.zero_le _⟩ (fun H locs G => ?_)
    refine lv_aload_n hx hb dX9_feed_39 rfl (lv_at hl 0 rfl) ?_
    refine gf9 X G (hL 0 rfl) rfl 1 (by decide) rfl kf_X9_13 iwX9 dX9_feed_40 ?_
    exact rtWi X hlk G hr (so_i hf) dX9_feed_43
  · have hf := it_f hf c1
    refine lv_iconst (v := (-1 : Int32)) hx hb dX9_feed_10 (by decide) ?_
    exact rtWi X hlk G hr (so_i hf) dX9_feed_11
def fX9_end (p1 : Int32) (st : St) : Option (Int32 × St) := if p1 < 0 then (some ((-1 : Int32), st)) else (if p1 ≤ (st.1 0 1) then (nm (ui st 0 1 p1) (fun s3 => some (p1, s3))) else (some ((-1 : Int32), st)))
set_option maxRecDepth 100000 in
theorem tX9_end (l : Launch) (E : Ev) (st : St) (sz : Nat) (hL : ∀ k, fxC k = true → k ∈ eL E) (p1 : Int32) {res : (Int32 × St)} (hf : fX9_end  p1 st = some res) : Met l yX9_end (.code yX9_end cX9_end 2 (some .int) :: uW) (rmk 0) (va_Pc [.ref (eq E 0), .int p1] (Pre E st sz)) (QWi E res.2 sz res.1) 0 0 (Af E sz) := by
  refine Met_in (by decide) (Nat.le_of_ble_eq_true rfl) ?_
  intro p e s m below meth c X hr hlk hz G ls hl
  have hx := X.1.1
  have hb := X.1.2.1
  have hl : lv_has ls 2 [(0, .ref (eq E 0)), (1, .int p1)] := hl
  unfold fX9_end at hf
  refine lv_iload_n hx hb dX9_end_0 rfl (lv_at hl 1 rfl) ?_
  refine lv_if_lt (tgt := 12) hx hb dX9_end_1 (by decide) (fun c1 => ?_) (fun c1 => ?_)
  · have hf := it_t hf c1
    refine lv_iconst (v := (-1 : Int32)) hx hb dX9_end_12 (by decide) ?_
    exact rtWi X hlk G hr (so_i hf) dX9_end_13
  · have hf := it_f hf c1
    refine lv_iload_n hx hb dX9_end_4 rfl (lv_at hl 1 rfl) ?_
    refine lv_aload_n hx hb dX9_end_5 rfl (lv_at hl 0 rfl) ?_
    refine gf9 X G (hL 0 rfl) rfl 1 (by decide) rfl kf_X9_13 iwX9 dX9_end_6 ?_
    refine lv_icmp_le (tgt := 14) hx hb dX9_end_9 (by decide) (fun c2 => ?_) (fun c2 => ?_)
    · have hf := it_t hf c2
      refine lv_aload_n hx hb dX9_end_14 rfl (lv_at hl 0 rfl) ?_
      refine lv_iload_n hx hb dX9_end_15 rfl (lv_at hl 1 rfl) ?_
      refine pf9 X G (hL 0 rfl) rfl 1 (by decide) ps9_1 uio kf_X9_13 iwX9 rfl (ty := .int) (by decide +kernel) rfl rfl dX9_end_16 (fun s3 es3 H locs G => ?_)
      have hf := nm_s hf s3 es3
      refine lv_iload_n hx hb dX9_end_19 rfl (lv_at hl 1 rfl) ?_
      exact rtWi X hlk G hr (so_i hf) dX9_end_20
    · have hf := it_f hf c2
      refine lv_iconst (v := (-1 : Int32)) hx hb dX9_end_12 (by decide) ?_
      exact rtWi X hlk G hr (so_i hf) dX9_end_13
def fX9_duchy (st : St) : Option (Int32 × St) := br (fX7_read 1 400 (st.1 0 1) st) (fun s2 => nm (ui s2 0 1 (0 : Int32)) (fun s3 => bw (fX0_read s3) (fun x6 s5 => if x6 = 0 then (br (fX2_settle 120 100 s5) (fun s9 => some ((s9.1 134 4), s9))) else (some (((-2 : Int32) - x6), s5)))))
set_option maxRecDepth 100000 in
theorem tX9_duchy (l : Launch) (E : Ev) (st : St) (sz : Nat) (hL : ∀ k, fxC k = true → k ∈ eL E)  {res : (Int32 × St)} (hf : fX9_duchy   st = some res) : Met l yX9_duchy (.code yX9_duchy cX9_duchy 2 (some .int) :: uW) (rmk 9) (va_Pc [.ref (eq E 0)] (Pre E st sz)) (QWi E res.2 sz res.1) 0 0 (Af E sz) := by
  refine Met_in (by decide) (Nat.le_of_ble_eq_true rfl) ?_
  intro p e s m below meth c X hr hlk hz G ls hl
  have hx := X.1.1
  have hb := X.1.2.1
  have hl : lv_has ls 2 [(0, .ref (eq E 0))] := hl
  unfold fX9_duchy at hf
  refine lv_aload_n hx hb dX9_duchy_0 rfl (lv_at hl 0 rfl) ?_
  refine gf9 X G (hL 0 rfl) rfl 2 (by decide) rfl kf_X9_20 iwX9 dX9_duchy_1 ?_
  refine lv_aload_n hx hb dX9_duchy_4 rfl (lv_at hl 0 rfl) ?_
  refine gf9 X G (hL 0 rfl) rfl 0 (by decide) rfl kf_X9_9 iwX9 dX9_duchy_5 ?_
  refine lv_aload_n hx hb dX9_duchy_8 rfl (lv_at hl 0 rfl) ?_
  refine gf9 X G (hL 0 rfl) rfl 1 (by decide) rfl kf_X9_13 iwX9 dX9_duchy_9 ?_
  obtain ⟨s2, h1, hf⟩ := br_s hf
  refine cVWv (As := [.ref (eq E 1), .int (st.1 0 1)]) (rest := []) X G kc_X9_98 (tX7_read l E st _ hL (hL 1 rfl) rfl (by decide) (st.1 0 1) h1) (rcv X G (hL 20 rfl) (cO7 rfl) rfl) rfl rfl (rmk_le (by omega) (by decide)) rfl hl.1 rfl (Nat.le_of_ble_eq_true rfl) dX9_duchy_12 ⟨Nat.zero_le _, Nat.zero_le _⟩ (fun H locs G => ?_)
  refine lv_aload_n hx hb dX9_duchy_15 rfl (lv_at hl 0 rfl) ?_
  refine lv_iconst (v := (0 : Int32)) hx hb dX9_duchy_16 (by decide) ?_
  refine pf9 X G (hL 0 rfl) rfl 1 (by decide) ps9_1 uio kf_X9_13 iwX9 rfl (ty := .int) (by decide +kernel) rfl rfl dX9_duchy_17 (fun s3 es3 H locs G => ?_)
  have hf := nm_s hf s3 es3
  refine lv_aload_n hx hb dX9_duchy_20 rfl (lv_at hl 0 rfl) ?_
  refine gf9 X G (hL 0 rfl) rfl 3 (by decide) rfl kf_X9_29 iwX9 dX9_duchy_21 ?_
  obtain ⟨x6, s5, h4, hf⟩ := bw_s hf
  refine cVWi (As := []) (rest := []) X G kc_X9_102 (tX0_read l E s3 _ hL   h4) (rcv X G (hL 30 rfl) (cO0 rfl) rfl) rfl rfl (rmk_le (by omega) (by decide)) rfl hl.1 rfl (Nat.le_of_ble_eq_true rfl) dX9_duchy_24 ⟨Nat.zero_le _, Nat.zero_le _⟩ (fun H locs G => ?_)
  refine lv_istore_n (lv' := [(1, .int x6), (0, .ref (eq E 0))]) hx hb dX9_duchy_27 rfl hl (by decide) rfl (fun ls hl => ?_)
  refine lv_iload_n hx hb dX9_duchy_28 rfl (lv_at hl 0 rfl) ?_
  refine lv_if_eq (tgt := 37) hx hb dX9_duchy_29 (by decide) (fun c7 => ?_) (fun c7 => ?_)
  · have hf := it_t hf c7
    refine lv_aload_n hx hb dX9_duchy_37 rfl (lv_at hl 1 rfl) ?_
    refine gf9 X G (hL 0 rfl) rfl 7 (by decide) rfl kf_X9_52 iwX9 dX9_duchy_38 ?_
    refine lv_aload_n hx hb dX9_duchy_41 rfl (lv_at hl 1 rfl) ?_
    refine gf9 X G (hL 0 rfl) rfl 3 (by decide) rfl kf_X9_29 iwX9 dX9_duchy_42 ?_
    refine gf0 X G (hL 30 rfl) rfl 3 (by decide) rfl kf_X9_105 iwX0 dX9_duchy_45 ?_
    obtain ⟨s9, h8, hf⟩ := br_s hf
    refine cVWv (As := [.ref (eq E 100)]) (rest := []) X G kc_X9_108 (tX2_settle l E s5 _ hL (ok_120 hL) (ok_100 hL)  h8) (rcv X G (hL 120 rfl) (cO2 rfl) rfl) rfl rfl (rmk_le (by omega) (by decide)) rfl hl.1 rfl (Nat.le_of_ble_eq_true rfl) dX9_duchy_48 ⟨Nat.zero_le _, Nat.zero_le _⟩ (fun H locs G => ?_)
    refine lv_aload_n hx hb dX9_duchy_51 rfl (lv_at hl 1 rfl) ?_
    refine gf9 X G (hL 0 rfl) rfl 7 (by decide) rfl kf_X9_52 iwX9 dX9_duchy_52 ?_
    refine gf2 X G (hL 120 rfl) rfl 0 (by decide) rfl kf_X9_62 iwX2 dX9_duchy_55 ?_
    refine gf1 X G (hL 134 rfl) rfl 4 (by decide) rfl kf_X9_111 iwX1 dX9_duchy_58 ?_
    exact rtWi X hlk G hr (so_i hf) dX9_duchy_61
  · have hf := it_f hf c7
    refine lv_bipush (v := (-2 : Int32)) hx hb dX9_duchy_32 (by decide) ?_
    refine lv_iload_n hx hb dX9_duchy_34 rfl (lv_at hl 0 rfl) ?_
    refine lv_isub hx hb dX9_duchy_35 ?_
    exact rtWi X hlk G hr (so_i hf) dX9_duchy_36
def fX9_force (p1 : Int32) (st : St) : Option (Int32 × St) := if p1 < (-1 : Int32) then (some ((-2 : Int32), st)) else (if p1 < (st.1 0 6) then (nm (st.1 120 8) (fun x3 => nm (ui st 120 8 p1) (fun s4 => some (x3, s4)))) else (some ((-2 : Int32), st)))
set_option maxRecDepth 100000 in
theorem tX9_force (l : Launch) (E : Ev) (st : St) (sz : Nat) (hL : ∀ k, fxC k = true → k ∈ eL E) (p1 : Int32) {res : (Int32 × St)} (hf : fX9_force  p1 st = some res) : Met l yX9_force (.code yX9_force cX9_force 3 (some .int) :: uW) (rmk 0) (va_Pc [.ref (eq E 0), .int p1] (Pre E st sz)) (QWi E res.2 sz res.1) 0 0 (Af E sz) := by
  refine Met_in (by decide) (Nat.le_of_ble_eq_true rfl) ?_
  intro p e s m below meth c X hr hlk hz G ls hl
  have hx := X.1.1
  have hb := X.1.2.1
  have hl : lv_has ls 3 [(0, .ref (eq E 0)), (1, .int p1)] := hl
  unfold fX9_force at hf
  refine lv_iload_n hx hb dX9_force_0 rfl (lv_at hl 1 rfl) ?_
  refine lv_iconst (v := (-1 : Int32)) hx hb dX9_force_1 (by decide) ?_
  refine lv_icmp_lt (tgt := 13) hx hb dX9_force_2 (by decide) (fun c1 => ?_) (fun c1 => ?_)
  · have hf := it_t hf c1
    refine lv_bipush (v := (-2 : Int32)) hx hb dX9_force_13 (by decide) ?_
    exact rtWi X hlk G hr (so_i hf) dX9_force_15
  · have hf := it_f hf c1
    refine lv_iload_n hx hb dX9_force_5 rfl (lv_at hl 1 rfl) ?_
    refine lv_aload_n hx hb dX9_force_6 rfl (lv_at hl 0 rfl) ?_
    refine gf9 X G (hL 0 rfl) rfl 6 (by decide) rfl kf_X9_46 iwX9 dX9_force_7 ?_
    refine lv_icmp_lt (tgt := 16) hx hb dX9_force_10 (by decide) (fun c2 => ?_) (fun c2 => ?_)
    · have hf := it_t hf c2
      refine lv_aload_n hx hb dX9_force_16 rfl (lv_at hl 0 rfl) ?_
      refine gf9 X G (hL 0 rfl) rfl 7 (by decide) rfl kf_X9_52 iwX9 dX9_force_17 ?_
      refine gf2 X G (hL 120 rfl) rfl 8 (by decide) rfl kf_X9_121 iwX2 dX9_force_20 ?_
      refine lv_topi (fun x3 ex3 => ?_)
      have hf := nm_s hf x3 ex3
      refine lv_istore_n (lv' := [(2, .int x3), (0, .ref (eq E 0)), (1, .int p1)]) hx hb dX9_force_23 rfl hl (by decide) rfl (fun ls hl => ?_)
      refine lv_aload_n hx hb dX9_force_24 rfl (lv_at hl 1 rfl) ?_
      refine gf9 X G (hL 0 rfl) rfl 7 (by decide) rfl kf_X9_52 iwX9 dX9_force_25 ?_
      refine lv_iload_n hx hb dX9_force_28 rfl (lv_at hl 2 rfl) ?_
      refine pf2 X G (hL 120 rfl) rfl 8 (by decide) ps2_8 uio kf_X9_121 iwX2 rfl (ty := .int) (by decide +kernel) rfl rfl dX9_force_29 (fun s4 es4 H locs G => ?_)
      have hf := nm_s hf s4 es4
      refine lv_iload_n hx hb dX9_force_32 rfl (lv_at hl 0 rfl) ?_
      exact rtWi X hlk G hr (so_i hf) dX9_force_33
    · have hf := it_f hf c2
      refine lv_bipush (v := (-2 : Int32)) hx hb dX9_force_13 (by decide) ?_
      exact rtWi X hlk G hr (so_i hf) dX9_force_15
def fX9_isHouse (st : St) (p1 : Int32) : Option Int32 := if p1 < 0 then (some (0 : Int32)) else (if (st.1 134 4) ≤ p1 then (some (0 : Int32)) else (some (1 : Int32)))
set_option maxRecDepth 100000 in
theorem tX9_isHouse (l : Launch) (E : Ev) (st : St) (sz : Nat) (hL : ∀ k, fxC k = true → k ∈ eL E) (p1 : Int32) {res : Int32} (hf : fX9_isHouse st p1 = some res) : Met l yX9_isHouse (.code yX9_isHouse cX9_isHouse 2 (some .boolean) :: uW) (rmk 0) (va_Pc [.ref (eq E 0), .int p1] (Pre E st sz)) (QRi res) 0 0 (NoF) := by
  refine Met_in (by decide) (Nat.le_of_ble_eq_true rfl) ?_
  intro p e s m below meth c X hr hlk hz G ls hl
  have hx := X.1.1
  have hb := X.1.2.1
  have hl : lv_has ls 2 [(0, .ref (eq E 0)), (1, .int p1)] := hl
  unfold fX9_isHouse at hf
  refine lv_iload_n hx hb dX9_isHouse_0 rfl (lv_at hl 1 rfl) ?_
  refine lv_if_lt (tgt := 22) hx hb dX9_isHouse_1 (by decide) (fun c1 => ?_) (fun c1 => ?_)
  · have hf := it_t hf c1
    refine lv_iconst (v := (0 : Int32)) hx hb dX9_isHouse_22 (by decide) ?_
    exact rtRz X hlk hr rfl (so_i hf) dX9_isHouse_23
  · have hf := it_f hf c1
    refine lv_iload_n hx hb dX9_isHouse_4 rfl (lv_at hl 1 rfl) ?_
    refine lv_aload_n hx hb dX9_isHouse_5 rfl (lv_at hl 0 rfl) ?_
    refine gf9 X G (hL 0 rfl) rfl 7 (by decide) rfl kf_X9_52 iwX9 dX9_isHouse_6 ?_
    refine gf2 X G (hL 120 rfl) rfl 0 (by decide) rfl kf_X9_62 iwX2 dX9_isHouse_9 ?_
    refine gf1 X G (hL 134 rfl) rfl 4 (by decide) rfl kf_X9_111 iwX1 dX9_isHouse_12 ?_
    refine lv_icmp_ge (tgt := 22) hx hb dX9_isHouse_15 (by decide) (fun c2 => ?_) (fun c2 => ?_)
    · have hf := it_t hf c2
      refine lv_iconst (v := (0 : Int32)) hx hb dX9_isHouse_22 (by decide) ?_
      exact rtRz X hlk hr rfl (so_i hf) dX9_isHouse_23
    · have hf := it_f hf c2
      refine lv_iconst (v := (1 : Int32)) hx hb dX9_isHouse_18 (by decide) ?_
      refine lv_goto (tgt := 23) hx hb dX9_isHouse_19 (by decide) ?_
      exact rtRz X hlk hr rfl (so_i hf) dX9_isHouse_23
def fX9_isFrozen (st : St) (p1 : Int32) : Option Int32 := if (((st.1 122 38) >>> (p1 &&& 31)) &&& (1 : Int32)) = 0 then (some (0 : Int32)) else (some (1 : Int32))
set_option maxRecDepth 100000 in
theorem tX9_isFrozen (l : Launch) (E : Ev) (st : St) (sz : Nat) (hL : ∀ k, fxC k = true → k ∈ eL E) (p1 : Int32) {res : Int32} (hf : fX9_isFrozen st p1 = some res) : Met l yX9_isFrozen (.code yX9_isFrozen cX9_isFrozen 2 (some .boolean) :: uW) (rmk 0) (va_Pc [.ref (eq E 0), .int p1] (Pre E st sz)) (QRi res) 0 0 (NoF) := by
  refine Met_in (by decide) (Nat.le_of_ble_eq_true rfl) ?_
  intro p e s m below meth c X hr hlk hz G ls hl
  have hx := X.1.1
  have hb := X.1.2.1
  have hl : lv_has ls 2 [(0, .ref (eq E 0)), (1, .int p1)] := hl
  unfold fX9_isFrozen at hf
  refine lv_aload_n hx hb dX9_isFrozen_0 rfl (lv_at hl 0 rfl) ?_
  refine gf9 X G (hL 0 rfl) rfl 7 (by decide) rfl kf_X9_52 iwX9 dX9_isFrozen_1 ?_
  refine gf2 X G (hL 120 rfl) rfl 1 (by decide) rfl kf_X9_128 iwX2 dX9_isFrozen_4 ?_
  refine lv_bipush (v := (38 : Int32)) hx hb dX9_isFrozen_7 (by decide) ?_
  refine ia_ldc (k := 122) (n := 41) X G (hL 122 rfl) rfl (by decide) 38 (by decide) dX9_isFrozen_9 ?_
  refine lv_iload_n hx hb dX9_isFrozen_10 rfl (lv_at hl 1 rfl) ?_
  refine lv_ishr hx hb dX9_isFrozen_11 ?_
  refine lv_iconst (v := (1 : Int32)) hx hb dX9_isFrozen_12 (by decide) ?_
  refine lv_iand hx hb dX9_isFrozen_13 ?_
  refine lv_if_eq (tgt := 21) hx hb dX9_isFrozen_14 (by decide) (fun c2 => ?_) (fun c2 => ?_)
  · have hf := it_t hf c2
    refine lv_iconst (v := (0 : Int32)) hx hb dX9_isFrozen_21 (by decide) ?_
    exact rtRz X hlk hr rfl (so_i hf) dX9_isFrozen_22
  · have hf := it_f hf c2
    refine lv_iconst (v := (1 : Int32)) hx hb dX9_isFrozen_17 (by decide) ?_
    refine lv_goto (tgt := 22) hx hb dX9_isFrozen_18 (by decide) ?_
    exact rtRz X hlk hr rfl (so_i hf) dX9_isFrozen_22
def fX9_house (st : St) (p1 : Int32) (p2 : Int32) : Option Int32 := br (fX9_isHouse st p1) (fun x2 => if x2 = 0 then (some (-2 : Int32)) else (if p2 = (0 : Int32) then (gd (ix ((0 : Int32) + p1) 41) (some (st.1 122 ((0 : Int32) + p1).toNatClampNeg))) else (if p2 = (1 : Int32) then (gd (ix ((8 : Int32) + p1) 41) (some (st.1 122 ((8 : Int32) + p1).toNatClampNeg))) else (if p2 = (2 : Int32) then (gd (ix p1 8) (some (st.1 143 p1.toNatClampNeg))) else (if p2 = (3 : Int32) then (gd (ix ((16 : Int32) + p1) 41) (some (st.1 122 ((16 : Int32) + p1).toNatClampNeg))) else (if p2 = (4 : Int32) then (br (fX9_isFrozen st p1) (fun x5 => if x5 = 0 then (some (0 : Int32)) else (some (1 : Int32)))) else (if p2 = (5 : Int32) then (gd (ix p1 8) (some (st.1 144 p1.toNatClampNeg))) else (if p2 = (6 : Int32) then (gd (ix ((24 : Int32) + p1) 41) (some (st.1 122 ((24 : Int32) + p1).toNatClampNeg))) else (some (-2 : Int32))))))))))
set_option maxRecDepth 100000 in
theorem tX9_house (l : Launch) (E : Ev) (st : St) (sz : Nat) (hL : ∀ k, fxC k = true → k ∈ eL E) (p1 : Int32) (p2 : Int32) {res : Int32} (hf : fX9_house st p1 p2 = some res) : Met l yX9_house (.code yX9_house cX9_house 3 (some .int) :: uW) (rmk 1) (va_Pc [.ref (eq E 0), .int p1, .int p2] (Pre E st sz)) (QRi res) 0 0 (NoF) := by
  refine Met_in (by decide) (Nat.le_of_ble_eq_true rfl) ?_
  intro p e s m below meth c X hr hlk hz G ls hl
  have hx := X.1.1
  have hb := X.1.2.1
  have hl : lv_has ls 3 [(0, .ref (eq E 0)), (1, .int p1), (2, .int p2)] := hl
  unfold fX9_house at hf
  refine lv_aload_n hx hb dX9_house_0 rfl (lv_at hl 0 rfl) ?_
  refine lv_iload_n hx hb dX9_house_1 rfl (lv_at hl 1 rfl) ?_
  obtain ⟨x2, h1, hf⟩ := br_s hf
  refine cVRi (As := [.int p1]) (rest := []) X G kc_X9_124 (tX9_isHouse l E st _ hL  p1 h1) (rcv X G (hL 0 rfl) (cO9 rfl) rfl) rfl rfl (rmk_le (by omega) (by decide)) rfl hl.1 rfl (Nat.le_of_ble_eq_true rfl) dX9_house_2 ⟨Nat.zero_le _, Nat.zero_le _⟩ ?_
  refine lv_if_ne (tgt := 11) hx hb dX9_house_5 (by decide) (fun c3 => ?_) (fun c3 => ?_)
  · have hf := it_f hf c3
    refine lv_iload_n hx hb dX9_house_11 rfl (lv_at hl 2 rfl) ?_
    by_cases cs0 : p2 = (0 : Int32)
    · have hf := it_t hf cs0
      refine tbl_in hx hb dX9_house_12 cs0 (by decide) (by decide) rfl (tgt := 56) (by decide) ?_
      refine lv_aload_n hx hb dX9_house_56 rfl (lv_at hl 0 rfl) ?_
      refine gf9 X G (hL 0 rfl) rfl 7 (by decide) rfl kf_X9_52 iwX9 dX9_house_57 ?_
      refine gf2 X G (hL 120 rfl) rfl 1 (by decide) rfl kf_X9_128 iwX2 dX9_house_60 ?_
      refine lv_iconst (v := (0 : Int32)) hx hb dX9_house_63 (by decide) ?_
      refine lv_iload_n hx hb dX9_house_64 rfl (lv_at hl 1 rfl) ?_
      refine lv_iadd hx hb dX9_house_65 ?_
      obtain ⟨h4, hf⟩ := gd_s hf
      refine ia_ld (k := 122) (n := 41) X G (hL 122 rfl) rfl (by decide) (ix_in h4) dX9_house_66 ?_
      exact rtRi X hlk hr (so_i hf) dX9_house_67
    have hf := it_f hf cs0
    by_cases cs1 : p2 = (1 : Int32)
    · have hf := it_t hf cs1
      refine tbl_in hx hb dX9_house_12 cs1 (by decide) (by decide) rfl (tgt := 68) (by decide) ?_
      refine lv_aload_n hx hb dX9_house_68 rfl (lv_at hl 0 rfl) ?_
      refine gf9 X G (hL 0 rfl) rfl 7 (by decide) rfl kf_X9_52 iwX9 dX9_house_69 ?_
      refine gf2 X G (hL 120 rfl) rfl 1 (by decide) rfl kf_X9_128 iwX2 dX9_house_72 ?_
      refine lv_bipush (v := (8 : Int32)) hx hb dX9_house_75 (by decide) ?_
      refine lv_iload_n hx hb dX9_house_77 rfl (lv_at hl 1 rfl) ?_
      refine lv_iadd hx hb dX9_house_78 ?_
      obtain ⟨h4, hf⟩ := gd_s hf
      refine ia_ld (k := 122) (n := 41) X G (hL 122 rfl) rfl (by decide) (ix_in h4) dX9_house_79 ?_
      exact rtRi X hlk hr (so_i hf) dX9_house_80
    have hf := it_f hf cs1
    by_cases cs2 : p2 = (2 : Int32)
    · have hf := it_t hf cs2
      refine tbl_in hx hb dX9_house_12 cs2 (by decide) (by decide) rfl (tgt := 81) (by decide) ?_
      refine lv_aload_n hx hb dX9_house_81 rfl (lv_at hl 0 rfl) ?_
      refine gf9 X G (hL 0 rfl) rfl 7 (by decide) rfl kf_X9_52 iwX9 dX9_house_82 ?_
      refine gf2 X G (hL 120 rfl) rfl 0 (by decide) rfl kf_X9_62 iwX2 dX9_house_85 ?_
      refine gf1 X G (hL 134 rfl) rfl 8 (by decide) rfl kf_X9_131 iwX1 dX9_house_88 ?_
      refine lv_iload_n hx hb dX9_house_91 rfl (lv_at hl 1 rfl) ?_
      obtain ⟨h4, hf⟩ := gd_s hf
      refine ia_ld (k := 143) (n := 8) X G (hL 143 rfl) rfl (by decide) (ix_in h4) dX9_house_92 ?_
      exact rtRi X hlk hr (so_i hf) dX9_house_93
    have hf := it_f hf cs2
    by_cases cs3 : p2 = (3 : Int32)
    · have hf := it_t hf cs3
      refine tbl_in hx hb dX9_house_12 cs3 (by decide) (by decide) rfl (tgt := 94) (by decide) ?_
      refine lv_aload_n hx hb dX9_house_94 rfl (lv_at hl 0 rfl) ?_
      refine gf9 X G (hL 0 rfl) rfl 7 (by decide) rfl kf_X9_52 iwX9 dX9_house_95 ?_
      refine gf2 X G (hL 120 rfl) rfl 1 (by decide) rfl kf_X9_128 iwX2 dX9_house_98 ?_
      refine lv_bipush (v := (16 : Int32)) hx hb dX9_house_101 (by decide) ?_
      refine lv_iload_n hx hb dX9_house_103 rfl (lv_at hl 1 rfl) ?_
      refine lv_iadd hx hb dX9_house_104 ?_
      obtain ⟨h4, hf⟩ := gd_s hf
      refine ia_ld (k := 122) (n := 41) X G (hL 122 rfl) rfl (by decide) (ix_in h4) dX9_house_105 ?_
      exact rtRi X hlk hr (so_i hf) dX9_house_106
    have hf := it_f hf cs3
    by_cases cs4 : p2 = (4 : Int32)
    · have hf := it_t hf cs4
      refine tbl_in hx hb dX9_house_12 cs4 (by decide) (by decide) rfl (tgt := 107) (by decide) ?_
      refine lv_aload_n hx hb dX9_house_107 rfl (lv_at hl 0 rfl) ?_
      refine lv_iload_n hx hb dX9_house_108 rfl (lv_at hl 1 rfl) ?_
      obtain ⟨x5, h4, hf⟩ := br_s hf
      refine cVRi (As := [.int p1]) (rest := []) X G kc_X9_134 (tX9_isFrozen l E st _ hL  p1 h4) (rcv X G (hL 0 rfl) (cO9 rfl) rfl) rfl rfl (rmk_le (by omega) (by decide)) rfl hl.1 rfl (Nat.le_of_ble_eq_true rfl) dX9_house_109 ⟨Nat.zero_le _, Nat.zero_le _⟩ ?_
      refine lv_if_eq (tgt := 119) hx hb dX9_house_112 (by decide) (fun c6 => ?_) (fun c6 => ?_)
      · have hf := it_t hf c6
        refine lv_iconst (v := (0 : Int32)) hx hb dX9_house_119 (by decide) ?_
        exact rtRi X hlk hr (so_i hf) dX9_house_120
      · have hf := it_f hf c6
        refine lv_iconst (v := (1 : Int32)) hx hb dX9_house_115 (by decide) ?_
        refine lv_goto (tgt := 120) hx hb dX9_house_116 (by decide) ?_
        exact rtRi X hlk hr (so_i hf) dX9_house_120
    have hf := it_f hf cs4
    by_cases cs5 : p2 = (5 : Int32)
    · have hf := it_t hf cs5
      refine tbl_in hx hb dX9_house_12 cs5 (by decide) (by decide) rfl (tgt := 121) (by decide) ?_
      refine lv_aload_n hx hb dX9_house_121 rfl (lv_at hl 0 rfl) ?_
      refine gf9 X G (hL 0 rfl) rfl 7 (by decide) rfl kf_X9_52 iwX9 dX9_house_122 ?_
      refine gf2 X G (hL 120 rfl) rfl 0 (by decide) rfl kf_X9_62 iwX2 dX9_house_125 ?_
      refine gf1 X G (hL 134 rfl) rfl 9 (by decide) rfl kf_X9_137 iwX1 dX9_house_128 ?_
      refine lv_iload_n hx hb dX9_house_131 rfl (lv_at hl 1 rfl) ?_
      obtain ⟨h4, hf⟩ := gd_s hf
      refine ia_ld (k := 144) (n := 8) X G (hL 144 rfl) rfl (by decide) (ix_in h4) dX9_house_132 ?_
      exact rtRi X hlk hr (so_i hf) dX9_house_133
    have hf := it_f hf cs5
    by_cases cs6 : p2 = (6 : Int32)
    · have hf := it_t hf cs6
      refine tbl_in hx hb dX9_house_12 cs6 (by decide) (by decide) rfl (tgt := 134) (by decide) ?_
      refine lv_aload_n hx hb dX9_house_134 rfl (lv_at hl 0 rfl) ?_
      refine gf9 X G (hL 0 rfl) rfl 7 (by decide) rfl kf_X9_52 iwX9 dX9_house_135 ?_
      refine gf2 X G (hL 120 rfl) rfl 1 (by decide) rfl kf_X9_128 iwX2 dX9_house_138 ?_
      refine lv_bipush (v := (24 : Int32)) hx hb dX9_house_141 (by decide) ?_
      refine lv_iload_n hx hb dX9_house_143 rfl (lv_at hl 1 rfl) ?_
      refine lv_iadd hx hb dX9_house_144 ?_
      obtain ⟨h4, hf⟩ := gd_s hf
      refine ia_ld (k := 122) (n := 41) X G (hL 122 rfl) rfl (by decide) (ix_in h4) dX9_house_145 ?_
      exact rtRi X hlk hr (so_i hf) dX9_house_146
    have hf := it_f hf cs6
    have kd : W p l e (rmk 1) s m [.ref (eq E 0), .int p1, .int p2].toArray below meth c s.heap [] 0 0 (MQ below (QRi res) [.ref (eq E 0), .int p1, .int p2].toArray s 0 0 (NoF)) (F0 m 147 ls []) := by
      refine lv_bipush (v := (-2 : Int32)) hx hb dX9_house_147 (by decide) ?_
      exact rtRi X hlk hr (so_i hf) dX9_house_149
    refine lv_tableOut (tgt := 147) hx hb dX9_house_12 (sw_out (fun v h1 h2 => ?_)) (by decide) kd
    rcases (show v = 0 ∨ v = 1 ∨ v = 2 ∨ v = 3 ∨ v = 4 ∨ v = 5 ∨ v = 6 by omega) with rfl | rfl | rfl | rfl | rfl | rfl | rfl
    · exact cs0
    · exact cs1
    · exact cs2
    · exact cs3
    · exact cs4
    · exact cs5
    · exact cs6
  · have hf := it_t hf c3
    refine lv_bipush (v := (-2 : Int32)) hx hb dX9_house_8 (by decide) ?_
    exact rtRi X hlk hr (so_i hf) dX9_house_10
def fX9_isOfficer (st : St) (p1 : Int32) : Option Int32 := if p1 < 0 then (some (0 : Int32)) else (if (st.1 134 6) ≤ p1 then (some (0 : Int32)) else (some (1 : Int32)))
set_option maxRecDepth 100000 in
theorem tX9_isOfficer (l : Launch) (E : Ev) (st : St) (sz : Nat) (hL : ∀ k, fxC k = true → k ∈ eL E) (p1 : Int32) {res : Int32} (hf : fX9_isOfficer st p1 = some res) : Met l yX9_isOfficer (.code yX9_isOfficer cX9_isOfficer 2 (some .boolean) :: uW) (rmk 0) (va_Pc [.ref (eq E 0), .int p1] (Pre E st sz)) (QRi res) 0 0 (NoF) := by
  refine Met_in (by decide) (Nat.le_of_ble_eq_true rfl) ?_
  intro p e s m below meth c X hr hlk hz G ls hl
  have hx := X.1.1
  have hb := X.1.2.1
  have hl : lv_has ls 2 [(0, .ref (eq E 0)), (1, .int p1)] := hl
  unfold fX9_isOfficer at hf
  refine lv_iload_n hx hb dX9_isOfficer_0 rfl (lv_at hl 1 rfl) ?_
  refine lv_if_lt (tgt := 22) hx hb dX9_isOfficer_1 (by decide) (fun c1 => ?_) (fun c1 => ?_)
  · have hf := it_t hf c1
    refine lv_iconst (v := (0 : Int32)) hx hb dX9_isOfficer_22 (by decide) ?_
    exact rtRz X hlk hr rfl (so_i hf) dX9_isOfficer_23
  · have hf := it_f hf c1
    refine lv_iload_n hx hb dX9_isOfficer_4 rfl (lv_at hl 1 rfl) ?_
    refine lv_aload_n hx hb dX9_isOfficer_5 rfl (lv_at hl 0 rfl) ?_
    refine gf9 X G (hL 0 rfl) rfl 7 (by decide) rfl kf_X9_52 iwX9 dX9_isOfficer_6 ?_
    refine gf2 X G (hL 120 rfl) rfl 0 (by decide) rfl kf_X9_62 iwX2 dX9_isOfficer_9 ?_
    refine gf1 X G (hL 134 rfl) rfl 6 (by decide) rfl kf_X9_231 iwX1 dX9_isOfficer_12 ?_
    refine lv_icmp_ge (tgt := 22) hx hb dX9_isOfficer_15 (by decide) (fun c2 => ?_) (fun c2 => ?_)
    · have hf := it_t hf c2
      refine lv_iconst (v := (0 : Int32)) hx hb dX9_isOfficer_22 (by decide) ?_
      exact rtRz X hlk hr rfl (so_i hf) dX9_isOfficer_23
    · have hf := it_f hf c2
      refine lv_iconst (v := (1 : Int32)) hx hb dX9_isOfficer_18 (by decide) ?_
      refine lv_goto (tgt := 23) hx hb dX9_isOfficer_19 (by decide) ?_
      exact rtRz X hlk hr rfl (so_i hf) dX9_isOfficer_23
def fX9_officer (st : St) (p1 : Int32) (p2 : Int32) : Option Int32 := br (fX9_isOfficer st p1) (fun x2 => if x2 = 0 then (some (-1 : Int32)) else (if p2 = (0 : Int32) then (gd (ix ((32 : Int32) + p1) 41) (some (st.1 122 ((32 : Int32) + p1).toNatClampNeg))) else (if p2 = (1 : Int32) then (gd (ix p1 3) (some (st.1 145 p1.toNatClampNeg))) else (if p2 = (2 : Int32) then (gd (ix ((35 : Int32) + p1) 41) (some (st.1 122 ((35 : Int32) + p1).toNatClampNeg))) else (some (-1 : Int32))))))
set_option maxRecDepth 100000 in
theorem tX9_officer (l : Launch) (E : Ev) (st : St) (sz : Nat) (hL : ∀ k, fxC k = true → k ∈ eL E) (p1 : Int32) (p2 : Int32) {res : Int32} (hf : fX9_officer st p1 p2 = some res) : Met l yX9_officer (.code yX9_officer cX9_officer 3 (some .int) :: uW) (rmk 1) (va_Pc [.ref (eq E 0), .int p1, .int p2] (Pre E st sz)) (QRi res) 0 0 (NoF) := by
  refine Met_in (by decide) (Nat.le_of_ble_eq_true rfl) ?_
  intro p e s m below meth c X hr hlk hz G ls hl
  have hx := X.1.1
  have hb := X.1.2.1
  have hl : lv_has ls 3 [(0, .ref (eq E 0)), (1, .int p1), (2, .int p2)] := hl
  unfold fX9_officer at hf
  refine lv_aload_n hx hb dX9_officer_0 rfl (lv_at hl 0 rfl) ?_
  refine lv_iload_n hx hb dX9_officer_1 rfl (lv_at hl 1 rfl) ?_
  obtain ⟨x2, h1, hf⟩ := br_s hf
  refine cVRi (As := [.int p1]) (rest := []) X G kc_X9_140 (tX9_isOfficer l E st _ hL  p1 h1) (rcv X G (hL 0 rfl) (cO9 rfl) rfl) rfl rfl (rmk_le (by omega) (by decide)) rfl hl.1 rfl (Nat.le_of_ble_eq_true rfl) dX9_officer_2 ⟨Nat.zero_le _, Nat.zero_le _⟩ ?_
  refine lv_if_ne (tgt := 10) hx hb dX9_officer_5 (by decide) (fun c3 => ?_) (fun c3 => ?_)
  · have hf := it_f hf c3
    refine lv_iload_n hx hb dX9_officer_10 rfl (lv_at hl 2 rfl) ?_
    by_cases cs0 : p2 = (0 : Int32)
    · have hf := it_t hf cs0
      refine tbl_in hx hb dX9_officer_11 cs0 (by decide) (by decide) rfl (tgt := 36) (by decide) ?_
      refine lv_aload_n hx hb dX9_officer_36 rfl (lv_at hl 0 rfl) ?_
      refine gf9 X G (hL 0 rfl) rfl 7 (by decide) rfl kf_X9_52 iwX9 dX9_officer_37 ?_
      refine gf2 X G (hL 120 rfl) rfl 1 (by decide) rfl kf_X9_128 iwX2 dX9_officer_40 ?_
      refine lv_bipush (v := (32 : Int32)) hx hb dX9_officer_43 (by decide) ?_
      refine lv_iload_n hx hb dX9_officer_45 rfl (lv_at hl 1 rfl) ?_
      refine lv_iadd hx hb dX9_officer_46 ?_
      obtain ⟨h4, hf⟩ := gd_s hf
      refine ia_ld (k := 122) (n := 41) X G (hL 122 rfl) rfl (by decide) (ix_in h4) dX9_officer_47 ?_
      exact rtRi X hlk hr (so_i hf) dX9_officer_48
    have hf := it_f hf cs0
    by_cases cs1 : p2 = (1 : Int32)
    · have hf := it_t hf cs1
      refine tbl_in hx hb dX9_officer_11 cs1 (by decide) (by decide) rfl (tgt := 49) (by decide) ?_
      refine lv_aload_n hx hb dX9_officer_49 rfl (lv_at hl 0 rfl) ?_
      refine gf9 X G (hL 0 rfl) rfl 7 (by decide) rfl kf_X9_52 iwX9 dX9_officer_50 ?_
      refine gf2 X G (hL 120 rfl) rfl 0 (by decide) rfl kf_X9_62 iwX2 dX9_officer_53 ?_
      refine gf1 X G (hL 134 rfl) rfl 10 (by decide) rfl kf_X9_143 iwX1 dX9_officer_56 ?_
      refine lv_iload_n hx hb dX9_officer_59 rfl (lv_at hl 1 rfl) ?_
      obtain ⟨h4, hf⟩ := gd_s hf
      refine ia_ld (k := 145) (n := 3) X G (hL 145 rfl) rfl (by decide) (ix_in h4) dX9_officer_60 ?_
      exact rtRi X hlk hr (so_i hf) dX9_officer_61
    have hf := it_f hf cs1
    by_cases cs2 : p2 = (2 : Int32)
    · have hf := it_t hf cs2
      refine tbl_in hx hb dX9_officer_11 cs2 (by decide) (by decide) rfl (tgt := 62) (by decide) ?_
      refine lv_aload_n hx hb dX9_officer_62 rfl (lv_at hl 0 rfl) ?_
      refine gf9 X G (hL 0 rfl) rfl 7 (by decide) rfl kf_X9_52 iwX9 dX9_officer_63 ?_
      refine gf2 X G (hL 120 rfl) rfl 1 (by decide) rfl kf_X9_128 iwX2 dX9_officer_66 ?_
      refine lv_bipush (v := (35 : Int32)) hx hb dX9_officer_69 (by decide) ?_
      refine lv_iload_n hx hb dX9_officer_71 rfl (lv_at hl 1 rfl) ?_
      refine lv_iadd hx hb dX9_officer_72 ?_
      obtain ⟨h4, hf⟩ := gd_s hf
      refine ia_ld (k := 122) (n := 41) X G (hL 122 rfl) rfl (by decide) (ix_in h4) dX9_officer_73 ?_
      exact rtRi X hlk hr (so_i hf) dX9_officer_74
    have hf := it_f hf cs2
    have kd : W p l e (rmk 1) s m [.ref (eq E 0), .int p1, .int p2].toArray below meth c s.heap [] 0 0 (MQ below (QRi res) [.ref (eq E 0), .int p1, .int p2].toArray s 0 0 (NoF)) (F0 m 75 ls []) := by
      refine lv_iconst (v := (-1 : Int32)) hx hb dX9_officer_75 (by decide) ?_
      exact rtRi X hlk hr (so_i hf) dX9_officer_76
    refine lv_tableOut (tgt := 75) hx hb dX9_officer_11 (sw_out (fun v h1 h2 => ?_)) (by decide) kd
    rcases (show v = 0 ∨ v = 1 ∨ v = 2 by omega) with rfl | rfl | rfl
    · exact cs0
    · exact cs1
    · exact cs2
  · have hf := it_t hf c3
    refine lv_iconst (v := (-1 : Int32)) hx hb dX9_officer_8 (by decide) ?_
    exact rtRi X hlk hr (so_i hf) dX9_officer_9
def fX9_ruleAt (st : St) (p1 : Int32) : Option (Option Nat) := if p1 < 0 then (some (none : Option Nat)) else (if (st.1 0 6) ≤ p1 then (some (none : Option Nat)) else (gd (ix p1 6) (some (st.2.2 6 p1.toNatClampNeg))))
set_option maxRecDepth 100000 in
theorem tX9_ruleAt (l : Launch) (E : Ev) (st : St) (sz : Nat) (hL : ∀ k, fxC k = true → k ∈ eL E) (p1 : Int32) {res : (Option Nat)} (hf : fX9_ruleAt st p1 = some res) : Met l yX9_ruleAt (.code yX9_ruleAt cX9_ruleAt 2 (some (.object "FireTax$Rule")) :: uW) (rmk 0) (va_Pc [.ref (eq E 0), .int p1] (Pre E st sz)) (QRq (res.map E.2.2.2.1)) 0 0 (NoF) := by
  refine Met_in (by decide) (Nat.le_of_ble_eq_true rfl) ?_
  intro p e s m below meth c X hr hlk hz G ls hl
  have hx := X.1.1
  have hb := X.1.2.1
  have hl : lv_has ls 2 [(0, .ref (eq E 0)), (1, .int p1)] := hl
  unfold fX9_ruleAt at hf
  refine lv_iload_n hx hb dX9_ruleAt_0 rfl (lv_at hl 1 rfl) ?_
  refine lv_if_lt (tgt := 21) hx hb dX9_ruleAt_1 (by decide) (fun c1 => ?_) (fun c1 => ?_)
  · have hf := it_t hf c1
    refine lv_null hx hb dX9_ruleAt_21 ?_
    exact rtRq (q := (none : Option Nat).map E.2.2.2.1) X hlk hr (Or.inl ⟨_, rfl⟩) (by rw [so_i hf]) dX9_ruleAt_22
  · have hf := it_f hf c1
    refine lv_iload_n hx hb dX9_ruleAt_4 rfl (lv_at hl 1 rfl) ?_
    refine lv_aload_n hx hb dX9_ruleAt_5 rfl (lv_at hl 0 rfl) ?_
    refine gf9 X G (hL 0 rfl) rfl 6 (by decide) rfl kf_X9_46 iwX9 dX9_ruleAt_6 ?_
    refine lv_icmp_ge (tgt := 21) hx hb dX9_ruleAt_9 (by decide) (fun c2 => ?_) (fun c2 => ?_)
    · have hf := it_t hf c2
      refine lv_null hx hb dX9_ruleAt_21 ?_
      exact rtRq (q := (none : Option Nat).map E.2.2.2.1) X hlk hr (Or.inl ⟨_, rfl⟩) (by rw [so_i hf]) dX9_ruleAt_22
    · have hf := it_f hf c2
      refine lv_aload_n hx hb dX9_ruleAt_12 rfl (lv_at hl 0 rfl) ?_
      refine gf9 X G (hL 0 rfl) rfl 5 (by decide) rfl kf_X9_42 iwX9 dX9_ruleAt_13 ?_
      refine lv_iload_n hx hb dX9_ruleAt_16 rfl (lv_at hl 1 rfl) ?_
      obtain ⟨h3, hf⟩ := gd_s hf
      refine rl_ld (k := 6) (n := 6) X G (hL 6 rfl) rfl (by decide) (ix_in h3) dX9_ruleAt_17 ?_
      refine lv_goto (tgt := 22) hx hb dX9_ruleAt_18 (by decide) ?_
      exact rtRq (q := (st.2.2 6 p1.toNatClampNeg).map E.2.2.2.1) X hlk hr (Or.inl ⟨_, rfl⟩) (by rw [so_i hf]) dX9_ruleAt_22
def fX9_night (L : List Nat) (st : St) : Option (Int32 × St) := if (st.1 134 0) = 0 then (some ((-1 : Int32), st)) else (if (st.1 122 39) < (999 : Int32) then (br (fX2_remember 120 st) (fun s5 => br (fX9_ruleAt s5 (s5.1 120 8)) (fun x7 => br (fX8_follow x7 s5) (fun s9 => bw (fX8_pass L 122 41 (0 : Int32) s9) (fun x12 s11 => some (x12, s11)))))) else (some ((-1 : Int32), st)))
set_option maxRecDepth 100000 in
theorem tX9_night (l : Launch) (E : Ev) (st : St) (sz : Nat) (hL : ∀ k, fxC k = true → k ∈ eL E) {L : List Nat} (hLL : L = eL E)  {res : (Int32 × St)} (hf : fX9_night L  st = some res) : Met l yX9_night (.code yX9_night cX9_night 1 (some .int) :: uW) (rmk 5) (va_Pc [.ref (eq E 0)] (Pre E st sz)) (QWi E res.2 sz res.1) 0 0 (Af E sz) := by
  refine Met_in (by decide) (Nat.le_of_ble_eq_true rfl) ?_
  intro p e s m below meth c X hr hlk hz G ls hl
  have hx := X.1.1
  have hb := X.1.2.1
  have hl : lv_has ls 1 [(0, .ref (eq E 0))] := hl
  unfold fX9_night at hf
  refine lv_aload_n hx hb dX9_night_0 rfl (lv_at hl 0 rfl) ?_
  refine gf9 X G (hL 0 rfl) rfl 7 (by decide) rfl kf_X9_52 iwX9 dX9_night_1 ?_
  refine gf2 X G (hL 120 rfl) rfl 0 (by decide) rfl kf_X9_62 iwX2 dX9_night_4 ?_
  refine gf1 X G (hL 134 rfl) rfl 0 (by decide) rfl kf_X9_146 iwX1 dX9_night_7 ?_
  refine lv_if_eq (tgt := 29) hx hb dX9_night_10 (by decide) (fun c1 => ?_) (fun c1 => ?_)
  · have hf := it_t hf c1
    refine lv_iconst (v := (-1 : Int32)) hx hb dX9_night_29 (by decide) ?_
    exact rtWi X hlk G hr (so_i hf) dX9_night_30
  · have hf := it_f hf c1
    refine lv_aload_n hx hb dX9_night_13 rfl (lv_at hl 0 rfl) ?_
    refine gf9 X G (hL 0 rfl) rfl 7 (by decide) rfl kf_X9_52 iwX9 dX9_night_14 ?_
    refine gf2 X G (hL 120 rfl) rfl 1 (by decide) rfl kf_X9_128 iwX2 dX9_night_17 ?_
    refine lv_bipush (v := (39 : Int32)) hx hb dX9_night_20 (by decide) ?_
    refine ia_ldc (k := 122) (n := 41) X G (hL 122 rfl) rfl (by decide) 39 (by decide) dX9_night_22 ?_
    refine lv_sipush (v := (999 : Int32)) hx hb dX9_night_23 (by decide) ?_
    refine lv_icmp_lt (tgt := 31) hx hb dX9_night_26 (by decide) (fun c3 => ?_) (fun c3 => ?_)
    · have hf := it_t hf c3
      refine lv_aload_n hx hb dX9_night_31 rfl (lv_at hl 0 rfl) ?_
      refine gf9 X G (hL 0 rfl) rfl 7 (by decide) rfl kf_X9_52 iwX9 dX9_night_32 ?_
      obtain ⟨s5, h4, hf⟩ := br_s hf
      refine cVWv (As := []) (rest := []) X G kc_X9_150 (tX2_remember l E st _ hL (ok_120 hL)  h4) (rcv X G (hL 120 rfl) (cO2 rfl) rfl) rfl rfl (rmk_le (by omega) (by decide)) rfl hl.1 rfl (Nat.le_of_ble_eq_true rfl) dX9_night_35 ⟨Nat.zero_le _, Nat.zero_le _⟩ (fun H locs G => ?_)
      refine lv_aload_n hx hb dX9_night_38 rfl (lv_at hl 0 rfl) ?_
      refine gf9 X G (hL 0 rfl) rfl 9 (by decide) rfl kf_X9_69 iwX9 dX9_night_39 ?_
      refine lv_aload_n hx hb dX9_night_42 rfl (lv_at hl 0 rfl) ?_
      refine lv_aload_n hx hb dX9_night_43 rfl (lv_at hl 0 rfl) ?_
      refine gf9 X G (hL 0 rfl) rfl 7 (by decide) rfl kf_X9_52 iwX9 dX9_night_44 ?_
      refine gf2 X G (hL 120 rfl) rfl 8 (by decide) rfl kf_X9_121 iwX2 dX9_night_47 ?_
      obtain ⟨x7, h6, hf⟩ := br_s hf
      refine cVRq (As := [.int (s5.1 120 8)]) (rest := [.ref (eq E 50)]) X G kc_X9_153 (tX9_ruleAt l E s5 _ hL  (s5.1 120 8) h6) (rcv X G (hL 0 rfl) (cO9 rfl) rfl) rfl rfl (rmk_le (by omega) (by decide)) rfl hl.1 rfl (Nat.le_of_ble_eq_true rfl) dX9_night_50 ⟨Nat.zero_le _, Nat.zero_le _⟩ ?_
      obtain ⟨s9, h8, hf⟩ := br_s hf
      refine cVWv (As := [va_rf (x7.map E.2.2.2.1)]) (rest := []) X G kc_X9_157 (tX8_follow l E s5 _ hL   h8) (rcv X G (hL 50 rfl) (cO8 rfl) rfl) rfl rfl (rmk_le (by omega) (by decide)) rfl hl.1 rfl (Nat.le_of_ble_eq_true rfl) dX9_night_53 ⟨Nat.zero_le _, Nat.zero_le _⟩ (fun H locs G => ?_)
      refine lv_aload_n hx hb dX9_night_56 rfl (lv_at hl 0 rfl) ?_
      refine gf9 X G (hL 0 rfl) rfl 9 (by decide) rfl kf_X9_69 iwX9 dX9_night_57 ?_
      refine lv_aload_n hx hb dX9_night_60 rfl (lv_at hl 0 rfl) ?_
      refine gf9 X G (hL 0 rfl) rfl 7 (by decide) rfl kf_X9_52 iwX9 dX9_night_61 ?_
      refine gf2 X G (hL 120 rfl) rfl 1 (by decide) rfl kf_X9_128 iwX2 dX9_night_64 ?_
      refine lv_iconst (v := (0 : Int32)) hx hb dX9_night_67 (by decide) ?_
      obtain ⟨x12, s11, h10, hf⟩ := bw_s hf
      refine cVWi (As := [.ref (eq E 122), .int (0 : Int32)]) (rest := []) X G kc_X9_161 (tX8_pass l E s9 _ hL hLL (hL 122 rfl) rfl (by decide) (0 : Int32) h10) (rcv X G (hL 50 rfl) (cO8 rfl) rfl) rfl rfl (rmk_le (by omega) (by decide)) rfl hl.1 rfl (Nat.le_of_ble_eq_true rfl) dX9_night_68 ⟨Nat.zero_le _, Nat.zero_le _⟩ (fun H locs G => ?_)
      exact rtWi X hlk G hr (so_i hf) dX9_night_71
    · have hf := it_f hf c3
      refine lv_iconst (v := (-1 : Int32)) hx hb dX9_night_29 (by decide) ?_
      exact rtWi X hlk G hr (so_i hf) dX9_night_30
def fX9_fell (p1 : Int32) (p2 : Int32) (st : St) : Option (Int32 × St) := br (fX9_isHouse st p1) (fun x2 => if x2 = 0 then (some ((-1 : Int32), st)) else (if p2 < (1 : Int32) then (some ((-1 : Int32), st)) else (if (9 : Int32) < p2 then (some ((-1 : Int32), st)) else (gd (ix ((8 : Int32) + p1) 41) (if ((st.1 122 ((8 : Int32) + p1).toNatClampNeg) + p2) ≤ (99 : Int32) then (br (fX2_remember 120 st) (fun s9 => gd (ix ((8 : Int32) + p1) 41) (gd (ix ((8 : Int32) + p1) 41) (nm (ui s9 122 ((8 : Int32) + p1).toNatClampNeg ((s9.1 122 ((8 : Int32) + p1).toNatClampNeg) + p2)) (fun s12 => gd (ix ((8 : Int32) + p1) 41) (some ((s12.1 122 ((8 : Int32) + p1).toNatClampNeg), s12))))))) else (some ((-1 : Int32), st)))))))
set_option maxRecDepth 100000 in
theorem tX9_fell (l : Launch) (E : Ev) (st : St) (sz : Nat) (hL : ∀ k, fxC k = true → k ∈ eL E) (p1 : Int32) (p2 : Int32) {res : (Int32 × St)} (hf : fX9_fell  p1 p2 st = some res) : Met l yX9_fell (.code yX9_fell cX9_fell 3 (some .int) :: uW) (rmk 2) (va_Pc [.ref (eq E 0), .int p1, .int p2] (Pre E st sz)) (QWi E res.2 sz res.1) 0 0 (Af E sz) := by
  refine Met_in (by decide) (Nat.le_of_ble_eq_true rfl) ?_
  intro p e s m below meth c X hr hlk hz G ls hl
  have hx := X.1.1
  have hb := X.1.2.1
  have hl : lv_has ls 3 [(0, .ref (eq E 0)), (1, .int p1), (2, .int p2)] := hl
  unfold fX9_fell at hf
  refine lv_aload_n hx hb dX9_fell_0 rfl (lv_at hl 0 rfl) ?_
  refine lv_iload_n hx hb dX9_fell_1 rfl (lv_at hl 1 rfl) ?_
  obtain ⟨x2, h1, hf⟩ := br_s hf
  refine cVRi (As := [.int p1]) (rest := []) X G kc_X9_124 (tX9_isHouse l E st _ hL  p1 h1) (rcv X G (hL 0 rfl) (cO9 rfl) rfl) rfl rfl (rmk_le (by omega) (by decide)) rfl hl.1 rfl (Nat.le_of_ble_eq_true rfl) dX9_fell_2 ⟨Nat.zero_le _, Nat.zero_le _⟩ ?_
  refine lv_if_eq (tgt := 38) hx hb dX9_fell_5 (by decide) (fun c3 => ?_) (fun c3 => ?_)
  · have hf := it_t hf c3
    refine lv_iconst (v := (-1 : Int32)) hx hb dX9_fell_38 (by decide) ?_
    exact rtWi X hlk G hr (so_i hf) dX9_fell_39
  · have hf := it_f hf c3
    refine lv_iload_n hx hb dX9_fell_8 rfl (lv_at hl 2 rfl) ?_
    refine lv_iconst (v := (1 : Int32)) hx hb dX9_fell_9 (by decide) ?_
    refine lv_icmp_lt (tgt := 38) hx hb dX9_fell_10 (by decide) (fun c4 => ?_) (fun c4 => ?_)
    · have hf := it_t hf c4
      refine lv_iconst (v := (-1 : Int32)) hx hb dX9_fell_38 (by decide) ?_
      exact rtWi X hlk G hr (so_i hf) dX9_fell_39
    · have hf := it_f hf c4
      refine lv_iload_n hx hb dX9_fell_13 rfl (lv_at hl 2 rfl) ?_
      refine lv_bipush (v := (9 : Int32)) hx hb dX9_fell_14 (by decide) ?_
      refine lv_icmp_gt (tgt := 38) hx hb dX9_fell_16 (by decide) (fun c5 => ?_) (fun c5 => ?_)
      · have hf := it_t hf c5
        refine lv_iconst (v := (-1 : Int32)) hx hb dX9_fell_38 (by decide) ?_
        exact rtWi X hlk G hr (so_i hf) dX9_fell_39
      · have hf := it_f hf c5
        refine lv_aload_n hx hb dX9_fell_19 rfl (lv_at hl 0 rfl) ?_
        refine gf9 X G (hL 0 rfl) rfl 7 (by decide) rfl kf_X9_52 iwX9 dX9_fell_20 ?_
        refine gf2 X G (hL 120 rfl) rfl 1 (by decide) rfl kf_X9_128 iwX2 dX9_fell_23 ?_
        refine lv_bipush (v := (8 : Int32)) hx hb dX9_fell_26 (by decide) ?_
        refine lv_iload_n hx hb dX9_fell_28 rfl (lv_at hl 1 rfl) ?_
        refine lv_iadd hx hb dX9_fell_29 ?_
        obtain ⟨h6, hf⟩ := gd_s hf
        refine ia_ld (k := 122) (n := 41) X G (hL 122 rfl) rfl (by decide) (ix_in h6) dX9_fell_30 ?_
        refine lv_iload_n hx hb dX9_fell_31 rfl (lv_at hl 2 rfl) ?_
        refine lv_iadd hx hb dX9_fell_32 ?_
        refine lv_bipush (v := (99 : Int32)) hx hb dX9_fell_33 (by decide) ?_
        refine lv_icmp_le (tgt := 40) hx hb dX9_fell_35 (by decide) (fun c7 => ?_) (fun c7 => ?_)
        · have hf := it_t hf c7
          refine lv_aload_n hx hb dX9_fell_40 rfl (lv_at hl 0 rfl) ?_
          refine gf9 X G (hL 0 rfl) rfl 7 (by decide) rfl kf_X9_52 iwX9 dX9_fell_41 ?_
          obtain ⟨s9, h8, hf⟩ := br_s hf
          refine cVWv (As := []) (rest := []) X G kc_X9_150 (tX2_remember l E st _ hL (ok_120 hL)  h8) (rcv X G (hL 120 rfl) (cO2 rfl) rfl) rfl rfl (rmk_le (by omega) (by decide)) rfl hl.1 rfl (Nat.le_of_ble_eq_true rfl) dX9_fell_44 ⟨Nat.zero_le _, Nat.zero_le _⟩ (fun H locs G => ?_)
          refine lv_aload_n hx hb dX9_fell_47 rfl (lv_at hl 0 rfl) ?_
          refine gf9 X G (hL 0 rfl) rfl 7 (by decide) rfl kf_X9_52 iwX9 dX9_fell_48 ?_
          refine gf2 X G (hL 120 rfl) rfl 1 (by decide) rfl kf_X9_128 iwX2 dX9_fell_51 ?_
          refine lv_bipush (v := (8 : Int32)) hx hb dX9_fell_54 (by decide) ?_
          refine lv_iload_n hx hb dX9_fell_56 rfl (lv_at hl 1 rfl) ?_
          refine lv_iadd hx hb dX9_fell_57 ?_
          refine lv_dup2_11 hx hb dX9_fell_58 rfl rfl ?_
          obtain ⟨h10, hf⟩ := gd_s hf
          refine ia_ld (k := 122) (n := 41) X G (hL 122 rfl) rfl (by decide) (ix_in h10) dX9_fell_59 ?_
          refine lv_iload_n hx hb dX9_fell_60 rfl (lv_at hl 2 rfl) ?_
          refine lv_iadd hx hb dX9_fell_61 ?_
          obtain ⟨h11, hf⟩ := gd_s hf
          refine ia_st (k := 122) (n := 41) X G (hL 122 rfl) rfl (by decide) (ix_in h11) dX9_fell_62 (fun s12 es12 H locs G => ?_)
          have hf := nm_s hf s12 es12
          refine lv_aload_n hx hb dX9_fell_63 rfl (lv_at hl 0 rfl) ?_
          refine gf9 X G (hL 0 rfl) rfl 7 (by decide) rfl kf_X9_52 iwX9 dX9_fell_64 ?_
          refine gf2 X G (hL 120 rfl) rfl 1 (by decide) rfl kf_X9_128 iwX2 dX9_fell_67 ?_
          refine lv_bipush (v := (8 : Int32)) hx hb dX9_fell_70 (by decide) ?_
          refine lv_iload_n hx hb dX9_fell_72 rfl (lv_at hl 1 rfl) ?_
          refine lv_iadd hx hb dX9_fell_73 ?_
          obtain ⟨h13, hf⟩ := gd_s hf
          refine ia_ld (k := 122) (n := 41) X G (hL 122 rfl) rfl (by decide) (ix_in h13) dX9_fell_74 ?_
          exact rtWi X hlk G hr (so_i hf) dX9_fell_75
        · have hf := it_f hf c7
          refine lv_iconst (v := (-1 : Int32)) hx hb dX9_fell_38 (by decide) ?_
          exact rtWi X hlk G hr (so_i hf) dX9_fell_39
def fX9_areBeside (st : St) (p1 : Int32) (p2 : Int32) : Option Int32 := br (fX9_isHouse st p1) (fun x2 => if x2 = 0 then (some (0 : Int32)) else (br (fX9_isHouse st p2) (fun x5 => if x5 = 0 then (some (0 : Int32)) else (gd (ix p1 8) (if (((st.1 144 p1.toNatClampNeg) >>> (p2 &&& 31)) &&& (1 : Int32)) = 0 then (some (0 : Int32)) else (some (1 : Int32)))))))
set_option maxRecDepth 100000 in
theorem tX9_areBeside (l : Launch) (E : Ev) (st : St) (sz : Nat) (hL : ∀ k, fxC k = true → k ∈ eL E) (p1 : Int32) (p2 : Int32) {res : Int32} (hf : fX9_areBeside st p1 p2 = some res) : Met l yX9_areBeside (.code yX9_areBeside cX9_areBeside 3 (some .boolean) :: uW) (rmk 1) (va_Pc [.ref (eq E 0), .int p1, .int p2] (Pre E st sz)) (QRi res) 0 0 (NoF) := by
  refine Met_in (by decide) (Nat.le_of_ble_eq_true rfl) ?_
  intro p e s m below meth c X hr hlk hz G ls hl
  have hx := X.1.1
  have hb := X.1.2.1
  have hl : lv_has ls 3 [(0, .ref (eq E 0)), (1, .int p1), (2, .int p2)] := hl
  unfold fX9_areBeside at hf
  refine lv_aload_n hx hb dX9_areBeside_0 rfl (lv_at hl 0 rfl) ?_
  refine lv_iload_n hx hb dX9_areBeside_1 rfl (lv_at hl 1 rfl) ?_
  obtain ⟨x2, h1, hf⟩ := br_s hf
  refine cVRi (As := [.int p1]) (rest := []) X G kc_X9_124 (tX9_isHouse l E st _ hL  p1 h1) (rcv X G (hL 0 rfl) (cO9 rfl) rfl) rfl rfl (rmk_le (by omega) (by decide)) rfl hl.1 rfl (Nat.le_of_ble_eq_true rfl) dX9_areBeside_2 ⟨Nat.zero_le _, Nat.zero_le _⟩ ?_
  refine lv_if_eq (tgt := 39) hx hb dX9_areBeside_5 (by decide) (fun c3 => ?_) (fun c3 => ?_)
  · have hf := it_t hf c3
    refine lv_iconst (v := (0 : Int32)) hx hb dX9_areBeside_39 (by decide) ?_
    exact rtRz X hlk hr rfl (so_i hf) dX9_areBeside_40
  · have hf := it_f hf c3
    refine lv_aload_n hx hb dX9_areBeside_8 rfl (lv_at hl 0 rfl) ?_
    refine lv_iload_n hx hb dX9_areBeside_9 rfl (lv_at hl 2 rfl) ?_
    obtain ⟨x5, h4, hf⟩ := br_s hf
    refine cVRi (As := [.int p2]) (rest := []) X G kc_X9_124 (tX9_isHouse l E st _ hL  p2 h4) (rcv X G (hL 0 rfl) (cO9 rfl) rfl) rfl rfl (rmk_le (by omega) (by decide)) rfl hl.1 rfl (Nat.le_of_ble_eq_true rfl) dX9_areBeside_10 ⟨Nat.zero_le _, Nat.zero_le _⟩ ?_
    refine lv_if_eq (tgt := 39) hx hb dX9_areBeside_13 (by decide) (fun c6 => ?_) (fun c6 => ?_)
    · have hf := it_t hf c6
      refine lv_iconst (v := (0 : Int32)) hx hb dX9_areBeside_39 (by decide) ?_
      exact rtRz X hlk hr rfl (so_i hf) dX9_areBeside_40
    · have hf := it_f hf c6
      refine lv_aload_n hx hb dX9_areBeside_16 rfl (lv_at hl 0 rfl) ?_
      refine gf9 X G (hL 0 rfl) rfl 7 (by decide) rfl kf_X9_52 iwX9 dX9_areBeside_17 ?_
      refine gf2 X G (hL 120 rfl) rfl 0 (by decide) rfl kf_X9_62 iwX2 dX9_areBeside_20 ?_
      refine gf1 X G (hL 134 rfl) rfl 9 (by decide) rfl kf_X9_137 iwX1 dX9_areBeside_23 ?_
      refine lv_iload_n hx hb dX9_areBeside_26 rfl (lv_at hl 1 rfl) ?_
      obtain ⟨h7, hf⟩ := gd_s hf
      refine ia_ld (k := 144) (n := 8) X G (hL 144 rfl) rfl (by decide) (ix_in h7) dX9_areBeside_27 ?_
      refine lv_iload_n hx hb dX9_areBeside_28 rfl (lv_at hl 2 rfl) ?_
      refine lv_ishr hx hb dX9_areBeside_29 ?_
      refine lv_iconst (v := (1 : Int32)) hx hb dX9_areBeside_30 (by decide) ?_
      refine lv_iand hx hb dX9_areBeside_31 ?_
      refine lv_if_eq (tgt := 39) hx hb dX9_areBeside_32 (by decide) (fun c8 => ?_) (fun c8 => ?_)
      · have hf := it_t hf c8
        refine lv_iconst (v := (0 : Int32)) hx hb dX9_areBeside_39 (by decide) ?_
        exact rtRz X hlk hr rfl (so_i hf) dX9_areBeside_40
      · have hf := it_f hf c8
        refine lv_iconst (v := (1 : Int32)) hx hb dX9_areBeside_35 (by decide) ?_
        refine lv_goto (tgt := 40) hx hb dX9_areBeside_36 (by decide) ?_
        exact rtRz X hlk hr rfl (so_i hf) dX9_areBeside_40
def fX9_moveWarmth (a1 : Nat) (n1 : Nat) (p2 : Int32) (p3 : Int32) (p4 : Int32) (st : St) : Option St := gd (ix ((0 : Int32) + p2) n1) (gd (ix ((0 : Int32) + p2) n1) (nm (ui st a1 ((0 : Int32) + p2).toNatClampNeg ((st.1 a1 ((0 : Int32) + p2).toNatClampNeg) - p4)) (fun s3 => gd (ix ((0 : Int32) + p3) n1) (gd (ix ((0 : Int32) + p3) n1) (nm (ui s3 a1 ((0 : Int32) + p3).toNatClampNeg (if ((s3.1 a1 ((0 : Int32) + p3).toNatClampNeg) + p4) < (999 : Int32) then ((s3.1 a1 ((0 : Int32) + p3).toNatClampNeg) + p4) else (999 : Int32))) (fun s6 => some s6))))))
set_option maxRecDepth 100000 in
theorem tX9_moveWarmth (l : Launch) (E : Ev) (st : St) (sz : Nat) (hL : ∀ k, fxC k = true → k ∈ eL E) {a1 : Nat} {n1 : Nat} (hm1 : a1 ∈ eL E) (ht1 : ty a1 = 10000 + n1) (hn1 : n1 < 10000) (p2 : Int32) (p3 : Int32) (p4 : Int32) {res : St} (hf : fX9_moveWarmth a1 n1 p2 p3 p4 st = some res) : Met l yX9_moveWarmth (.code yX9_moveWarmth cX9_moveWarmth 4 none :: uW) (rmk 1) (va_Pc [.ref (eq E a1), .int p2, .int p3, .int p4] (Pre E st sz)) (QWv E res sz) 0 0 (Af E sz) := by
  refine Met_in (by decide) (Nat.le_of_ble_eq_true rfl) ?_
  intro p e s m below meth c X hr hlk hz G ls hl
  have hx := X.1.1
  have hb := X.1.2.1
  have hl : lv_has ls 4 [(0, .ref (eq E a1)), (1, .int p2), (2, .int p3), (3, .int p4)] := hl
  unfold fX9_moveWarmth at hf
  refine lv_aload_n hx hb dX9_moveWarmth_0 rfl (lv_at hl 0 rfl) ?_
  refine lv_iconst (v := (0 : Int32)) hx hb dX9_moveWarmth_1 (by decide) ?_
  refine lv_iload_n hx hb dX9_moveWarmth_2 rfl (lv_at hl 1 rfl) ?_
  refine lv_iadd hx hb dX9_moveWarmth_3 ?_
  refine lv_dup2_11 hx hb dX9_moveWarmth_4 rfl rfl ?_
  obtain ⟨h1, hf⟩ := gd_s hf
  refine ia_ld (k := a1) (n := n1) X G hm1 ht1 hn1 (ix_in h1) dX9_moveWarmth_5 ?_
  refine lv_iload_n hx hb dX9_moveWarmth_6 rfl (lv_at hl 3 rfl) ?_
  refine lv_isub hx hb dX9_moveWarmth_7 ?_
  obtain ⟨h2, hf⟩ := gd_s hf
  refine ia_st (k := a1) (n := n1) X G hm1 ht1 hn1 (ix_in h2) dX9_moveWarmth_8 (fun s3 es3 H locs G => ?_)
  have hf := nm_s hf s3 es3
  refine lv_aload_n hx hb dX9_moveWarmth_9 rfl (lv_at hl 0 rfl) ?_
  refine lv_iconst (v := (0 : Int32)) hx hb dX9_moveWarmth_10 (by decide) ?_
  refine lv_iload_n hx hb dX9_moveWarmth_11 rfl (lv_at hl 2 rfl) ?_
  refine lv_iadd hx hb dX9_moveWarmth_12 ?_
  refine lv_sipush (v := (999 : Int32)) hx hb dX9_moveWarmth_13 (by decide) ?_
  refine lv_aload_n hx hb dX9_moveWarmth_16 rfl (lv_at hl 0 rfl) ?_
  refine lv_iconst (v := (0 : Int32)) hx hb dX9_moveWarmth_17 (by decide) ?_
  refine lv_iload_n hx hb dX9_moveWarmth_18 rfl (lv_at hl 2 rfl) ?_
  refine lv_iadd hx hb dX9_moveWarmth_19 ?_
  obtain ⟨h4, hf⟩ := gd_s hf
  refine ia_ld (k := a1) (n := n1) X G hm1 ht1 hn1 (ix_in h4) dX9_moveWarmth_20 ?_
  refine lv_iload_n hx hb dX9_moveWarmth_21 rfl (lv_at hl 3 rfl) ?_
  refine lv_iadd hx hb dX9_moveWarmth_22 ?_
  refine va_mmin hx hb (X.1.2.2.1.trans hl.1.symm) X.1.2.2.2.1 (X.1.2.2.2.2 _ km_X9_180) (X.1.2.2.2.2 _ ks_Math_min) (X.1.2.2.2.2 _ ki_Math) (X.1.2.2.2.2 _ kd_Math_min) (rmk_1 (by omega)) (rmk_l (by omega) (Nat.le_of_ble_eq_true rfl)) (Nat.zero_le _) (Nat.zero_le _) dX9_moveWarmth_23 ?_
  obtain ⟨h5, hf⟩ := gd_s hf
  refine ia_st (k := a1) (n := n1) X G hm1 ht1 hn1 (ix_in h5) dX9_moveWarmth_26 (fun s6 es6 H locs G => ?_)
  have hf := nm_s hf s6 es6
  exact rtWv X hlk G hr (so_i hf) dX9_moveWarmth_27
def fX9_lend_B113 (p1 : Int32) (p2 : Int32) (p3 : Int32) (st : St) : Option (Int32 × St) := gd (ix ((0 : Int32) + p2) 41) (some ((st.1 122 ((0 : Int32) + p2).toNatClampNeg), st))
set_option maxRecDepth 100000 in
theorem wX9_lend_B113 {p : Program} {l : Launch} {e : Env} {s : State} {m : MethodId} {args : Array Value} {below : List Frame} {meth : Method} {c : Code} {E : Ev} (hL : ∀ k, fxC k = true → k ∈ eL E) {p1 : Int32} {p2 : Int32} {p3 : Int32} {sz : Nat} {res : (Int32 × St)} (X : CX p s m args c E RX9 cX9_lend 5 (Af E sz)) (hr : meth.sig.returnType = (some .int)) (hlk : meth.locks = false) : ∀  (st : St) (H : Heap) (locs : List Loc), fX9_lend_B113 p1 p2 p3   st = some res → Gd E st (Af E sz) s H locs → ∀ ls : Array Slot, lv_has ls 5 [(0, .ref (eq E 0)), (2, .int p2)] → W p l e (rmk 2) s m args below meth c H locs 0 0 (MQ below (QWi E res.2 sz res.1) args s 0 0 (Af E sz)) (F0 m 113 ls []) := by
  have hx := X.1.1
  have hb := X.1.2.1
  intro  st H locs hf G ls hl
  unfold fX9_lend_B113 at hf
  refine lv_aload_n hx hb dX9_lend_113 rfl (lv_at hl 0 rfl) ?_
  refine gf9 X G (hL 0 rfl) rfl 7 (by decide) rfl kf_X9_52 iwX9 dX9_lend_114 ?_
  refine gf2 X G (hL 120 rfl) rfl 1 (by decide) rfl kf_X9_128 iwX2 dX9_lend_117 ?_
  refine lv_iconst (v := (0 : Int32)) hx hb dX9_lend_120 (by decide) ?_
  refine lv_iload_n hx hb dX9_lend_121 rfl (lv_at hl 1 rfl) ?_
  refine lv_iadd hx hb dX9_lend_122 ?_
  obtain ⟨h1, hf⟩ := gd_s hf
  refine ia_ld (k := 122) (n := 41) X G (hL 122 rfl) rfl (by decide) (ix_in h1) dX9_lend_123 ?_
  exact rtWi X hlk G hr (so_i hf) dX9_lend_124
def fX9_lend_B88 (p1 : Int32) (p2 : Int32) (p3 : Int32) (z0 : Int32) (st : St) : Option (Int32 × St) := if z0 = 0 then (fX9_lend_B113 p1 p2 p3 st) else (nm (ui st 122 38 ((st.1 122 38) &&& (((1 : Int32) <<< (p2 &&& 31)) ^^^ (-1 : Int32)))) (fun s4 => fX9_lend_B113 p1 p2 p3 s4))
set_option maxRecDepth 100000 in
theorem wX9_lend_B88 {p : Program} {l : Launch} {e : Env} {s : State} {m : MethodId} {args : Array Value} {below : List Frame} {meth : Method} {c : Code} {E : Ev} (hL : ∀ k, fxC k = true → k ∈ eL E) {p1 : Int32} {p2 : Int32} {p3 : Int32} {sz : Nat} {res : (Int32 × St)} (X : CX p s m args c E RX9 cX9_lend 5 (Af E sz)) (hr : meth.sig.returnType = (some .int)) (hlk : meth.locks = false) : ∀ (z0 : Int32) (st : St) (H : Heap) (locs : List Loc), fX9_lend_B88 p1 p2 p3  z0 st = some res → Gd E st (Af E sz) s H locs → ∀ ls : Array Slot, lv_has ls 5 [(0, .ref (eq E 0)), (2, .int p2)] → W p l e (rmk 2) s m args below meth c H locs 0 0 (MQ below (QWi E res.2 sz res.1) args s 0 0 (Af E sz)) (F0 m 88 ls [.int z0]) := by
  have hx := X.1.1
  have hb := X.1.2.1
  intro z0 st H locs hf G ls hl
  unfold fX9_lend_B88 at hf
  refine lv_istore (lv' := [(4, .int z0), (0, .ref (eq E 0)), (2, .int p2)]) hx hb dX9_lend_88 hl (by decide) rfl (fun ls hl => ?_)
  refine lv_iload hx hb dX9_lend_90 (lv_at hl 0 rfl) ?_
  refine lv_if_eq (tgt := 113) hx hb dX9_lend_92 (by decide) (fun c1 => ?_) (fun c1 => ?_)
  · have hf := it_t hf c1
    exact wX9_lend_B113 hL X hr hlk st _ _ hf G _ (lv_sub hl [1, 2] rfl)
  · have hf := it_f hf c1
    refine lv_aload_n hx hb dX9_lend_95 rfl (lv_at hl 1 rfl) ?_
    refine gf9 X G (hL 0 rfl) rfl 7 (by decide) rfl kf_X9_52 iwX9 dX9_lend_96 ?_
    refine gf2 X G (hL 120 rfl) rfl 1 (by decide) rfl kf_X9_128 iwX2 dX9_lend_99 ?_
    refine lv_bipush (v := (38 : Int32)) hx hb dX9_lend_102 (by decide) ?_
    refine lv_dup2_11 hx hb dX9_lend_104 rfl rfl ?_
    refine ia_ldc (k := 122) (n := 41) X G (hL 122 rfl) rfl (by decide) 38 (by decide) dX9_lend_105 ?_
    refine lv_iconst (v := (1 : Int32)) hx hb dX9_lend_106 (by decide) ?_
    refine lv_iload_n hx hb dX9_lend_107 rfl (lv_at hl 2 rfl) ?_
    refine lv_ishl hx hb dX9_lend_108 ?_
    refine lv_iconst (v := (-1 : Int32)) hx hb dX9_lend_109 (by decide) ?_
    refine lv_ixor hx hb dX9_lend_110 ?_
    refine lv_iand hx hb dX9_lend_111 ?_
    refine ia_stc (k := 122) (n := 41) X G (hL 122 rfl) rfl (by decide) 38 (by decide) dX9_lend_112 (fun s4 es4 H locs G => ?_)
    have hf := nm_s hf s4 es4
    exact wX9_lend_B113 hL X hr hlk s4 _ _ hf G _ (lv_sub hl [1, 2] rfl)
def fX9_lend (p1 : Int32) (p2 : Int32) (p3 : Int32) (st : St) : Option (Int32 × St) := br (fX9_areBeside st p1 p2) (fun x2 => if x2 = 0 then (some ((-1 : Int32), st)) else (br (fX9_isFrozen st p1) (fun x5 => if x5 = 0 then (if p3 < (1 : Int32) then (some ((-1 : Int32), st)) else (gd (ix ((0 : Int32) + p1) 41) (if p3 ≤ (st.1 122 ((0 : Int32) + p1).toNatClampNeg) then (br (fX2_remember 120 st) (fun s11 => br (fX9_moveWarmth 122 41 p1 p2 p3 s11) (fun s13 => gd (ix ((0 : Int32) + p2) 41) (if (s13.1 122 ((0 : Int32) + p2).toNatClampNeg) < (s13.1 134 3) then (fX9_lend_B88 p1 p2 p3 (0 : Int32) s13) else (fX9_lend_B88 p1 p2 p3 (1 : Int32) s13))))) else (some ((-1 : Int32), st))))) else (some ((-1 : Int32), st)))))
set_option maxRecDepth 100000 in
theorem tX9_lend (l : Launch) (E : Ev) (st : St) (sz : Nat) (hL : ∀ k, fxC k = true → k ∈ eL E) (p1 : Int32) (p2 : Int32) (p3 : Int32) {res : (Int32 × St)} (hf : fX9_lend  p1 p2 p3 st = some res) : Met l yX9_lend (.code yX9_lend cX9_lend 5 (some .int) :: uW) (rmk 2) (va_Pc [.ref (eq E 0), .int p1, .int p2, .int p3] (Pre E st sz)) (QWi E res.2 sz res.1) 0 0 (Af E sz) := by
  refine Met_in (by decide) (Nat.le_of_ble_eq_true rfl) ?_
  intro p e s m below meth c X hr hlk hz G ls hl
  have hx := X.1.1
  have hb := X.1.2.1
  have hl : lv_has ls 5 [(0, .ref (eq E 0)), (1, .int p1), (2, .int p2), (3, .int p3)] := hl
  unfold fX9_lend at hf
  refine lv_aload_n hx hb dX9_lend_0 rfl (lv_at hl 0 rfl) ?_
  refine lv_iload_n hx hb dX9_lend_1 rfl (lv_at hl 1 rfl) ?_
  refine lv_iload_n hx hb dX9_lend_2 rfl (lv_at hl 2 rfl) ?_
  obtain ⟨x2, h1, hf⟩ := br_s hf
  refine cVRi (As := [.int p1, .int p2]) (rest := []) X G kc_X9_165 (tX9_areBeside l E st _ hL  p1 p2 h1) (rcv X G (hL 0 rfl) (cO9 rfl) rfl) rfl rfl (rmk_le (by omega) (by decide)) rfl hl.1 rfl (Nat.le_of_ble_eq_true rfl) dX9_lend_3 ⟨Nat.zero_le _, Nat.zero_le _⟩ ?_
  refine lv_if_eq (tgt := 37) hx hb dX9_lend_6 (by decide) (fun c3 => ?_) (fun c3 => ?_)
  · have hf := it_t hf c3
    refine lv_iconst (v := (-1 : Int32)) hx hb dX9_lend_37 (by decide) ?_
    exact rtWi X hlk G hr (so_i hf) dX9_lend_38
  · have hf := it_f hf c3
    refine lv_aload_n hx hb dX9_lend_9 rfl (lv_at hl 0 rfl) ?_
    refine lv_iload_n hx hb dX9_lend_10 rfl (lv_at hl 1 rfl) ?_
    obtain ⟨x5, h4, hf⟩ := br_s hf
    refine cVRi (As := [.int p1]) (rest := []) X G kc_X9_134 (tX9_isFrozen l E st _ hL  p1 h4) (rcv X G (hL 0 rfl) (cO9 rfl) rfl) rfl rfl (rmk_le (by omega) (by decide)) rfl hl.1 rfl (Nat.le_of_ble_eq_true rfl) dX9_lend_11 ⟨Nat.zero_le _, Nat.zero_le _⟩ ?_
    refine lv_if_ne (tgt := 37) hx hb dX9_lend_14 (by decide) (fun c6 => ?_) (fun c6 => ?_)
    · have hf := it_f hf c6
      refine lv_iconst (v := (-1 : Int32)) hx hb dX9_lend_37 (by decide) ?_
      exact rtWi X hlk G hr (so_i hf) dX9_lend_38
    · have hf := it_t hf c6
      refine lv_iload_n hx hb dX9_lend_17 rfl (lv_at hl 3 rfl) ?_
      refine lv_iconst (v := (1 : Int32)) hx hb dX9_lend_18 (by decide) ?_
      refine lv_icmp_lt (tgt := 37) hx hb dX9_lend_19 (by decide) (fun c7 => ?_) (fun c7 => ?_)
      · have hf := it_t hf c7
        refine lv_iconst (v := (-1 : Int32)) hx hb dX9_lend_37 (by decide) ?_
        exact rtWi X hlk G hr (so_i hf) dX9_lend_38
      · have hf := it_f hf c7
        refine lv_iload_n hx hb dX9_lend_22 rfl (lv_at hl 3 rfl) ?_
        refine lv_aload_n hx hb dX9_lend_23 rfl (lv_at hl 0 rfl) ?_
        refine gf9 X G (hL 0 rfl) rfl 7 (by decide) rfl kf_X9_52 iwX9 dX9_lend_24 ?_
        refine gf2 X G (hL 120 rfl) rfl 1 (by decide) rfl kf_X9_128 iwX2 dX9_lend_27 ?_
        refine lv_iconst (v := (0 : Int32)) hx hb dX9_lend_30 (by decide) ?_
        refine lv_iload_n hx hb dX9_lend_31 rfl (lv_at hl 1 rfl) ?_
        refine lv_iadd hx hb dX9_lend_32 ?_
        obtain ⟨h8, hf⟩ := gd_s hf
        refine ia_ld (k := 122) (n := 41) X G (hL 122 rfl) rfl (by decide) (ix_in h8) dX9_lend_33 ?_
        refine lv_icmp_le (tgt := 39) hx hb dX9_lend_34 (by decide) (fun c9 => ?_) (fun c9 => ?_)
        · have hf := it_t hf c9
          refine lv_aload_n hx hb dX9_lend_39 rfl (lv_at hl 0 rfl) ?_
          refine gf9 X G (hL 0 rfl) rfl 7 (by decide) rfl kf_X9_52 iwX9 dX9_lend_40 ?_
          obtain ⟨s11, h10, hf⟩ := br_s hf
          refine cVWv (As := []) (rest := []) X G kc_X9_150 (tX2_remember l E st _ hL (ok_120 hL)  h10) (rcv X G (hL 120 rfl) (cO2 rfl) rfl) rfl rfl (rmk_le (by omega) (by decide)) rfl hl.1 rfl (Nat.le_of_ble_eq_true rfl) dX9_lend_43 ⟨Nat.zero_le _, Nat.zero_le _⟩ (fun H locs G => ?_)
          refine lv_aload_n hx hb dX9_lend_46 rfl (lv_at hl 0 rfl) ?_
          refine gf9 X G (hL 0 rfl) rfl 7 (by decide) rfl kf_X9_52 iwX9 dX9_lend_47 ?_
          refine gf2 X G (hL 120 rfl) rfl 1 (by decide) rfl kf_X9_128 iwX2 dX9_lend_50 ?_
          refine lv_iload_n hx hb dX9_lend_53 rfl (lv_at hl 1 rfl) ?_
          refine lv_iload_n hx hb dX9_lend_54 rfl (lv_at hl 2 rfl) ?_
          refine lv_iload_n hx hb dX9_lend_55 rfl (lv_at hl 3 rfl) ?_
          obtain ⟨s13, h12, hf⟩ := br_s hf
          refine cSWv (As := [.ref (eq E 122), .int p1, .int p2, .int p3]) (rest := []) X G kc_X9_169 (tX9_moveWarmth l E s11 _ hL (hL 122 rfl) rfl (by decide) p1 p2 p3 h12) rfl rfl (rmk_le (by omega) (by decide)) rfl hl.1 rfl (Nat.le_of_ble_eq_true rfl) dX9_lend_56 ⟨Nat.zero_le _, Nat.zero_le _⟩ (fun H locs G => ?_)
          refine lv_aload_n hx hb dX9_lend_59 rfl (lv_at hl 0 rfl) ?_
          refine gf9 X G (hL 0 rfl) rfl 7 (by decide) rfl kf_X9_52 iwX9 dX9_lend_60 ?_
          refine gf2 X G (hL 120 rfl) rfl 1 (by decide) rfl kf_X9_128 iwX2 dX9_lend_63 ?_
          refine lv_iconst (v := (0 : Int32)) hx hb dX9_lend_66 (by decide) ?_
          refine lv_iload_n hx hb dX9_lend_67 rfl (lv_at hl 2 rfl) ?_
          refine lv_iadd hx hb dX9_lend_68 ?_
          obtain ⟨h14, hf⟩ := gd_s hf
          refine ia_ld (k := 122) (n := 41) X G (hL 122 rfl) rfl (by decide) (ix_in h14) dX9_lend_69 ?_
          refine lv_aload_n hx hb dX9_lend_70 rfl (lv_at hl 0 rfl) ?_
          refine gf9 X G (hL 0 rfl) rfl 7 (by decide) rfl kf_X9_52 iwX9 dX9_lend_71 ?_
          refine gf2 X G (hL 120 rfl) rfl 0 (by decide) rfl kf_X9_62 iwX2 dX9_lend_74 ?_
          refine gf1 X G (hL 134 rfl) rfl 3 (by decide) rfl kf_X9_173 iwX1 dX9_lend_77 ?_
          refine lv_icmp_lt (tgt := 87) hx hb dX9_lend_80 (by decide) (fun c15 => ?_) (fun c15 => ?_)
          · have hf := it_t hf c15
            refine lv_iconst (v := (0 : Int32)) hx hb dX9_lend_87 (by decide) ?_
            exact wX9_lend_B88 hL X hr hlk (0 : Int32) s13 _ _ hf G _ (lv_sub hl [0, 2] rfl)
          · have hf := it_f hf c15
            refine lv_iconst (v := (1 : Int32)) hx hb dX9_lend_83 (by decide) ?_
            refine lv_goto (tgt := 88) hx hb dX9_lend_84 (by decide) ?_
            exact wX9_lend_B88 hL X hr hlk (1 : Int32) s13 _ _ hf G _ (lv_sub hl [0, 2] rfl)
        · have hf := it_f hf c9
          refine lv_iconst (v := (-1 : Int32)) hx hb dX9_lend_37 (by decide) ?_
          exact rtWi X hlk G hr (so_i hf) dX9_lend_38
def fX9_hide (p1 : Int32) (p2 : Int32) (st : St) : Option (Int32 × St) := br (fX9_isHouse st p1) (fun x2 => if x2 = 0 then (some ((-1 : Int32), st)) else (br (fX9_isFrozen st p1) (fun x5 => if x5 = 0 then (if p2 < (1 : Int32) then (some ((-1 : Int32), st)) else (gd (ix ((0 : Int32) + p1) 41) (if (st.1 122 ((0 : Int32) + p1).toNatClampNeg) < p2 then (some ((-1 : Int32), st)) else (gd (ix ((16 : Int32) + p1) 41) (if p2 ≤ ((99 : Int32) - (st.1 122 ((16 : Int32) + p1).toNatClampNeg)) then (br (fX2_remember 120 st) (fun s13 => gd (ix ((0 : Int32) + p1) 41) (gd (ix ((0 : Int32) + p1) 41) (nm (ui s13 122 ((0 : Int32) + p1).toNatClampNeg ((s13.1 122 ((0 : Int32) + p1).toNatClampNeg) - p2)) (fun s16 => gd (ix ((16 : Int32) + p1) 41) (gd (ix ((16 : Int32) + p1) 41) (nm (ui s16 122 ((16 : Int32) + p1).toNatClampNeg ((s16.1 122 ((16 : Int32) + p1).toNatClampNeg) + p2)) (fun s19 => gd (ix ((16 : Int32) + p1) 41) (some ((s19.1 122 ((16 : Int32) + p1).toNatClampNeg), s19)))))))))) else (some ((-1 : Int32), st))))))) else (some ((-1 : Int32), st)))))
set_option maxRecDepth 100000 in
theorem tX9_hide (l : Launch) (E : Ev) (st : St) (sz : Nat) (hL : ∀ k, fxC k = true → k ∈ eL E) (p1 : Int32) (p2 : Int32) {res : (Int32 × St)} (hf : fX9_hide  p1 p2 st = some res) : Met l yX9_hide (.code yX9_hide cX9_hide 3 (some .int) :: uW) (rmk 2) (va_Pc [.ref (eq E 0), .int p1, .int p2] (Pre E st sz)) (QWi E res.2 sz res.1) 0 0 (Af E sz) := by
  refine Met_in (by decide) (Nat.le_of_ble_eq_true rfl) ?_
  intro p e s m below meth c X hr hlk hz G ls hl
  have hx := X.1.1
  have hb := X.1.2.1
  have hl : lv_has ls 3 [(0, .ref (eq E 0)), (1, .int p1), (2, .int p2)] := hl
  unfold fX9_hide at hf
  refine lv_aload_n hx hb dX9_hide_0 rfl (lv_at hl 0 rfl) ?_
  refine lv_iload_n hx hb dX9_hide_1 rfl (lv_at hl 1 rfl) ?_
  obtain ⟨x2, h1, hf⟩ := br_s hf
  refine cVRi (As := [.int p1]) (rest := []) X G kc_X9_124 (tX9_isHouse l E st _ hL  p1 h1) (rcv X G (hL 0 rfl) (cO9 rfl) rfl) rfl rfl (rmk_le (by omega) (by decide)) rfl hl.1 rfl (Nat.le_of_ble_eq_true rfl) dX9_hide_2 ⟨Nat.zero_le _, Nat.zero_le _⟩ ?_
  refine lv_if_eq (tgt := 55) hx hb dX9_hide_5 (by decide) (fun c3 => ?_) (fun c3 => ?_)
  · have hf := it_t hf c3
    refine lv_iconst (v := (-1 : Int32)) hx hb dX9_hide_55 (by decide) ?_
    exact rtWi X hlk G hr (so_i hf) dX9_hide_56
  · have hf := it_f hf c3
    refine lv_aload_n hx hb dX9_hide_8 rfl (lv_at hl 0 rfl) ?_
    refine lv_iload_n hx hb dX9_hide_9 rfl (lv_at hl 1 rfl) ?_
    obtain ⟨x5, h4, hf⟩ := br_s hf
    refine cVRi (As := [.int p1]) (rest := []) X G kc_X9_134 (tX9_isFrozen l E st _ hL  p1 h4) (rcv X G (hL 0 rfl) (cO9 rfl) rfl) rfl rfl (rmk_le (by omega) (by decide)) rfl hl.1 rfl (Nat.le_of_ble_eq_true rfl) dX9_hide_10 ⟨Nat.zero_le _, Nat.zero_le _⟩ ?_
    refine lv_if_ne (tgt := 55) hx hb dX9_hide_13 (by decide) (fun c6 => ?_) (fun c6 => ?_)
    · have hf := it_f hf c6
      refine lv_iconst (v := (-1 : Int32)) hx hb dX9_hide_55 (by decide) ?_
      exact rtWi X hlk G hr (so_i hf) dX9_hide_56
    · have hf := it_t hf c6
      refine lv_iload_n hx hb dX9_hide_16 rfl (lv_at hl 2 rfl) ?_
      refine lv_iconst (v := (1 : Int32)) hx hb dX9_hide_17 (by decide) ?_
      refine lv_icmp_lt (tgt := 55) hx hb dX9_hide_18 (by decide) (fun c7 => ?_) (fun c7 => ?_)
      · have hf := it_t hf c7
        refine lv_iconst (v := (-1 : Int32)) hx hb dX9_hide_55 (by decide) ?_
        exact rtWi X hlk G hr (so_i hf) dX9_hide_56
      · have hf := it_f hf c7
        refine lv_iload_n hx hb dX9_hide_21 rfl (lv_at hl 2 rfl) ?_
        refine lv_aload_n hx hb dX9_hide_22 rfl (lv_at hl 0 rfl) ?_
        refine gf9 X G (hL 0 rfl) rfl 7 (by decide) rfl kf_X9_52 iwX9 dX9_hide_23 ?_
        refine gf2 X G (hL 120 rfl) rfl 1 (by decide) rfl kf_X9_128 iwX2 dX9_hide_26 ?_
        refine lv_iconst (v := (0 : Int32)) hx hb dX9_hide_29 (by decide) ?_
        refine lv_iload_n hx hb dX9_hide_30 rfl (lv_at hl 1 rfl) ?_
        refine lv_iadd hx hb dX9_hide_31 ?_
        obtain ⟨h8, hf⟩ := gd_s hf
        refine ia_ld (k := 122) (n := 41) X G (hL 122 rfl) rfl (by decide) (ix_in h8) dX9_hide_32 ?_
        refine lv_icmp_gt (tgt := 55) hx hb dX9_hide_33 (by decide) (fun c9 => ?_) (fun c9 => ?_)
        · have hf := it_t hf c9
          refine lv_iconst (v := (-1 : Int32)) hx hb dX9_hide_55 (by decide) ?_
          exact rtWi X hlk G hr (so_i hf) dX9_hide_56
        · have hf := it_f hf c9
          refine lv_iload_n hx hb dX9_hide_36 rfl (lv_at hl 2 rfl) ?_
          refine lv_bipush (v := (99 : Int32)) hx hb dX9_hide_37 (by decide) ?_
          refine lv_aload_n hx hb dX9_hide_39 rfl (lv_at hl 0 rfl) ?_
          refine gf9 X G (hL 0 rfl) rfl 7 (by decide) rfl kf_X9_52 iwX9 dX9_hide_40 ?_
          refine gf2 X G (hL 120 rfl) rfl 1 (by decide) rfl kf_X9_128 iwX2 dX9_hide_43 ?_
          refine lv_bipush (v := (16 : Int32)) hx hb dX9_hide_46 (by decide) ?_
          refine lv_iload_n hx hb dX9_hide_48 rfl (lv_at hl 1 rfl) ?_
          refine lv_iadd hx hb dX9_hide_49 ?_
          obtain ⟨h10, hf⟩ := gd_s hf
          refine ia_ld (k := 122) (n := 41) X G (hL 122 rfl) rfl (by decide) (ix_in h10) dX9_hide_50 ?_
          refine lv_isub hx hb dX9_hide_51 ?_
          refine lv_icmp_le (tgt := 57) hx hb dX9_hide_52 (by decide) (fun c11 => ?_) (fun c11 => ?_)
          · have hf := it_t hf c11
            refine lv_aload_n hx hb dX9_hide_57 rfl (lv_at hl 0 rfl) ?_
            refine gf9 X G (hL 0 rfl) rfl 7 (by decide) rfl kf_X9_52 iwX9 dX9_hide_58 ?_
            obtain ⟨s13, h12, hf⟩ := br_s hf
            refine cVWv (As := []) (rest := []) X G kc_X9_150 (tX2_remember l E st _ hL (ok_120 hL)  h12) (rcv X G (hL 120 rfl) (cO2 rfl) rfl) rfl rfl (rmk_le (by omega) (by decide)) rfl hl.1 rfl (Nat.le_of_ble_eq_true rfl) dX9_hide_61 ⟨Nat.zero_le _, Nat.zero_le _⟩ (fun H locs G => ?_)
            refine lv_aload_n hx hb dX9_hide_64 rfl (lv_at hl 0 rfl) ?_
            refine gf9 X G (hL 0 rfl) rfl 7 (by decide) rfl kf_X9_52 iwX9 dX9_hide_65 ?_
            refine gf2 X G (hL 120 rfl) rfl 1 (by decide) rfl kf_X9_128 iwX2 dX9_hide_68 ?_
            refine lv_iconst (v := (0 : Int32)) hx hb dX9_hide_71 (by decide) ?_
            refine lv_iload_n hx hb dX9_hide_72 rfl (lv_at hl 1 rfl) ?_
            refine lv_iadd hx hb dX9_hide_73 ?_
            refine lv_dup2_11 hx hb dX9_hide_74 rfl rfl ?_
            obtain ⟨h14, hf⟩ := gd_s hf
            refine ia_ld (k := 122) (n := 41) X G (hL 122 rfl) rfl (by decide) (ix_in h14) dX9_hide_75 ?_
            refine lv_iload_n hx hb dX9_hide_76 rfl (lv_at hl 2 rfl) ?_
            refine lv_isub hx hb dX9_hide_77 ?_
            obtain ⟨h15, hf⟩ := gd_s hf
            refine ia_st (k := 122) (n := 41) X G (hL 122 rfl) rfl (by decide) (ix_in h15) dX9_hide_78 (fun s16 es16 H locs G => ?_)
            have hf := nm_s hf s16 es16
            refine lv_aload_n hx hb dX9_hide_79 rfl (lv_at hl 0 rfl) ?_
            refine gf9 X G (hL 0 rfl) rfl 7 (by decide) rfl kf_X9_52 iwX9 dX9_hide_80 ?_
            refine gf2 X G (hL 120 rfl) rfl 1 (by decide) rfl kf_X9_128 iwX2 dX9_hide_83 ?_
            refine lv_bipush (v := (16 : Int32)) hx hb dX9_hide_86 (by decide) ?_
            refine lv_iload_n hx hb dX9_hide_88 rfl (lv_at hl 1 rfl) ?_
            refine lv_iadd hx hb dX9_hide_89 ?_
            refine lv_dup2_11 hx hb dX9_hide_90 rfl rfl ?_
            obtain ⟨h17, hf⟩ := gd_s hf
            refine ia_ld (k := 122) (n := 41) X G (hL 122 rfl) rfl (by decide) (ix_in h17) dX9_hide_91 ?_
            refine lv_iload_n hx hb dX9_hide_92 rfl (lv_at hl 2 rfl) ?_
            refine lv_iadd hx hb dX9_hide_93 ?_
            obtain ⟨h18, hf⟩ := gd_s hf
            refine ia_st (k := 122) (n := 41) X G (hL 122 rfl) rfl (by decide) (ix_in h18) dX9_hide_94 (fun s19 es19 H locs G => ?_)
            have hf := nm_s hf s19 es19
            refine lv_aload_n hx hb dX9_hide_95 rfl (lv_at hl 0 rfl) ?_
            refine gf9 X G (hL 0 rfl) rfl 7 (by decide) rfl kf_X9_52 iwX9 dX9_hide_96 ?_
            refine gf2 X G (hL 120 rfl) rfl 1 (by decide) rfl kf_X9_128 iwX2 dX9_hide_99 ?_
            refine lv_bipush (v := (16 : Int32)) hx hb dX9_hide_102 (by decide) ?_
            refine lv_iload_n hx hb dX9_hide_104 rfl (lv_at hl 1 rfl) ?_
            refine lv_iadd hx hb dX9_hide_105 ?_
            obtain ⟨h20, hf⟩ := gd_s hf
            refine ia_ld (k := 122) (n := 41) X G (hL 122 rfl) rfl (by decide) (ix_in h20) dX9_hide_106 ?_
            exact rtWi X hlk G hr (so_i hf) dX9_hide_107
          · have hf := it_f hf c11
            refine lv_iconst (v := (-1 : Int32)) hx hb dX9_hide_55 (by decide) ?_
            exact rtWi X hlk G hr (so_i hf) dX9_hide_56
