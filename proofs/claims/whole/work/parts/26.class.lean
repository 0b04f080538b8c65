theorem dX9_district_0 : decode cX9_district 0 = .ok (.aload_n 0, 1) := by decide +kernel
theorem dX9_district_1 : decode cX9_district 1 = .ok (.iload_n 1, 1) := by decide +kernel
theorem dX9_district_2 : decode cX9_district 2 = .ok (.invokevirtual 124, 3) := by decide +kernel
theorem dX9_district_5 : decode cX9_district 5 = .ok (.ifCond .eq 12, 3) := by decide +kernel
theorem dX9_district_8 : decode cX9_district 8 = .ok (.iload_n 2, 1) := by decide +kernel
theorem dX9_district_9 : decode cX9_district 9 = .ok (.ifCond .lt 8, 3) := by decide +kernel
theorem dX9_district_12 : decode cX9_district 12 = .ok (.iload_n 2, 1) := by decide +kernel
theorem dX9_district_13 : decode cX9_district 13 = .ok (.iconst 1, 1) := by decide +kernel
theorem dX9_district_14 : decode cX9_district 14 = .ok (.if_icmp .le 5, 3) := by decide +kernel
theorem dX9_district_17 : decode cX9_district 17 = .ok (.iconst (-1), 1) := by decide +kernel
theorem dX9_district_18 : decode cX9_district 18 = .ok (.ireturn, 1) := by decide +kernel
theorem dX9_district_19 : decode cX9_district 19 = .ok (.iconst (-1), 1) := by decide +kernel
theorem dX9_district_20 : decode cX9_district 20 = .ok (.istore_n 3, 1) := by decide +kernel
theorem dX9_district_21 : decode cX9_district 21 = .ok (.bipush 8, 2) := by decide +kernel
theorem dX9_district_23 : decode cX9_district 23 = .ok (.istore 4, 2) := by decide +kernel
theorem dX9_district_25 : decode cX9_district 25 = .ok (.iconst 0, 1) := by decide +kernel
theorem dX9_district_26 : decode cX9_district 26 = .ok (.istore 5, 2) := by decide +kernel
theorem dX9_district_28 : decode cX9_district 28 = .ok (.iload 5, 2) := by decide +kernel
theorem dX9_district_30 : decode cX9_district 30 = .ok (.aload_n 0, 1) := by decide +kernel
theorem dX9_district_31 : decode cX9_district 31 = .ok (.getfield 52, 3) := by decide +kernel
theorem dX9_district_34 : decode cX9_district 34 = .ok (.getfield 62, 3) := by decide +kernel
theorem dX9_district_37 : decode cX9_district 37 = .ok (.getfield 231, 3) := by decide +kernel
theorem dX9_district_40 : decode cX9_district 40 = .ok (.if_icmp .ge 43, 3) := by decide +kernel
theorem dX9_district_43 : decode cX9_district 43 = .ok (.aload_n 0, 1) := by decide +kernel
theorem dX9_district_44 : decode cX9_district 44 = .ok (.aload_n 0, 1) := by decide +kernel
theorem dX9_district_45 : decode cX9_district 45 = .ok (.getfield 52, 3) := by decide +kernel
theorem dX9_district_48 : decode cX9_district 48 = .ok (.getfield 128, 3) := by decide +kernel
theorem dX9_district_51 : decode cX9_district 51 = .ok (.bipush 32, 2) := by decide +kernel
theorem dX9_district_53 : decode cX9_district 53 = .ok (.iload 5, 2) := by decide +kernel
theorem dX9_district_55 : decode cX9_district 55 = .ok (.iadd, 1) := by decide +kernel
theorem dX9_district_56 : decode cX9_district 56 = .ok (.iaload, 1) := by decide +kernel
theorem dX9_district_57 : decode cX9_district 57 = .ok (.iload_n 1, 1) := by decide +kernel
theorem dX9_district_58 : decode cX9_district 58 = .ok (.invokevirtual 234, 3) := by decide +kernel
theorem dX9_district_61 : decode cX9_district 61 = .ok (.istore 6, 2) := by decide +kernel
theorem dX9_district_63 : decode cX9_district 63 = .ok (.iload 6, 2) := by decide +kernel
theorem dX9_district_65 : decode cX9_district 65 = .ok (.iload 4, 2) := by decide +kernel
theorem dX9_district_67 : decode cX9_district 67 = .ok (.if_icmp .ge 10, 3) := by decide +kernel
theorem dX9_district_70 : decode cX9_district 70 = .ok (.iload 6, 2) := by decide +kernel
theorem dX9_district_72 : decode cX9_district 72 = .ok (.istore 4, 2) := by decide +kernel
theorem dX9_district_74 : decode cX9_district 74 = .ok (.iload 5, 2) := by decide +kernel
theorem dX9_district_76 : decode cX9_district 76 = .ok (.istore_n 3, 1) := by decide +kernel
theorem dX9_district_77 : decode cX9_district 77 = .ok (.iinc 5 1, 3) := by decide +kernel
theorem dX9_district_80 : decode cX9_district 80 = .ok (.goto (-52), 3) := by decide +kernel
theorem dX9_district_83 : decode cX9_district 83 = .ok (.iload_n 3, 1) := by decide +kernel
theorem dX9_district_84 : decode cX9_district 84 = .ok (.ifCond .ge 6, 3) := by decide +kernel
theorem dX9_district_87 : decode cX9_district 87 = .ok (.bipush (-2), 2) := by decide +kernel
theorem dX9_district_89 : decode cX9_district 89 = .ok (.ireturn, 1) := by decide +kernel
theorem dX9_district_90 : decode cX9_district 90 = .ok (.iload_n 2, 1) := by decide +kernel
theorem dX9_district_91 : decode cX9_district 91 = .ok (.ifCond .ne 7, 3) := by decide +kernel
theorem dX9_district_94 : decode cX9_district 94 = .ok (.iload_n 3, 1) := by decide +kernel
theorem dX9_district_95 : decode cX9_district 95 = .ok (.goto 5, 3) := by decide +kernel
theorem dX9_district_98 : decode cX9_district 98 = .ok (.iload 4, 2) := by decide +kernel
theorem dX9_district_100 : decode cX9_district 100 = .ok (.ireturn, 1) := by decide +kernel
theorem dX9_hiddenIn_0 : decode cX9_hiddenIn 0 = .ok (.iconst 0, 1) := by decide +kernel
theorem dX9_hiddenIn_1 : decode cX9_hiddenIn 1 = .ok (.istore_n 2, 1) := by decide +kernel
theorem dX9_hiddenIn_2 : decode cX9_hiddenIn 2 = .ok (.iconst 0, 1) := by decide +kernel
theorem dX9_hiddenIn_3 : decode cX9_hiddenIn 3 = .ok (.istore_n 3, 1) := by decide +kernel
theorem dX9_hiddenIn_4 : decode cX9_hiddenIn 4 = .ok (.iload_n 3, 1) := by decide +kernel
theorem dX9_hiddenIn_5 : decode cX9_hiddenIn 5 = .ok (.aload_n 0, 1) := by decide +kernel
theorem dX9_hiddenIn_6 : decode cX9_hiddenIn 6 = .ok (.getfield 52, 3) := by decide +kernel
theorem dX9_hiddenIn_9 : decode cX9_hiddenIn 9 = .ok (.getfield 62, 3) := by decide +kernel
theorem dX9_hiddenIn_12 : decode cX9_hiddenIn 12 = .ok (.getfield 111, 3) := by decide +kernel
theorem dX9_hiddenIn_15 : decode cX9_hiddenIn 15 = .ok (.if_icmp .ge 36, 3) := by decide +kernel
theorem dX9_hiddenIn_18 : decode cX9_hiddenIn 18 = .ok (.iload_n 2, 1) := by decide +kernel
theorem dX9_hiddenIn_19 : decode cX9_hiddenIn 19 = .ok (.iload_n 1, 1) := by decide +kernel
theorem dX9_hiddenIn_20 : decode cX9_hiddenIn 20 = .ok (.iload_n 3, 1) := by decide +kernel
theorem dX9_hiddenIn_21 : decode cX9_hiddenIn 21 = .ok (.ishr, 1) := by decide +kernel
theorem dX9_hiddenIn_22 : decode cX9_hiddenIn 22 = .ok (.iconst 1, 1) := by decide +kernel
theorem dX9_hiddenIn_23 : decode cX9_hiddenIn 23 = .ok (.iand, 1) := by decide +kernel
theorem dX9_hiddenIn_24 : decode cX9_hiddenIn 24 = .ok (.ifCond .ne 7, 3) := by decide +kernel
theorem dX9_hiddenIn_27 : decode cX9_hiddenIn 27 = .ok (.iconst 0, 1) := by decide +kernel
theorem dX9_hiddenIn_28 : decode cX9_hiddenIn 28 = .ok (.goto 15, 3) := by decide +kernel
theorem dX9_hiddenIn_31 : decode cX9_hiddenIn 31 = .ok (.aload_n 0, 1) := by decide +kernel
theorem dX9_hiddenIn_32 : decode cX9_hiddenIn 32 = .ok (.getfield 52, 3) := by decide +kernel
theorem dX9_hiddenIn_35 : decode cX9_hiddenIn 35 = .ok (.getfield 128, 3) := by decide +kernel
theorem dX9_hiddenIn_38 : decode cX9_hiddenIn 38 = .ok (.bipush 16, 2) := by decide +kernel
theorem dX9_hiddenIn_40 : decode cX9_hiddenIn 40 = .ok (.iload_n 3, 1) := by decide +kernel
theorem dX9_hiddenIn_41 : decode cX9_hiddenIn 41 = .ok (.iadd, 1) := by decide +kernel
theorem dX9_hiddenIn_42 : decode cX9_hiddenIn 42 = .ok (.iaload, 1) := by decide +kernel
theorem dX9_hiddenIn_43 : decode cX9_hiddenIn 43 = .ok (.iadd, 1) := by decide +kernel
theorem dX9_hiddenIn_44 : decode cX9_hiddenIn 44 = .ok (.istore_n 2, 1) := by decide +kernel
theorem dX9_hiddenIn_45 : decode cX9_hiddenIn 45 = .ok (.iinc 3 1, 3) := by decide +kernel
theorem dX9_hiddenIn_48 : decode cX9_hiddenIn 48 = .ok (.goto (-44), 3) := by decide +kernel
theorem dX9_hiddenIn_51 : decode cX9_hiddenIn 51 = .ok (.iload_n 2, 1) := by decide +kernel
theorem dX9_hiddenIn_52 : decode cX9_hiddenIn 52 = .ok (.ireturn, 1) := by decide +kernel
theorem dX9_hats_0 : decode cX9_hats 0 = .ok (.aload_n 0, 1) := by decide +kernel
theorem dX9_hats_1 : decode cX9_hats 1 = .ok (.getfield 52, 3) := by decide +kernel
theorem dX9_hats_4 : decode cX9_hats 4 = .ok (.getfield 62, 3) := by decide +kernel
theorem dX9_hats_7 : decode cX9_hats 7 = .ok (.getfield 146, 3) := by decide +kernel
theorem dX9_hats_10 : decode cX9_hats 10 = .ok (.ifCond .eq 24, 3) := by decide +kernel
theorem dX9_hats_13 : decode cX9_hats 13 = .ok (.iload_n 1, 1) := by decide +kernel
theorem dX9_hats_14 : decode cX9_hats 14 = .ok (.iconst 1, 1) := by decide +kernel
theorem dX9_hats_15 : decode cX9_hats 15 = .ok (.if_icmp .lt 19, 3) := by decide +kernel
theorem dX9_hats_18 : decode cX9_hats 18 = .ok (.iload_n 1, 1) := by decide +kernel
theorem dX9_hats_19 : decode cX9_hats 19 = .ok (.sipush 400, 3) := by decide +kernel
theorem dX9_hats_22 : decode cX9_hats 22 = .ok (.if_icmp .gt 12, 3) := by decide +kernel
theorem dX9_hats_25 : decode cX9_hats 25 = .ok (.iload_n 2, 1) := by decide +kernel
theorem dX9_hats_26 : decode cX9_hats 26 = .ok (.ifCond .lt 8, 3) := by decide +kernel
theorem dX9_hats_29 : decode cX9_hats 29 = .ok (.iload_n 2, 1) := by decide +kernel
theorem dX9_hats_30 : decode cX9_hats 30 = .ok (.iconst 1, 1) := by decide +kernel
theorem dX9_hats_31 : decode cX9_hats 31 = .ok (.if_icmp .le 5, 3) := by decide +kernel
theorem dX9_hats_34 : decode cX9_hats 34 = .ok (.iconst (-1), 1) := by decide +kernel
theorem dX9_hats_35 : decode cX9_hats 35 = .ok (.ireturn, 1) := by decide +kernel
theorem dX9_hats_36 : decode cX9_hats 36 = .ok (.iconst 0, 1) := by decide +kernel
theorem dX9_hats_37 : decode cX9_hats 37 = .ok (.istore_n 3, 1) := by decide +kernel
theorem dX9_hats_38 : decode cX9_hats 38 = .ok (.bipush 9, 2) := by decide +kernel
theorem dX9_hats_40 : decode cX9_hats 40 = .ok (.istore 4, 2) := by decide +kernel
theorem dX9_hats_42 : decode cX9_hats 42 = .ok (.iconst 1, 1) := by decide +kernel
theorem dX9_hats_43 : decode cX9_hats 43 = .ok (.istore 5, 2) := by decide +kernel
theorem dX9_hats_45 : decode cX9_hats 45 = .ok (.iload 5, 2) := by decide +kernel
theorem dX9_hats_47 : decode cX9_hats 47 = .ok (.iconst 1, 1) := by decide +kernel
theorem dX9_hats_48 : decode cX9_hats 48 = .ok (.aload_n 0, 1) := by decide +kernel
theorem dX9_hats_49 : decode cX9_hats 49 = .ok (.getfield 52, 3) := by decide +kernel
theorem dX9_hats_52 : decode cX9_hats 52 = .ok (.getfield 62, 3) := by decide +kernel
theorem dX9_hats_55 : decode cX9_hats 55 = .ok (.getfield 111, 3) := by decide +kernel
theorem dX9_hats_58 : decode cX9_hats 58 = .ok (.ishl, 1) := by decide +kernel
theorem dX9_hats_59 : decode cX9_hats 59 = .ok (.if_icmp .ge 39, 3) := by decide +kernel
theorem dX9_hats_62 : decode cX9_hats 62 = .ok (.iload 5, 2) := by decide +kernel
theorem dX9_hats_64 : decode cX9_hats 64 = .ok (.invokestatic 197, 3) := by decide +kernel
theorem dX9_hats_67 : decode cX9_hats 67 = .ok (.iload 4, 2) := by decide +kernel
theorem dX9_hats_69 : decode cX9_hats 69 = .ok (.if_icmp .ge 23, 3) := by decide +kernel
theorem dX9_hats_72 : decode cX9_hats 72 = .ok (.aload_n 0, 1) := by decide +kernel
theorem dX9_hats_73 : decode cX9_hats 73 = .ok (.iload 5, 2) := by decide +kernel
theorem dX9_hats_75 : decode cX9_hats 75 = .ok (.invokevirtual 237, 3) := by decide +kernel
theorem dX9_hats_78 : decode cX9_hats 78 = .ok (.iload_n 1, 1) := by decide +kernel
theorem dX9_hats_79 : decode cX9_hats 79 = .ok (.if_icmp .lt 13, 3) := by decide +kernel
theorem dX9_hats_82 : decode cX9_hats 82 = .ok (.iload 5, 2) := by decide +kernel
theorem dX9_hats_84 : decode cX9_hats 84 = .ok (.invokestatic 197, 3) := by decide +kernel
theorem dX9_hats_87 : decode cX9_hats 87 = .ok (.istore 4, 2) := by decide +kernel
theorem dX9_hats_89 : decode cX9_hats 89 = .ok (.iload 5, 2) := by decide +kernel
theorem dX9_hats_91 : decode cX9_hats 91 = .ok (.istore_n 3, 1) := by decide +kernel
theorem dX9_hats_92 : decode cX9_hats 92 = .ok (.iinc 5 1, 3) := by decide +kernel
theorem dX9_hats_95 : decode cX9_hats 95 = .ok (.goto (-50), 3) := by decide +kernel
theorem dX9_hats_98 : decode cX9_hats 98 = .ok (.iload_n 3, 1) := by decide +kernel
theorem dX9_hats_99 : decode cX9_hats 99 = .ok (.ifCond .ne 6, 3) := by decide +kernel
theorem dX9_hats_102 : decode cX9_hats 102 = .ok (.bipush (-2), 2) := by decide +kernel
theorem dX9_hats_104 : decode cX9_hats 104 = .ok (.ireturn, 1) := by decide +kernel
theorem dX9_hats_105 : decode cX9_hats 105 = .ok (.iload_n 2, 1) := by decide +kernel
theorem dX9_hats_106 : decode cX9_hats 106 = .ok (.ifCond .ne 8, 3) := by decide +kernel
theorem dX9_hats_109 : decode cX9_hats 109 = .ok (.iload 4, 2) := by decide +kernel
theorem dX9_hats_111 : decode cX9_hats 111 = .ok (.goto 4, 3) := by decide +kernel
theorem dX9_hats_114 : decode cX9_hats 114 = .ok (.iload_n 3, 1) := by decide +kernel
theorem dX9_hats_115 : decode cX9_hats 115 = .ok (.ireturn, 1) := by decide +kernel
theorem dX9_loan_0 : decode cX9_loan 0 = .ok (.aload_n 0, 1) := by decide +kernel
theorem dX9_loan_1 : decode cX9_loan 1 = .ok (.iload_n 1, 1) := by decide +kernel
theorem dX9_loan_2 : decode cX9_loan 2 = .ok (.iload_n 2, 1) := by decide +kernel
theorem dX9_loan_3 : decode cX9_loan 3 = .ok (.invokevirtual 165, 3) := by decide +kernel
theorem dX9_loan_6 : decode cX9_loan 6 = .ok (.ifCond .eq 26, 3) := by decide +kernel
theorem dX9_loan_9 : decode cX9_loan 9 = .ok (.aload_n 0, 1) := by decide +kernel
theorem dX9_loan_10 : decode cX9_loan 10 = .ok (.iload_n 1, 1) := by decide +kernel
theorem dX9_loan_11 : decode cX9_loan 11 = .ok (.invokevirtual 134, 3) := by decide +kernel
theorem dX9_loan_14 : decode cX9_loan 14 = .ok (.ifCond .ne 18, 3) := by decide +kernel
theorem dX9_loan_17 : decode cX9_loan 17 = .ok (.aload_n 0, 1) := by decide +kernel
theorem dX9_loan_18 : decode cX9_loan 18 = .ok (.iload_n 2, 1) := by decide +kernel
theorem dX9_loan_19 : decode cX9_loan 19 = .ok (.invokevirtual 134, 3) := by decide +kernel
theorem dX9_loan_22 : decode cX9_loan 22 = .ok (.ifCond .ne 10, 3) := by decide +kernel
theorem dX9_loan_25 : decode cX9_loan 25 = .ok (.iload_n 3, 1) := by decide +kernel
theorem dX9_loan_26 : decode cX9_loan 26 = .ok (.invokestatic 219, 3) := by decide +kernel
theorem dX9_loan_29 : decode cX9_loan 29 = .ok (.ifCond .ne 5, 3) := by decide +kernel
theorem dX9_loan_32 : decode cX9_loan 32 = .ok (.iconst (-1), 1) := by decide +kernel
theorem dX9_loan_33 : decode cX9_loan 33 = .ok (.ireturn, 1) := by decide +kernel
theorem dX9_loan_34 : decode cX9_loan 34 = .ok (.iconst 0, 1) := by decide +kernel
theorem dX9_loan_35 : decode cX9_loan 35 = .ok (.istore 4, 2) := by decide +kernel
theorem dX9_loan_37 : decode cX9_loan 37 = .ok (.iload 4, 2) := by decide +kernel
theorem dX9_loan_39 : decode cX9_loan 39 = .ok (.aload_n 0, 1) := by decide +kernel
theorem dX9_loan_40 : decode cX9_loan 40 = .ok (.getfield 52, 3) := by decide +kernel
theorem dX9_loan_43 : decode cX9_loan 43 = .ok (.getfield 128, 3) := by decide +kernel
theorem dX9_loan_46 : decode cX9_loan 46 = .ok (.iconst 0, 1) := by decide +kernel
theorem dX9_loan_47 : decode cX9_loan 47 = .ok (.iload_n 1, 1) := by decide +kernel
theorem dX9_loan_48 : decode cX9_loan 48 = .ok (.iadd, 1) := by decide +kernel
theorem dX9_loan_49 : decode cX9_loan 49 = .ok (.iaload, 1) := by decide +kernel
theorem dX9_loan_50 : decode cX9_loan 50 = .ok (.if_icmp .gt 42, 3) := by decide +kernel
theorem dX9_loan_53 : decode cX9_loan 53 = .ok (.aload_n 0, 1) := by decide +kernel
theorem dX9_loan_54 : decode cX9_loan 54 = .ok (.invokevirtual 194, 3) := by decide +kernel
theorem dX9_loan_57 : decode cX9_loan 57 = .ok (.aload_n 0, 1) := by decide +kernel
theorem dX9_loan_58 : decode cX9_loan 58 = .ok (.getfield 91, 3) := by decide +kernel
theorem dX9_loan_61 : decode cX9_loan 61 = .ok (.iload_n 1, 1) := by decide +kernel
theorem dX9_loan_62 : decode cX9_loan 62 = .ok (.iload_n 2, 1) := by decide +kernel
theorem dX9_loan_63 : decode cX9_loan 63 = .ok (.iload 4, 2) := by decide +kernel
theorem dX9_loan_65 : decode cX9_loan 65 = .ok (.invokestatic 169, 3) := by decide +kernel
theorem dX9_loan_68 : decode cX9_loan 68 = .ok (.aload_n 0, 1) := by decide +kernel
theorem dX9_loan_69 : decode cX9_loan 69 = .ok (.iload_n 3, 1) := by decide +kernel
theorem dX9_loan_70 : decode cX9_loan 70 = .ok (.iconst 1, 1) := by decide +kernel
theorem dX9_loan_71 : decode cX9_loan 71 = .ok (.iload_n 1, 1) := by decide +kernel
theorem dX9_loan_72 : decode cX9_loan 72 = .ok (.ishl, 1) := by decide +kernel
theorem dX9_loan_73 : decode cX9_loan 73 = .ok (.iconst 1, 1) := by decide +kernel
theorem dX9_loan_74 : decode cX9_loan 74 = .ok (.iload_n 2, 1) := by decide +kernel
theorem dX9_loan_75 : decode cX9_loan 75 = .ok (.ishl, 1) := by decide +kernel
theorem dX9_loan_76 : decode cX9_loan 76 = .ok (.ior, 1) := by decide +kernel
theorem dX9_loan_77 : decode cX9_loan 77 = .ok (.invokevirtual 222, 3) := by decide +kernel
theorem dX9_loan_80 : decode cX9_loan 80 = .ok (.ifCond .eq 6, 3) := by decide +kernel
theorem dX9_loan_83 : decode cX9_loan 83 = .ok (.iload 4, 2) := by decide +kernel
theorem dX9_loan_85 : decode cX9_loan 85 = .ok (.ireturn, 1) := by decide +kernel
theorem dX9_loan_86 : decode cX9_loan 86 = .ok (.iinc 4 1, 3) := by decide +kernel
theorem dX9_loan_89 : decode cX9_loan 89 = .ok (.goto (-52), 3) := by decide +kernel
theorem dX9_loan_92 : decode cX9_loan 92 = .ok (.bipush (-2), 2) := by decide +kernel
theorem dX9_loan_94 : decode cX9_loan 94 = .ok (.ireturn, 1) := by decide +kernel
theorem dX9_isBookNight_0 : decode cX9_isBookNight 0 = .ok (.iload_n 0, 1) := by decide +kernel
theorem dX9_isBookNight_1 : decode cX9_isBookNight 1 = .ok (.ifCond .lt 13, 3) := by decide +kernel
theorem dX9_isBookNight_4 : decode cX9_isBookNight 4 = .ok (.iload_n 0, 1) := by decide +kernel
theorem dX9_isBookNight_5 : decode cX9_isBookNight 5 = .ok (.bipush 60, 2) := by decide +kernel
theorem dX9_isBookNight_7 : decode cX9_isBookNight 7 = .ok (.if_icmp .gt 7, 3) := by decide +kernel
theorem dX9_isBookNight_10 : decode cX9_isBookNight 10 = .ok (.iconst 1, 1) := by decide +kernel
theorem dX9_isBookNight_11 : decode cX9_isBookNight 11 = .ok (.goto 4, 3) := by decide +kernel
theorem dX9_isBookNight_14 : decode cX9_isBookNight 14 = .ok (.iconst 0, 1) := by decide +kernel
theorem dX9_isBookNight_15 : decode cX9_isBookNight 15 = .ok (.ireturn, 1) := by decide +kernel
theorem dX9_book_0 : decode cX9_book 0 = .ok (.iload_n 1, 1) := by decide +kernel
theorem dX9_book_1 : decode cX9_book 1 = .ok (.iconst (-1), 1) := by decide +kernel
theorem dX9_book_2 : decode cX9_book 2 = .ok (.if_icmp .ne 13, 3) := by decide +kernel
theorem dX9_book_5 : decode cX9_book 5 = .ok (.aload_n 0, 1) := by decide +kernel
theorem dX9_book_6 : decode cX9_book 6 = .ok (.getfield 52, 3) := by decide +kernel
theorem dX9_book_9 : decode cX9_book 9 = .ok (.iconst 0, 1) := by decide +kernel
theorem dX9_book_10 : decode cX9_book 10 = .ok (.putfield 240, 3) := by decide +kernel
theorem dX9_book_13 : decode cX9_book 13 = .ok (.iconst 0, 1) := by decide +kernel
theorem dX9_book_14 : decode cX9_book 14 = .ok (.ireturn, 1) := by decide +kernel
theorem dX9_book_15 : decode cX9_book 15 = .ok (.iload_n 1, 1) := by decide +kernel
theorem dX9_book_16 : decode cX9_book 16 = .ok (.invokestatic 243, 3) := by decide +kernel
theorem dX9_book_19 : decode cX9_book 19 = .ok (.ifCond .eq 34, 3) := by decide +kernel
theorem dX9_book_22 : decode cX9_book 22 = .ok (.aload_n 0, 1) := by decide +kernel
theorem dX9_book_23 : decode cX9_book 23 = .ok (.iload_n 2, 1) := by decide +kernel
theorem dX9_book_24 : decode cX9_book 24 = .ok (.invokevirtual 124, 3) := by decide +kernel
theorem dX9_book_27 : decode cX9_book 27 = .ok (.ifCond .eq 26, 3) := by decide +kernel
theorem dX9_book_30 : decode cX9_book 30 = .ok (.iload_n 3, 1) := by decide +kernel
theorem dX9_book_31 : decode cX9_book 31 = .ok (.ifCond .lt 22, 3) := by decide +kernel
theorem dX9_book_34 : decode cX9_book 34 = .ok (.iload_n 3, 1) := by decide +kernel
theorem dX9_book_35 : decode cX9_book 35 = .ok (.sipush 999, 3) := by decide +kernel
theorem dX9_book_38 : decode cX9_book 38 = .ok (.if_icmp .gt 15, 3) := by decide +kernel
theorem dX9_book_41 : decode cX9_book 41 = .ok (.aload_n 0, 1) := by decide +kernel
theorem dX9_book_42 : decode cX9_book 42 = .ok (.getfield 52, 3) := by decide +kernel
theorem dX9_book_45 : decode cX9_book 45 = .ok (.getfield 240, 3) := by decide +kernel
theorem dX9_book_48 : decode cX9_book 48 = .ok (.bipush 10, 2) := by decide +kernel
theorem dX9_book_50 : decode cX9_book 50 = .ok (.if_icmp .lt 6, 3) := by decide +kernel
theorem dX9_book_53 : decode cX9_book 53 = .ok (.bipush (-2), 2) := by decide +kernel
theorem dX9_book_55 : decode cX9_book 55 = .ok (.ireturn, 1) := by decide +kernel
theorem dX9_book_56 : decode cX9_book 56 = .ok (.aload_n 0, 1) := by decide +kernel
theorem dX9_book_57 : decode cX9_book 57 = .ok (.getfield 52, 3) := by decide +kernel
theorem dX9_book_60 : decode cX9_book 60 = .ok (.iload_n 1, 1) := by decide +kernel
theorem dX9_book_61 : decode cX9_book 61 = .ok (.iload_n 2, 1) := by decide +kernel
theorem dX9_book_62 : decode cX9_book 62 = .ok (.iload_n 3, 1) := by decide +kernel
theorem dX9_book_63 : decode cX9_book 63 = .ok (.invokevirtual 246, 3) := by decide +kernel
theorem dX9_book_66 : decode cX9_book 66 = .ok (.aload_n 0, 1) := by decide +kernel
theorem dX9_book_67 : decode cX9_book 67 = .ok (.getfield 52, 3) := by decide +kernel
theorem dX9_book_70 : decode cX9_book 70 = .ok (.getfield 240, 3) := by decide +kernel
theorem dX9_book_73 : decode cX9_book 73 = .ok (.ireturn, 1) := by decide +kernel
theorem dX9_ruled_0 : decode cX9_ruled 0 = .ok (.aload_n 0, 1) := by decide +kernel
theorem dX9_ruled_1 : decode cX9_ruled 1 = .ok (.getfield 52, 3) := by decide +kernel
theorem dX9_ruled_4 : decode cX9_ruled 4 = .ok (.getfield 62, 3) := by decide +kernel
theorem dX9_ruled_7 : decode cX9_ruled 7 = .ok (.getfield 146, 3) := by decide +kernel
theorem dX9_ruled_10 : decode cX9_ruled 10 = .ok (.ifCond .eq 12, 3) := by decide +kernel
theorem dX9_ruled_13 : decode cX9_ruled 13 = .ok (.iload_n 1, 1) := by decide +kernel
theorem dX9_ruled_14 : decode cX9_ruled 14 = .ok (.ifCond .lt 8, 3) := by decide +kernel
theorem dX9_ruled_17 : decode cX9_ruled 17 = .ok (.iload_n 1, 1) := by decide +kernel
theorem dX9_ruled_18 : decode cX9_ruled 18 = .ok (.iconst 1, 1) := by decide +kernel
theorem dX9_ruled_19 : decode cX9_ruled 19 = .ok (.if_icmp .le 6, 3) := by decide +kernel
theorem dX9_ruled_22 : decode cX9_ruled 22 = .ok (.bipush (-3), 2) := by decide +kernel
theorem dX9_ruled_24 : decode cX9_ruled 24 = .ok (.ireturn, 1) := by decide +kernel
theorem dX9_ruled_25 : decode cX9_ruled 25 = .ok (.iconst 0, 1) := by decide +kernel
theorem dX9_ruled_26 : decode cX9_ruled 26 = .ok (.istore_n 2, 1) := by decide +kernel
theorem dX9_ruled_27 : decode cX9_ruled 27 = .ok (.bipush (-2), 2) := by decide +kernel
theorem dX9_ruled_29 : decode cX9_ruled 29 = .ok (.istore_n 3, 1) := by decide +kernel
theorem dX9_ruled_30 : decode cX9_ruled 30 = .ok (.iconst (-1), 1) := by decide +kernel
theorem dX9_ruled_31 : decode cX9_ruled 31 = .ok (.istore 4, 2) := by decide +kernel
theorem dX9_ruled_33 : decode cX9_ruled 33 = .ok (.iload 4, 2) := by decide +kernel
theorem dX9_ruled_35 : decode cX9_ruled 35 = .ok (.aload_n 0, 1) := by decide +kernel
theorem dX9_ruled_36 : decode cX9_ruled 36 = .ok (.getfield 46, 3) := by decide +kernel
theorem dX9_ruled_39 : decode cX9_ruled 39 = .ok (.if_icmp .ge 41, 3) := by decide +kernel
theorem dX9_ruled_42 : decode cX9_ruled 42 = .ok (.aload_n 0, 1) := by decide +kernel
theorem dX9_ruled_43 : decode cX9_ruled 43 = .ok (.getfield 87, 3) := by decide +kernel
theorem dX9_ruled_46 : decode cX9_ruled 46 = .ok (.aload_n 0, 1) := by decide +kernel
theorem dX9_ruled_47 : decode cX9_ruled 47 = .ok (.iload 4, 2) := by decide +kernel
theorem dX9_ruled_49 : decode cX9_ruled 49 = .ok (.invokevirtual 153, 3) := by decide +kernel
theorem dX9_ruled_52 : decode cX9_ruled 52 = .ok (.invokevirtual 250, 3) := by decide +kernel
theorem dX9_ruled_55 : decode cX9_ruled 55 = .ok (.ifCond .eq 19, 3) := by decide +kernel
theorem dX9_ruled_58 : decode cX9_ruled 58 = .ok (.iinc 2 1, 3) := by decide +kernel
theorem dX9_ruled_61 : decode cX9_ruled 61 = .ok (.iload_n 3, 1) := by decide +kernel
theorem dX9_ruled_62 : decode cX9_ruled 62 = .ok (.bipush (-2), 2) := by decide +kernel
theorem dX9_ruled_64 : decode cX9_ruled 64 = .ok (.if_icmp .ne 8, 3) := by decide +kernel
theorem dX9_ruled_67 : decode cX9_ruled 67 = .ok (.iload 4, 2) := by decide +kernel
theorem dX9_ruled_69 : decode cX9_ruled 69 = .ok (.goto 4, 3) := by decide +kernel
theorem dX9_ruled_72 : decode cX9_ruled 72 = .ok (.iload_n 3, 1) := by decide +kernel
theorem dX9_ruled_73 : decode cX9_ruled 73 = .ok (.istore_n 3, 1) := by decide +kernel
theorem dX9_ruled_74 : decode cX9_ruled 74 = .ok (.iinc 4 1, 3) := by decide +kernel
theorem dX9_ruled_77 : decode cX9_ruled 77 = .ok (.goto (-44), 3) := by decide +kernel
theorem dX9_ruled_80 : decode cX9_ruled 80 = .ok (.iload_n 1, 1) := by decide +kernel
theorem dX9_ruled_81 : decode cX9_ruled 81 = .ok (.ifCond .ne 7, 3) := by decide +kernel
theorem dX9_ruled_84 : decode cX9_ruled 84 = .ok (.iload_n 2, 1) := by decide +kernel
theorem dX9_ruled_85 : decode cX9_ruled 85 = .ok (.goto 4, 3) := by decide +kernel
theorem dX9_ruled_88 : decode cX9_ruled 88 = .ok (.iload_n 3, 1) := by decide +kernel
theorem dX9_ruled_89 : decode cX9_ruled 89 = .ok (.ireturn, 1) := by decide +kernel
theorem dX9_look_0 : decode cX9_look 0 = .ok (.aload_n 0, 1) := by decide +kernel
theorem dX9_look_1 : decode cX9_look 1 = .ok (.getfield 52, 3) := by decide +kernel
theorem dX9_look_4 : decode cX9_look 4 = .ok (.getfield 62, 3) := by decide +kernel
theorem dX9_look_7 : decode cX9_look 7 = .ok (.getfield 146, 3) := by decide +kernel
theorem dX9_look_10 : decode cX9_look 10 = .ok (.ifCond .eq 19, 3) := by decide +kernel
theorem dX9_look_13 : decode cX9_look 13 = .ok (.iload_n 1, 1) := by decide +kernel
theorem dX9_look_14 : decode cX9_look 14 = .ok (.invokestatic 243, 3) := by decide +kernel
theorem dX9_look_17 : decode cX9_look 17 = .ok (.ifCond .eq 12, 3) := by decide +kernel
theorem dX9_look_20 : decode cX9_look 20 = .ok (.iload_n 2, 1) := by decide +kernel
theorem dX9_look_21 : decode cX9_look 21 = .ok (.ifCond .lt 8, 3) := by decide +kernel
theorem dX9_look_24 : decode cX9_look 24 = .ok (.iload_n 2, 1) := by decide +kernel
theorem dX9_look_25 : decode cX9_look 25 = .ok (.iconst 1, 1) := by decide +kernel
theorem dX9_look_26 : decode cX9_look 26 = .ok (.if_icmp .le 5, 3) := by decide +kernel
theorem dX9_look_29 : decode cX9_look 29 = .ok (.iconst (-1), 1) := by decide +kernel
theorem dX9_look_30 : decode cX9_look 30 = .ok (.ireturn, 1) := by decide +kernel
theorem dX9_look_31 : decode cX9_look 31 = .ok (.aload_n 0, 1) := by decide +kernel
theorem dX9_look_32 : decode cX9_look 32 = .ok (.getfield 87, 3) := by decide +kernel
theorem dX9_look_35 : decode cX9_look 35 = .ok (.invokevirtual 254, 3) := by decide +kernel
theorem dX9_look_38 : decode cX9_look 38 = .ok (.iconst (-1), 1) := by decide +kernel
theorem dX9_look_39 : decode cX9_look 39 = .ok (.istore_n 3, 1) := by decide +kernel
theorem dX9_look_40 : decode cX9_look 40 = .ok (.iload_n 3, 1) := by decide +kernel
theorem dX9_look_41 : decode cX9_look 41 = .ok (.aload_n 0, 1) := by decide +kernel
theorem dX9_look_42 : decode cX9_look 42 = .ok (.getfield 46, 3) := by decide +kernel
theorem dX9_look_45 : decode cX9_look 45 = .ok (.if_icmp .ge 37, 3) := by decide +kernel
theorem dX9_look_48 : decode cX9_look 48 = .ok (.aload_n 0, 1) := by decide +kernel
theorem dX9_look_49 : decode cX9_look 49 = .ok (.getfield 87, 3) := by decide +kernel
theorem dX9_look_52 : decode cX9_look 52 = .ok (.aload_n 0, 1) := by decide +kernel
theorem dX9_look_53 : decode cX9_look 53 = .ok (.iload_n 3, 1) := by decide +kernel
theorem dX9_look_54 : decode cX9_look 54 = .ok (.invokevirtual 153, 3) := by decide +kernel
theorem dX9_look_57 : decode cX9_look 57 = .ok (.invokevirtual 250, 3) := by decide +kernel
theorem dX9_look_60 : decode cX9_look 60 = .ok (.ifCond .eq 16, 3) := by decide +kernel
theorem dX9_look_63 : decode cX9_look 63 = .ok (.aload_n 0, 1) := by decide +kernel
theorem dX9_look_64 : decode cX9_look 64 = .ok (.getfield 87, 3) := by decide +kernel
theorem dX9_look_67 : decode cX9_look 67 = .ok (.aload_n 0, 1) := by decide +kernel
theorem dX9_look_68 : decode cX9_look 68 = .ok (.iload_n 3, 1) := by decide +kernel
theorem dX9_look_69 : decode cX9_look 69 = .ok (.invokevirtual 153, 3) := by decide +kernel
theorem dX9_look_72 : decode cX9_look 72 = .ok (.iload_n 1, 1) := by decide +kernel
theorem dX9_look_73 : decode cX9_look 73 = .ok (.invokevirtual 257, 3) := by decide +kernel
theorem dX9_look_76 : decode cX9_look 76 = .ok (.iinc 3 1, 3) := by decide +kernel
theorem dX9_look_79 : decode cX9_look 79 = .ok (.goto (-39), 3) := by decide +kernel
theorem dX9_look_82 : decode cX9_look 82 = .ok (.aload_n 0, 1) := by decide +kernel
theorem dX9_look_83 : decode cX9_look 83 = .ok (.getfield 87, 3) := by decide +kernel
theorem dX9_look_86 : decode cX9_look 86 = .ok (.getfield 261, 3) := by decide +kernel
theorem dX9_look_89 : decode cX9_look 89 = .ok (.ifCond .eq 16, 3) := by decide +kernel
theorem dX9_look_92 : decode cX9_look 92 = .ok (.aload_n 0, 1) := by decide +kernel
theorem dX9_look_93 : decode cX9_look 93 = .ok (.getfield 52, 3) := by decide +kernel
theorem dX9_look_96 : decode cX9_look 96 = .ok (.getfield 62, 3) := by decide +kernel
theorem dX9_look_99 : decode cX9_look 99 = .ok (.getfield 111, 3) := by decide +kernel
theorem dX9_look_102 : decode cX9_look 102 = .ok (.ifCond .ne 6, 3) := by decide +kernel
theorem dX9_look_105 : decode cX9_look 105 = .ok (.bipush (-2), 2) := by decide +kernel
theorem dX9_look_107 : decode cX9_look 107 = .ok (.ireturn, 1) := by decide +kernel
theorem dX9_look_108 : decode cX9_look 108 = .ok (.iconst 0, 1) := by decide +kernel
theorem dX9_look_109 : decode cX9_look 109 = .ok (.istore_n 3, 1) := by decide +kernel
theorem dX9_look_110 : decode cX9_look 110 = .ok (.iconst 1, 1) := by decide +kernel
theorem dX9_look_111 : decode cX9_look 111 = .ok (.istore 4, 2) := by decide +kernel
theorem dX9_look_113 : decode cX9_look 113 = .ok (.iload 4, 2) := by decide +kernel
theorem dX9_look_115 : decode cX9_look 115 = .ok (.aload_n 0, 1) := by decide +kernel
theorem dX9_look_116 : decode cX9_look 116 = .ok (.getfield 52, 3) := by decide +kernel
theorem dX9_look_119 : decode cX9_look 119 = .ok (.getfield 62, 3) := by decide +kernel
theorem dX9_look_122 : decode cX9_look 122 = .ok (.getfield 111, 3) := by decide +kernel
theorem dX9_look_125 : decode cX9_look 125 = .ok (.if_icmp .ge 36, 3) := by decide +kernel
theorem dX9_look_128 : decode cX9_look 128 = .ok (.aload_n 0, 1) := by decide +kernel
theorem dX9_look_129 : decode cX9_look 129 = .ok (.getfield 87, 3) := by decide +kernel
theorem dX9_look_132 : decode cX9_look 132 = .ok (.iload 4, 2) := by decide +kernel
theorem dX9_look_134 : decode cX9_look 134 = .ok (.invokevirtual 264, 3) := by decide +kernel
theorem dX9_look_137 : decode cX9_look 137 = .ok (.aload_n 0, 1) := by decide +kernel
theorem dX9_look_138 : decode cX9_look 138 = .ok (.getfield 87, 3) := by decide +kernel
theorem dX9_look_141 : decode cX9_look 141 = .ok (.iload_n 3, 1) := by decide +kernel
theorem dX9_look_142 : decode cX9_look 142 = .ok (.invokevirtual 264, 3) := by decide +kernel
theorem dX9_look_145 : decode cX9_look 145 = .ok (.if_icmp .ge 8, 3) := by decide +kernel
theorem dX9_look_148 : decode cX9_look 148 = .ok (.iload 4, 2) := by decide +kernel
theorem dX9_look_150 : decode cX9_look 150 = .ok (.goto 4, 3) := by decide +kernel
theorem dX9_look_153 : decode cX9_look 153 = .ok (.iload_n 3, 1) := by decide +kernel
theorem dX9_look_154 : decode cX9_look 154 = .ok (.istore_n 3, 1) := by decide +kernel
theorem dX9_look_155 : decode cX9_look 155 = .ok (.iinc 4 1, 3) := by decide +kernel
theorem dX9_look_158 : decode cX9_look 158 = .ok (.goto (-45), 3) := by decide +kernel
theorem dX9_look_161 : decode cX9_look 161 = .ok (.iload_n 2, 1) := by decide +kernel
theorem dX9_look_162 : decode cX9_look 162 = .ok (.ifCond .ne 7, 3) := by decide +kernel
theorem dX9_look_165 : decode cX9_look 165 = .ok (.iload_n 3, 1) := by decide +kernel
theorem dX9_look_166 : decode cX9_look 166 = .ok (.goto 11, 3) := by decide +kernel
theorem dX9_look_169 : decode cX9_look 169 = .ok (.aload_n 0, 1) := by decide +kernel
theorem dX9_look_170 : decode cX9_look 170 = .ok (.getfield 87, 3) := by decide +kernel
theorem dX9_look_173 : decode cX9_look 173 = .ok (.iload_n 3, 1) := by decide +kernel
theorem dX9_look_174 : decode cX9_look 174 = .ok (.invokevirtual 264, 3) := by decide +kernel
theorem dX9_look_177 : decode cX9_look 177 = .ok (.ireturn, 1) := by decide +kernel
theorem dX9_seed_0 : decode cX9_seed 0 = .ok (.iload_n 1, 1) := by decide +kernel
theorem dX9_seed_1 : decode cX9_seed 1 = .ok (.ifCond .ge 5, 3) := by decide +kernel
theorem dX9_seed_4 : decode cX9_seed 4 = .ok (.iconst (-1), 1) := by decide +kernel
theorem dX9_seed_5 : decode cX9_seed 5 = .ok (.ireturn, 1) := by decide +kernel
theorem dX9_seed_6 : decode cX9_seed 6 = .ok (.aload_n 0, 1) := by decide +kernel
theorem dX9_seed_7 : decode cX9_seed 7 = .ok (.getfield 52, 3) := by decide +kernel
theorem dX9_seed_10 : decode cX9_seed 10 = .ok (.getfield 267, 3) := by decide +kernel
theorem dX9_seed_13 : decode cX9_seed 13 = .ok (.istore_n 2, 1) := by decide +kernel
theorem dX9_seed_14 : decode cX9_seed 14 = .ok (.aload_n 0, 1) := by decide +kernel
theorem dX9_seed_15 : decode cX9_seed 15 = .ok (.getfield 52, 3) := by decide +kernel
theorem dX9_seed_18 : decode cX9_seed 18 = .ok (.iload_n 1, 1) := by decide +kernel
theorem dX9_seed_19 : decode cX9_seed 19 = .ok (.putfield 267, 3) := by decide +kernel
theorem dX9_seed_22 : decode cX9_seed 22 = .ok (.iload_n 2, 1) := by decide +kernel
theorem dX9_seed_23 : decode cX9_seed 23 = .ok (.ireturn, 1) := by decide +kernel
theorem dX9_nextDraw_0 : decode cX9_nextDraw 0 = .ok (.lload_n 0, 1) := by decide +kernel
theorem dX9_nextDraw_1 : decode cX9_nextDraw 1 = .ok (.ldc2_w 298, 3) := by decide +kernel
theorem dX9_nextDraw_4 : decode cX9_nextDraw 4 = .ok (.lmul, 1) := by decide +kernel
theorem dX9_nextDraw_5 : decode cX9_nextDraw 5 = .ok (.ldc2_w 300, 3) := by decide +kernel
theorem dX9_nextDraw_8 : decode cX9_nextDraw 8 = .ok (.ladd, 1) := by decide +kernel
theorem dX9_nextDraw_9 : decode cX9_nextDraw 9 = .ok (.ldc2_w 302, 3) := by decide +kernel
theorem dX9_nextDraw_12 : decode cX9_nextDraw 12 = .ok (.lrem, 1) := by decide +kernel
theorem dX9_nextDraw_13 : decode cX9_nextDraw 13 = .ok (.lreturn, 1) := by decide +kernel
theorem dX9_winters_0 : decode cX9_winters 0 = .ok (.aload_n 0, 1) := by decide +kernel
theorem dX9_winters_1 : decode cX9_winters 1 = .ok (.getfield 52, 3) := by decide +kernel
theorem dX9_winters_4 : decode cX9_winters 4 = .ok (.getfield 62, 3) := by decide +kernel
theorem dX9_winters_7 : decode cX9_winters 7 = .ok (.getfield 146, 3) := by decide +kernel
theorem dX9_winters_10 : decode cX9_winters 10 = .ok (.ifCond .eq 42, 3) := by decide +kernel
theorem dX9_winters_13 : decode cX9_winters 13 = .ok (.iload_n 1, 1) := by decide +kernel
theorem dX9_winters_14 : decode cX9_winters 14 = .ok (.iconst 1, 1) := by decide +kernel
theorem dX9_winters_15 : decode cX9_winters 15 = .ok (.if_icmp .lt 37, 3) := by decide +kernel
theorem dX9_winters_18 : decode cX9_winters 18 = .ok (.iload_n 1, 1) := by decide +kernel
theorem dX9_winters_19 : decode cX9_winters 19 = .ok (.bipush 10, 2) := by decide +kernel
theorem dX9_winters_21 : decode cX9_winters 21 = .ok (.if_icmp .gt 31, 3) := by decide +kernel
theorem dX9_winters_24 : decode cX9_winters 24 = .ok (.iload_n 2, 1) := by decide +kernel
theorem dX9_winters_25 : decode cX9_winters 25 = .ok (.invokestatic 219, 3) := by decide +kernel
theorem dX9_winters_28 : decode cX9_winters 28 = .ok (.ifCond .eq 24, 3) := by decide +kernel
theorem dX9_winters_31 : decode cX9_winters 31 = .ok (.iload_n 3, 1) := by decide +kernel
theorem dX9_winters_32 : decode cX9_winters 32 = .ok (.ifCond .lt 20, 3) := by decide +kernel
theorem dX9_winters_35 : decode cX9_winters 35 = .ok (.iload_n 3, 1) := by decide +kernel
theorem dX9_winters_36 : decode cX9_winters 36 = .ok (.bipush 100, 2) := by decide +kernel
theorem dX9_winters_38 : decode cX9_winters 38 = .ok (.if_icmp .gt 14, 3) := by decide +kernel
theorem dX9_winters_41 : decode cX9_winters 41 = .ok (.iload 4, 2) := by decide +kernel
theorem dX9_winters_43 : decode cX9_winters 43 = .ok (.ifCond .lt 9, 3) := by decide +kernel
theorem dX9_winters_46 : decode cX9_winters 46 = .ok (.iload 4, 2) := by decide +kernel
theorem dX9_winters_48 : decode cX9_winters 48 = .ok (.iconst 1, 1) := by decide +kernel
theorem dX9_winters_49 : decode cX9_winters 49 = .ok (.if_icmp .le 5, 3) := by decide +kernel
theorem dX9_winters_52 : decode cX9_winters 52 = .ok (.iconst (-1), 1) := by decide +kernel
theorem dX9_winters_53 : decode cX9_winters 53 = .ok (.ireturn, 1) := by decide +kernel
theorem dX9_winters_54 : decode cX9_winters 54 = .ok (.aload_n 0, 1) := by decide +kernel
theorem dX9_winters_55 : decode cX9_winters 55 = .ok (.getfield 52, 3) := by decide +kernel
theorem dX9_winters_58 : decode cX9_winters 58 = .ok (.getfield 267, 3) := by decide +kernel
theorem dX9_winters_61 : decode cX9_winters 61 = .ok (.i2l, 1) := by decide +kernel
theorem dX9_winters_62 : decode cX9_winters 62 = .ok (.lstore 5, 2) := by decide +kernel
theorem dX9_winters_64 : decode cX9_winters 64 = .ok (.iconst 0, 1) := by decide +kernel
theorem dX9_winters_65 : decode cX9_winters 65 = .ok (.istore 7, 2) := by decide +kernel
theorem dX9_winters_67 : decode cX9_winters 67 = .ok (.iconst 0, 1) := by decide +kernel
theorem dX9_winters_68 : decode cX9_winters 68 = .ok (.istore 8, 2) := by decide +kernel
theorem dX9_winters_70 : decode cX9_winters 70 = .ok (.iconst 0, 1) := by decide +kernel
theorem dX9_winters_71 : decode cX9_winters 71 = .ok (.istore 9, 2) := by decide +kernel
theorem dX9_winters_73 : decode cX9_winters 73 = .ok (.iload 9, 2) := by decide +kernel
theorem dX9_winters_75 : decode cX9_winters 75 = .ok (.iload_n 1, 1) := by decide +kernel
theorem dX9_winters_76 : decode cX9_winters 76 = .ok (.if_icmp .ge 111, 3) := by decide +kernel
theorem dX9_winters_79 : decode cX9_winters 79 = .ok (.aload_n 0, 1) := by decide +kernel
theorem dX9_winters_80 : decode cX9_winters 80 = .ok (.invokevirtual 194, 3) := by decide +kernel
theorem dX9_winters_83 : decode cX9_winters 83 = .ok (.iconst 0, 1) := by decide +kernel
theorem dX9_winters_84 : decode cX9_winters 84 = .ok (.istore 10, 2) := by decide +kernel
theorem dX9_winters_86 : decode cX9_winters 86 = .ok (.iload 10, 2) := by decide +kernel
theorem dX9_winters_88 : decode cX9_winters 88 = .ok (.iload_n 2, 1) := by decide +kernel
theorem dX9_winters_89 : decode cX9_winters 89 = .ok (.if_icmp .ge 49, 3) := by decide +kernel
theorem dX9_winters_92 : decode cX9_winters 92 = .ok (.lload 5, 2) := by decide +kernel
theorem dX9_winters_94 : decode cX9_winters 94 = .ok (.invokestatic 270, 3) := by decide +kernel
theorem dX9_winters_97 : decode cX9_winters 97 = .ok (.lstore 5, 2) := by decide +kernel
theorem dX9_winters_99 : decode cX9_winters 99 = .ok (.aload_n 0, 1) := by decide +kernel
theorem dX9_winters_100 : decode cX9_winters 100 = .ok (.getfield 69, 3) := by decide +kernel
theorem dX9_winters_103 : decode cX9_winters 103 = .ok (.aload_n 0, 1) := by decide +kernel
theorem dX9_winters_104 : decode cX9_winters 104 = .ok (.getfield 91, 3) := by decide +kernel
theorem dX9_winters_107 : decode cX9_winters 107 = .ok (.lload 5, 2) := by decide +kernel
theorem dX9_winters_109 : decode cX9_winters 109 = .ok (.ldc2_w 274, 3) := by decide +kernel
theorem dX9_winters_112 : decode cX9_winters 112 = .ok (.ldiv, 1) := by decide +kernel
theorem dX9_winters_113 : decode cX9_winters 113 = .ok (.ldc2_w 276, 3) := by decide +kernel
theorem dX9_winters_116 : decode cX9_winters 116 = .ok (.lrem, 1) := by decide +kernel
theorem dX9_winters_117 : decode cX9_winters 117 = .ok (.iload_n 3, 1) := by decide +kernel
theorem dX9_winters_118 : decode cX9_winters 118 = .ok (.i2l, 1) := by decide +kernel
theorem dX9_winters_119 : decode cX9_winters 119 = .ok (.lcmp, 1) := by decide +kernel
theorem dX9_winters_120 : decode cX9_winters 120 = .ok (.ifCond .ge 7, 3) := by decide +kernel
theorem dX9_winters_123 : decode cX9_winters 123 = .ok (.iconst 1, 1) := by decide +kernel
theorem dX9_winters_124 : decode cX9_winters 124 = .ok (.goto 4, 3) := by decide +kernel
theorem dX9_winters_127 : decode cX9_winters 127 = .ok (.iconst 0, 1) := by decide +kernel
theorem dX9_winters_128 : decode cX9_winters 128 = .ok (.invokevirtual 161, 3) := by decide +kernel
theorem dX9_winters_131 : decode cX9_winters 131 = .ok (.pop, 1) := by decide +kernel
theorem dX9_winters_132 : decode cX9_winters 132 = .ok (.iinc 10 1, 3) := by decide +kernel
theorem dX9_winters_135 : decode cX9_winters 135 = .ok (.goto (-49), 3) := by decide +kernel
theorem dX9_winters_138 : decode cX9_winters 138 = .ok (.iload 7, 2) := by decide +kernel
theorem dX9_winters_140 : decode cX9_winters 140 = .ok (.aload_n 0, 1) := by decide +kernel
theorem dX9_winters_141 : decode cX9_winters 141 = .ok (.getfield 91, 3) := by decide +kernel
theorem dX9_winters_144 : decode cX9_winters 144 = .ok (.bipush 38, 2) := by decide +kernel
theorem dX9_winters_146 : decode cX9_winters 146 = .ok (.iaload, 1) := by decide +kernel
theorem dX9_winters_147 : decode cX9_winters 147 = .ok (.invokestatic 197, 3) := by decide +kernel
theorem dX9_winters_150 : decode cX9_winters 150 = .ok (.iadd, 1) := by decide +kernel
theorem dX9_winters_151 : decode cX9_winters 151 = .ok (.istore 7, 2) := by decide +kernel
theorem dX9_winters_153 : decode cX9_winters 153 = .ok (.iload 8, 2) := by decide +kernel
theorem dX9_winters_155 : decode cX9_winters 155 = .ok (.aload_n 0, 1) := by decide +kernel
theorem dX9_winters_156 : decode cX9_winters 156 = .ok (.getfield 91, 3) := by decide +kernel
theorem dX9_winters_159 : decode cX9_winters 159 = .ok (.bipush 35, 2) := by decide +kernel
theorem dX9_winters_161 : decode cX9_winters 161 = .ok (.iaload, 1) := by decide +kernel
theorem dX9_winters_162 : decode cX9_winters 162 = .ok (.aload_n 0, 1) := by decide +kernel
theorem dX9_winters_163 : decode cX9_winters 163 = .ok (.getfield 91, 3) := by decide +kernel
theorem dX9_winters_166 : decode cX9_winters 166 = .ok (.bipush 36, 2) := by decide +kernel
theorem dX9_winters_168 : decode cX9_winters 168 = .ok (.iaload, 1) := by decide +kernel
theorem dX9_winters_169 : decode cX9_winters 169 = .ok (.iadd, 1) := by decide +kernel
theorem dX9_winters_170 : decode cX9_winters 170 = .ok (.aload_n 0, 1) := by decide +kernel
theorem dX9_winters_171 : decode cX9_winters 171 = .ok (.getfield 91, 3) := by decide +kernel
theorem dX9_winters_174 : decode cX9_winters 174 = .ok (.bipush 37, 2) := by decide +kernel
theorem dX9_winters_176 : decode cX9_winters 176 = .ok (.iaload, 1) := by decide +kernel
theorem dX9_winters_177 : decode cX9_winters 177 = .ok (.iadd, 1) := by decide +kernel
theorem dX9_winters_178 : decode cX9_winters 178 = .ok (.iadd, 1) := by decide +kernel
theorem dX9_winters_179 : decode cX9_winters 179 = .ok (.istore 8, 2) := by decide +kernel
theorem dX9_winters_181 : decode cX9_winters 181 = .ok (.iinc 9 1, 3) := by decide +kernel
theorem dX9_winters_184 : decode cX9_winters 184 = .ok (.goto (-111), 3) := by decide +kernel
theorem dX9_winters_187 : decode cX9_winters 187 = .ok (.iload 4, 2) := by decide +kernel
theorem dX9_winters_189 : decode cX9_winters 189 = .ok (.ifCond .ne 8, 3) := by decide +kernel
theorem dX9_winters_192 : decode cX9_winters 192 = .ok (.iload 7, 2) := by decide +kernel
theorem dX9_winters_194 : decode cX9_winters 194 = .ok (.goto 5, 3) := by decide +kernel
theorem dX9_winters_197 : decode cX9_winters 197 = .ok (.iload 8, 2) := by decide +kernel
theorem dX9_winters_199 : decode cX9_winters 199 = .ok (.ireturn, 1) := by decide +kernel
theorem dX9_count_0 : decode cX9_count 0 = .ok (.iload_n 1, 1) := by decide +kernel
theorem dX9_count_1 : decode cX9_count 1 = .ok (.tableswitch 249 0 15 #[79, 90, 101, 112, 123, 134, 145, 150, 158, 169, 180, 191, 220, 228, 236, 244], 79) := by decide +kernel
theorem dX9_count_80 : decode cX9_count 80 = .ok (.aload_n 0, 1) := by decide +kernel
theorem dX9_count_81 : decode cX9_count 81 = .ok (.getfield 52, 3) := by decide +kernel
theorem dX9_count_84 : decode cX9_count 84 = .ok (.getfield 62, 3) := by decide +kernel
theorem dX9_count_87 : decode cX9_count 87 = .ok (.getfield 278, 3) := by decide +kernel
theorem dX9_count_90 : decode cX9_count 90 = .ok (.ireturn, 1) := by decide +kernel
theorem dX9_count_91 : decode cX9_count 91 = .ok (.aload_n 0, 1) := by decide +kernel
theorem dX9_count_92 : decode cX9_count 92 = .ok (.getfield 52, 3) := by decide +kernel
theorem dX9_count_95 : decode cX9_count 95 = .ok (.getfield 62, 3) := by decide +kernel
theorem dX9_count_98 : decode cX9_count 98 = .ok (.getfield 279, 3) := by decide +kernel
theorem dX9_count_101 : decode cX9_count 101 = .ok (.ireturn, 1) := by decide +kernel
theorem dX9_count_102 : decode cX9_count 102 = .ok (.aload_n 0, 1) := by decide +kernel
theorem dX9_count_103 : decode cX9_count 103 = .ok (.getfield 52, 3) := by decide +kernel
theorem dX9_count_106 : decode cX9_count 106 = .ok (.getfield 62, 3) := by decide +kernel
theorem dX9_count_109 : decode cX9_count 109 = .ok (.getfield 173, 3) := by decide +kernel
theorem dX9_count_112 : decode cX9_count 112 = .ok (.ireturn, 1) := by decide +kernel
theorem dX9_count_113 : decode cX9_count 113 = .ok (.aload_n 0, 1) := by decide +kernel
theorem dX9_count_114 : decode cX9_count 114 = .ok (.getfield 52, 3) := by decide +kernel
theorem dX9_count_117 : decode cX9_count 117 = .ok (.getfield 62, 3) := by decide +kernel
theorem dX9_count_120 : decode cX9_count 120 = .ok (.getfield 111, 3) := by decide +kernel
theorem dX9_count_123 : decode cX9_count 123 = .ok (.ireturn, 1) := by decide +kernel
theorem dX9_count_124 : decode cX9_count 124 = .ok (.aload_n 0, 1) := by decide +kernel
theorem dX9_count_125 : decode cX9_count 125 = .ok (.getfield 52, 3) := by decide +kernel
theorem dX9_count_128 : decode cX9_count 128 = .ok (.getfield 62, 3) := by decide +kernel
theorem dX9_count_131 : decode cX9_count 131 = .ok (.getfield 282, 3) := by decide +kernel
theorem dX9_count_134 : decode cX9_count 134 = .ok (.ireturn, 1) := by decide +kernel
theorem dX9_count_135 : decode cX9_count 135 = .ok (.aload_n 0, 1) := by decide +kernel
theorem dX9_count_136 : decode cX9_count 136 = .ok (.getfield 52, 3) := by decide +kernel
theorem dX9_count_139 : decode cX9_count 139 = .ok (.getfield 62, 3) := by decide +kernel
theorem dX9_count_142 : decode cX9_count 142 = .ok (.getfield 231, 3) := by decide +kernel
theorem dX9_count_145 : decode cX9_count 145 = .ok (.ireturn, 1) := by decide +kernel
theorem dX9_count_146 : decode cX9_count 146 = .ok (.aload_n 0, 1) := by decide +kernel
theorem dX9_count_147 : decode cX9_count 147 = .ok (.getfield 46, 3) := by decide +kernel
theorem dX9_count_150 : decode cX9_count 150 = .ok (.ireturn, 1) := by decide +kernel
theorem dX9_count_151 : decode cX9_count 151 = .ok (.aload_n 0, 1) := by decide +kernel
theorem dX9_count_152 : decode cX9_count 152 = .ok (.getfield 52, 3) := by decide +kernel
theorem dX9_count_155 : decode cX9_count 155 = .ok (.getfield 121, 3) := by decide +kernel
theorem dX9_count_158 : decode cX9_count 158 = .ok (.ireturn, 1) := by decide +kernel
theorem dX9_count_159 : decode cX9_count 159 = .ok (.aload_n 0, 1) := by decide +kernel
theorem dX9_count_160 : decode cX9_count 160 = .ok (.getfield 52, 3) := by decide +kernel
theorem dX9_count_163 : decode cX9_count 163 = .ok (.getfield 128, 3) := by decide +kernel
theorem dX9_count_166 : decode cX9_count 166 = .ok (.bipush 39, 2) := by decide +kernel
theorem dX9_count_168 : decode cX9_count 168 = .ok (.iaload, 1) := by decide +kernel
theorem dX9_count_169 : decode cX9_count 169 = .ok (.ireturn, 1) := by decide +kernel
theorem dX9_count_170 : decode cX9_count 170 = .ok (.aload_n 0, 1) := by decide +kernel
theorem dX9_count_171 : decode cX9_count 171 = .ok (.getfield 52, 3) := by decide +kernel
theorem dX9_count_174 : decode cX9_count 174 = .ok (.getfield 128, 3) := by decide +kernel
theorem dX9_count_177 : decode cX9_count 177 = .ok (.bipush 38, 2) := by decide +kernel
theorem dX9_count_179 : decode cX9_count 179 = .ok (.iaload, 1) := by decide +kernel
theorem dX9_count_180 : decode cX9_count 180 = .ok (.ireturn, 1) := by decide +kernel
theorem dX9_count_181 : decode cX9_count 181 = .ok (.aload_n 0, 1) := by decide +kernel
theorem dX9_count_182 : decode cX9_count 182 = .ok (.getfield 52, 3) := by decide +kernel
theorem dX9_count_185 : decode cX9_count 185 = .ok (.getfield 128, 3) := by decide +kernel
theorem dX9_count_188 : decode cX9_count 188 = .ok (.bipush 40, 2) := by decide +kernel
theorem dX9_count_190 : decode cX9_count 190 = .ok (.iaload, 1) := by decide +kernel
theorem dX9_count_191 : decode cX9_count 191 = .ok (.ireturn, 1) := by decide +kernel
theorem dX9_count_192 : decode cX9_count 192 = .ok (.aload_n 0, 1) := by decide +kernel
theorem dX9_count_193 : decode cX9_count 193 = .ok (.getfield 52, 3) := by decide +kernel
theorem dX9_count_196 : decode cX9_count 196 = .ok (.getfield 62, 3) := by decide +kernel
theorem dX9_count_199 : decode cX9_count 199 = .ok (.aload_n 0, 1) := by decide +kernel
theorem dX9_count_200 : decode cX9_count 200 = .ok (.getfield 52, 3) := by decide +kernel
theorem dX9_count_203 : decode cX9_count 203 = .ok (.getfield 128, 3) := by decide +kernel
theorem dX9_count_206 : decode cX9_count 206 = .ok (.bipush 39, 2) := by decide +kernel
theorem dX9_count_208 : decode cX9_count 208 = .ok (.iaload, 1) := by decide +kernel
theorem dX9_count_209 : decode cX9_count 209 = .ok (.invokevirtual 285, 3) := by decide +kernel
theorem dX9_count_212 : decode cX9_count 212 = .ok (.ifCond .eq 7, 3) := by decide +kernel
theorem dX9_count_215 : decode cX9_count 215 = .ok (.iconst 1, 1) := by decide +kernel
theorem dX9_count_216 : decode cX9_count 216 = .ok (.goto 4, 3) := by decide +kernel
theorem dX9_count_219 : decode cX9_count 219 = .ok (.iconst 0, 1) := by decide +kernel
theorem dX9_count_220 : decode cX9_count 220 = .ok (.ireturn, 1) := by decide +kernel
theorem dX9_count_221 : decode cX9_count 221 = .ok (.aload_n 0, 1) := by decide +kernel
theorem dX9_count_222 : decode cX9_count 222 = .ok (.getfield 52, 3) := by decide +kernel
theorem dX9_count_225 : decode cX9_count 225 = .ok (.getfield 240, 3) := by decide +kernel
theorem dX9_count_228 : decode cX9_count 228 = .ok (.ireturn, 1) := by decide +kernel
theorem dX9_count_229 : decode cX9_count 229 = .ok (.aload_n 0, 1) := by decide +kernel
theorem dX9_count_230 : decode cX9_count 230 = .ok (.getfield 52, 3) := by decide +kernel
theorem dX9_count_233 : decode cX9_count 233 = .ok (.getfield 191, 3) := by decide +kernel
theorem dX9_count_236 : decode cX9_count 236 = .ok (.ireturn, 1) := by decide +kernel
theorem dX9_count_237 : decode cX9_count 237 = .ok (.aload_n 0, 1) := by decide +kernel
theorem dX9_count_238 : decode cX9_count 238 = .ok (.getfield 52, 3) := by decide +kernel
theorem dX9_count_241 : decode cX9_count 241 = .ok (.getfield 267, 3) := by decide +kernel
theorem dX9_count_244 : decode cX9_count 244 = .ok (.ireturn, 1) := by decide +kernel
theorem dX9_count_245 : decode cX9_count 245 = .ok (.aload_n 0, 1) := by decide +kernel
theorem dX9_count_246 : decode cX9_count 246 = .ok (.getfield 13, 3) := by decide +kernel
theorem dX9_count_249 : decode cX9_count 249 = .ok (.ireturn, 1) := by decide +kernel
theorem dX9_count_250 : decode cX9_count 250 = .ok (.iconst (-1), 1) := by decide +kernel
theorem dX9_count_251 : decode cX9_count 251 = .ok (.ireturn, 1) := by decide +kernel
theorem dX9_back_0 : decode cX9_back 0 = .ok (.iload_n 1, 1) := by decide +kernel
theorem dX9_back_1 : decode cX9_back 1 = .ok (.ifCond .lt 17, 3) := by decide +kernel
theorem dX9_back_4 : decode cX9_back 4 = .ok (.iload_n 1, 1) := by decide +kernel
theorem dX9_back_5 : decode cX9_back 5 = .ok (.iconst 4, 1) := by decide +kernel
theorem dX9_back_6 : decode cX9_back 6 = .ok (.if_icmp .ge 12, 3) := by decide +kernel
theorem dX9_back_9 : decode cX9_back 9 = .ok (.aload_n 0, 1) := by decide +kernel
theorem dX9_back_10 : decode cX9_back 10 = .ok (.getfield 56, 3) := by decide +kernel
theorem dX9_back_13 : decode cX9_back 13 = .ok (.iload_n 1, 1) := by decide +kernel
theorem dX9_back_14 : decode cX9_back 14 = .ok (.aaload, 1) := by decide +kernel
theorem dX9_back_15 : decode cX9_back 15 = .ok (.ifnonnull 5, 3) := by decide +kernel
theorem dX9_back_18 : decode cX9_back 18 = .ok (.iconst (-1), 1) := by decide +kernel
theorem dX9_back_19 : decode cX9_back 19 = .ok (.ireturn, 1) := by decide +kernel
theorem dX9_back_20 : decode cX9_back 20 = .ok (.aload_n 0, 1) := by decide +kernel
theorem dX9_back_21 : decode cX9_back 21 = .ok (.getfield 52, 3) := by decide +kernel
theorem dX9_back_24 : decode cX9_back 24 = .ok (.aload_n 0, 1) := by decide +kernel
theorem dX9_back_25 : decode cX9_back 25 = .ok (.getfield 56, 3) := by decide +kernel
theorem dX9_back_28 : decode cX9_back 28 = .ok (.iload_n 1, 1) := by decide +kernel
theorem dX9_back_29 : decode cX9_back 29 = .ok (.aaload, 1) := by decide +kernel
theorem dX9_back_30 : decode cX9_back 30 = .ok (.invokevirtual 288, 3) := by decide +kernel
theorem dX9_back_33 : decode cX9_back 33 = .ok (.aload_n 0, 1) := by decide +kernel
theorem dX9_back_34 : decode cX9_back 34 = .ok (.getfield 52, 3) := by decide +kernel
theorem dX9_back_37 : decode cX9_back 37 = .ok (.getfield 128, 3) := by decide +kernel
theorem dX9_back_40 : decode cX9_back 40 = .ok (.bipush 39, 2) := by decide +kernel
theorem dX9_back_42 : decode cX9_back 42 = .ok (.iaload, 1) := by decide +kernel
theorem dX9_back_43 : decode cX9_back 43 = .ok (.ireturn, 1) := by decide +kernel
def fX9_district_L28 (p1 : Int32) (p2 : Int32) (st : St) : Nat → Int32 → Int32 → Int32 → Option Int32
  | 0, _, _, _ => none
  | n + 1, y3, y4, y5 => if (st.1 134 6) ≤ y5 then (if 0 ≤ y3 then (if p2 = 0 then (some y3) else (some y4)) else (some (-2 : Int32))) else (gd (ix ((32 : Int32) + y5) 41) (br (fX9_lanesBetween st (st.1 122 ((32 : Int32) + y5).toNatClampNeg) p1) (fun x4 => if y4 ≤ x4 then (nm (y5 + (1 : Int32)) (fun x6 => (fX9_district_L28 p1 p2 st n) y3 y4 x6)) else (nm (y5 + (1 : Int32)) (fun x6 => (fX9_district_L28 p1 p2 st n) y5 x4 x6)))))
set_option maxRecDepth 100000 in
theorem wX9_district_L28 {p : Program} {l : Launch} {e : Env} {s : State} {m : MethodId} {args : Array Value} {below : List Frame} {meth : Method} {c : Code} {E : Ev} (hL : ∀ k, fxC k = true → k ∈ eL E) {p1 : Int32} {p2 : Int32} {st : St} {sz : Nat} {res : Int32} (X : CX p s m args c E RX9 cX9_district 7 (Af E sz)) (hr : meth.sig.returnType = (some .int)) (hlk : meth.locks = false) (G : Gd E st (Af E sz) s s.heap []) : ∀ (n : Nat) (y3 : Int32) (y4 : Int32) (y5 : Int32), fX9_district_L28 p1 p2 st  n y3 y4 y5 = some res → ∀ ls : Array Slot, lv_has ls 7 [(0, .ref (eq E 0)), (1, .int p1), (2, .int p2), (3, .int y3), (4, .int y4), (5, .int y5)] → W p l e (rmk 1) s m args below meth c s.heap [] 0 0 (MQ below (QRi res) args s 0 0 (NoF)) (F0 m 28 ls []) := by
  have hx := X.1.1
  have hb := X.1.2.1
  intro n
  induction n with
  | zero =>
    intro y3 y4 y5 hf ls hl
    cases (show (none : Option Int32) = some res from hf)
  | succ n ih =>
    intro y3 y4 y5 hf ls hl
    rw [fX9_district_L28] at hf
    refine lv_iload hx hb dX9_district_28 (lv_at hl 5 rfl) ?_
    refine lv_aload_n hx hb dX9_district_30 rfl (lv_at hl 0 rfl) ?_
    refine gf9 X G (hL 0 rfl) rfl 7 (by decide) rfl kf_X9_52 iwX9 dX9_district_31 ?_
    refine gf2 X G (hL 120 rfl) rfl 0 (by decide) rfl kf_X9_62 iwX2 dX9_district_34 ?_
    refine gf1 X G (hL 134 rfl) rfl 6 (by decide) rfl kf_X9_231 iwX1 dX9_district_37 ?_
    refine lv_icmp_ge (tgt := 83) hx hb dX9_district_40 (by decide) (fun c1 => ?_) (fun c1 => ?_)
    · have hf := it_t hf c1
      refine lv_iload_n hx hb dX9_district_83 rfl (lv_at hl 3 rfl) ?_
      refine lv_if_ge (tgt := 90) hx hb dX9_district_84 (by decide) (fun c2 => ?_) (fun c2 => ?_)
      · have hf := it_t hf c2
        refine lv_iload_n hx hb dX9_district_90 rfl (lv_at hl 2 rfl) ?_
        refine lv_if_ne (tgt := 98) hx hb dX9_district_91 (by decide) (fun c3 => ?_) (fun c3 => ?_)
        · have hf := it_f hf c3
          refine lv_iload hx hb dX9_district_98 (lv_at hl 4 rfl) ?_
          exact rtRi X hlk hr (so_i hf) dX9_district_100
        · have hf := it_t hf c3
          refine lv_iload_n hx hb dX9_district_94 rfl (lv_at hl 3 rfl) ?_
          refine lv_goto (tgt := 100) hx hb dX9_district_95 (by decide) ?_
          exact rtRi X hlk hr (so_i hf) dX9_district_100
      · have hf := it_f hf c2
        refine lv_bipush (v := (-2 : Int32)) hx hb dX9_district_87 (by decide) ?_
        exact rtRi X hlk hr (so_i hf) dX9_district_89
    · have hf := it_f hf c1
      refine lv_aload_n hx hb dX9_district_43 rfl (lv_at hl 0 rfl) ?_
      refine lv_aload_n hx hb dX9_district_44 rfl (lv_at hl 0 rfl) ?_
      refine gf9 X G (hL 0 rfl) rfl 7 (by decide) rfl kf_X9_52 iwX9 dX9_district_45 ?_
      refine gf2 X G (hL 120 rfl) rfl 1 (by decide) rfl kf_X9_128 iwX2 dX9_district_48 ?_
      refine lv_bipush (v := (32 : Int32)) hx hb dX9_district_51 (by decide) ?_
      refine lv_iload hx hb dX9_district_53 (lv_at hl 5 rfl) ?_
      refine lv_iadd hx hb dX9_district_55 ?_
      obtain ⟨h2, hf⟩ := gd_s hf
      refine ia_ld (k := 122) (n := 41) X G (hL 122 rfl) rfl (by decide) (ix_in h2) dX9_district_56 ?_
      refine lv_iload_n hx hb dX9_district_57 rfl (lv_at hl 1 rfl) ?_
      obtain ⟨x4, h3, hf⟩ := br_s hf
      refine cVRi (As := [.int (st.1 122 ((32 : Int32) + y5).toNatClampNeg), .int p1]) (rest := []) X G kc_X9_234 (tX9_lanesBetween l E st _ hL  (st.1 122 ((32 : Int32) + y5).toNatClampNeg) p1 h3) (rcv X G (hL 0 rfl) (cO9 rfl) rfl) rfl rfl (rmk_le (by omega) (by decide)) rfl hl.1 rfl (Nat.le_of_ble_eq_true rfl) dX9_district_58 ⟨Nat.zero_le _, Nat.zero_le _⟩ ?_
      refine lv_istore (lv' := [(6, .int x4), (0, .ref (eq E 0)), (1, .int p1), (2, .int p2), (3, .int y3), (4, .int y4), (5, .int y5)]) hx hb dX9_district_61 hl (by decide) rfl (fun ls hl => ?_)
      refine lv_iload hx hb dX9_district_63 (lv_at hl 0 rfl) ?_
      refine lv_iload hx hb dX9_district_65 (lv_at hl 5 rfl) ?_
      refine lv_icmp_ge (tgt := 77) hx hb dX9_district_67 (by decide) (fun c5 => ?_) (fun c5 => ?_)
      · have hf := it_t hf c5
        obtain ⟨x6, ex6⟩ : ∃ y : Int32, y = (y5 + (1 : Int32)) := ⟨_, rfl⟩
        have hf := nm_s hf x6 ex6
        refine lv_iinc (k := 6) (v := x6) (lv' := [(5, .int x6), (6, .int x4), (0, .ref (eq E 0)), (1, .int p1), (2, .int p2), (3, .int y3), (4, .int y4)]) hx hb dX9_district_77 hl rfl (by rw [ex6]; rfl) (by decide) rfl (fun ls hl => ?_)
        refine lv_goto (tgt := 28) hx hb dX9_district_80 (by decide) ?_
        exact ih y3 y4 x6 hf _ (lv_sub hl [2, 3, 4, 5, 6, 0] rfl)
      · have hf := it_f hf c5
        refine lv_iload hx hb dX9_district_70 (lv_at hl 0 rfl) ?_
        refine lv_istore (lv' := [(4, .int x4), (6, .int x4), (0, .ref (eq E 0)), (1, .int p1), (2, .int p2), (3, .int y3), (5, .int y5)]) hx hb dX9_district_72 hl (by decide) rfl (fun ls hl => ?_)
        refine lv_iload hx hb dX9_district_74 (lv_at hl 6 rfl) ?_
        refine lv_istore_n (lv' := [(3, .int y5), (4, .int x4), (6, .int x4), (0, .ref (eq E 0)), (1, .int p1), (2, .int p2), (5, .int y5)]) hx hb dX9_district_76 rfl hl (by decide) rfl (fun ls hl => ?_)
        obtain ⟨x6, ex6⟩ : ∃ y : Int32, y = (y5 + (1 : Int32)) := ⟨_, rfl⟩
        have hf := nm_s hf x6 ex6
        refine lv_iinc (k := 6) (v := x6) (lv' := [(5, .int x6), (3, .int y5), (4, .int x4), (6, .int x4), (0, .ref (eq E 0)), (1, .int p1), (2, .int p2)]) hx hb dX9_district_77 hl rfl (by rw [ex6]; rfl) (by decide) rfl (fun ls hl => ?_)
        refine lv_goto (tgt := 28) hx hb dX9_district_80 (by decide) ?_
        exact ih y5 x4 x6 hf _ (lv_sub hl [4, 5, 6, 1, 2, 0] rfl)
def fX9_district (st : St) (p1 : Int32) (p2 : Int32) : Option Int32 := br (fX9_isHouse st p1) (fun x2 => if x2 = 0 then (some (-1 : Int32)) else (if p2 < 0 then (some (-1 : Int32)) else (if p2 ≤ (1 : Int32) then (fX9_district_L28 p1 p2 st 10000 (-1 : Int32) (8 : Int32) (0 : Int32)) else (some (-1 : Int32)))))
set_option maxRecDepth 100000 in
theorem tX9_district (l : Launch) (E : Ev) (st : St) (sz : Nat) (hL : ∀ k, fxC k = true → k ∈ eL E) (p1 : Int32) (p2 : Int32) {res : Int32} (hf : fX9_district st p1 p2 = some res) : Met l yX9_district (.code yX9_district cX9_district 7 (some .int) :: uW) (rmk 1) (va_Pc [.ref (eq E 0), .int p1, .int p2] (Pre E st sz)) (QRi res) 0 0 (NoF) := by
  refine Met_in (by decide) (Nat.le_of_ble_eq_true rfl) ?_
  intro p e s m below meth c X hr hlk hz G ls hl
  have hx := X.1.1
  have hb := X.1.2.1
  have hl : lv_has ls 7 [(0, .ref (eq E 0)), (1, .int p1), (2, .int p2)] := hl
  unfold fX9_district at hf
  refine lv_aload_n hx hb dX9_district_0 rfl (lv_at hl 0 rfl) ?_
  refine lv_iload_n hx hb dX9_district_1 rfl (lv_at hl 1 rfl) ?_
  obtain ⟨x2, h1, hf⟩ := br_s hf
  refine cVRi (As := [.int p1]) (rest := []) X G kc_X9_124 (tX9_isHouse l E st _ hL  p1 h1) (rcv X G (hL 0 rfl) (cO9 rfl) rfl) rfl rfl (rmk_le (by omega) (by decide)) rfl hl.1 rfl (Nat.le_of_ble_eq_true rfl) dX9_district_2 ⟨Nat.zero_le _, Nat.zero_le _⟩ ?_
  refine lv_if_eq (tgt := 17) hx hb dX9_district_5 (by decide) (fun c3 => ?_) (fun c3 => ?_)
  · have hf := it_t hf c3
    refine lv_iconst (v := (-1 : Int32)) hx hb dX9_district_17 (by decide) ?_
    exact rtRi X hlk hr (so_i hf) dX9_district_18
  · have hf := it_f hf c3
    refine lv_iload_n hx hb dX9_district_8 rfl (lv_at hl 2 rfl) ?_
    refine lv_if_lt (tgt := 17) hx hb dX9_district_9 (by decide) (fun c4 => ?_) (fun c4 => ?_)
    · have hf := it_t hf c4
      refine lv_iconst (v := (-1 : Int32)) hx hb dX9_district_17 (by decide) ?_
      exact rtRi X hlk hr (so_i hf) dX9_district_18
    · have hf := it_f hf c4
      refine lv_iload_n hx hb dX9_district_12 rfl (lv_at hl 2 rfl) ?_
      refine lv_iconst (v := (1 : Int32)) hx hb dX9_district_13 (by decide) ?_
      refine lv_icmp_le (tgt := 19) hx hb dX9_district_14 (by decide) (fun c5 => ?_) (fun c5 => ?_)
      · have hf := it_t hf c5
        refine lv_iconst (v := (-1 : Int32)) hx hb dX9_district_19 (by decide) ?_
        refine lv_istore_n (lv' := [(3, .int (-1 : Int32)), (0, .ref (eq E 0)), (1, .int p1), (2, .int p2)]) hx hb dX9_district_20 rfl hl (by decide) rfl (fun ls hl => ?_)
        refine lv_bipush (v := (8 : Int32)) hx hb dX9_district_21 (by decide) ?_
        refine lv_istore (lv' := [(4, .int (8 : Int32)), (3, .int (-1 : Int32)), (0, .ref (eq E 0)), (1, .int p1), (2, .int p2)]) hx hb dX9_district_23 hl (by decide) rfl (fun ls hl => ?_)
        refine lv_iconst (v := (0 : Int32)) hx hb dX9_district_25 (by decide) ?_
        refine lv_istore (lv' := [(5, .int (0 : Int32)), (4, .int (8 : Int32)), (3, .int (-1 : Int32)), (0, .ref (eq E 0)), (1, .int p1), (2, .int p2)]) hx hb dX9_district_26 hl (by decide) rfl (fun ls hl => ?_)
        exact wX9_district_L28 hL X hr hlk G 10000 (-1 : Int32) (8 : Int32) (0 : Int32) hf _ (lv_sub hl [3, 4, 5, 2, 1, 0] rfl)
      · have hf := it_f hf c5
        refine lv_iconst (v := (-1 : Int32)) hx hb dX9_district_17 (by decide) ?_
        exact rtRi X hlk hr (so_i hf) dX9_district_18
def fX9_hiddenIn_B43 (p1 : Int32) (st : St) (k4 : Int32 → Int32 → Option Int32) (y3 : Int32) (z0 : Int32) (z1 : Int32) : Option Int32 := nm (z1 + z0) (fun x1 => nm (y3 + (1 : Int32)) (fun x2 => k4 x1 x2))
set_option maxRecDepth 100000 in
theorem wX9_hiddenIn_B43 {p : Program} {l : Launch} {e : Env} {s : State} {m : MethodId} {args : Array Value} {below : List Frame} {meth : Method} {c : Code} {E : Ev} (hL : ∀ k, fxC k = true → k ∈ eL E) {p1 : Int32} {st : St} {sz : Nat} {res : Int32} (X : CX p s m args c E RX9 cX9_hiddenIn 4 (Af E sz)) (hr : meth.sig.returnType = (some .int)) (hlk : meth.locks = false) (G : Gd E st (Af E sz) s s.heap []) {k4 : Int32 → Int32 → Option Int32} (hk4 : ∀ (y2 : Int32) (y3 : Int32), k4 y2 y3 = some res → ∀ ls : Array Slot, lv_has ls 4 [(0, .ref (eq E 0)), (1, .int p1), (2, .int y2), (3, .int y3)] → W p l e (rmk 0) s m args below meth c s.heap [] 0 0 (MQ below (QRi res) args s 0 0 (NoF)) (F0 m 4 ls [])) : ∀ (y3 : Int32) (z0 : Int32) (z1 : Int32), fX9_hiddenIn_B43 p1 st k4 y3 z0 z1 = some res → ∀ ls : Array Slot, lv_has ls 4 [(0, .ref (eq E 0)), (1, .int p1), (3, .int y3)] → W p l e (rmk 0) s m args below meth c s.heap [] 0 0 (MQ below (QRi res) args s 0 0 (NoF)) (F0 m 43 ls [.int z0, .int z1]) := by
  have hx := X.1.1
  have hb := X.1.2.1
  intro y3 z0 z1 hf ls hl
  unfold fX9_hiddenIn_B43 at hf
  refine lv_iadd hx hb dX9_hiddenIn_43 ?_
  refine lv_topi (fun x1 ex1 => ?_)
  have hf := nm_s hf x1 ex1
  refine lv_istore_n (lv' := [(2, .int x1), (0, .ref (eq E 0)), (1, .int p1), (3, .int y3)]) hx hb dX9_hiddenIn_44 rfl hl (by decide) rfl (fun ls hl => ?_)
  obtain ⟨x2, ex2⟩ : ∃ y : Int32, y = (y3 + (1 : Int32)) := ⟨_, rfl⟩
  have hf := nm_s hf x2 ex2
  refine lv_iinc (k := 3) (v := x2) (lv' := [(3, .int x2), (2, .int x1), (0, .ref (eq E 0)), (1, .int p1)]) hx hb dX9_hiddenIn_45 hl rfl (by rw [ex2]; rfl) (by decide) rfl (fun ls hl => ?_)
  refine lv_goto (tgt := 4) hx hb dX9_hiddenIn_48 (by decide) ?_
  exact hk4 x1 x2 hf _ (lv_sub hl [2, 3, 1, 0] rfl)
def fX9_hiddenIn_L4 (p1 : Int32) (st : St) : Nat → Int32 → Int32 → Option Int32
  | 0, _, _ => none
  | n + 1, y2, y3 => if (st.1 134 4) ≤ y3 then (some y2) else (if ((p1 >>> (y3 &&& 31)) &&& (1 : Int32)) = 0 then (fX9_hiddenIn_B43 p1 st (fX9_hiddenIn_L4 p1 st n) y3 (0 : Int32) y2) else (gd (ix ((16 : Int32) + y3) 41) (fX9_hiddenIn_B43 p1 st (fX9_hiddenIn_L4 p1 st n) y3 (st.1 122 ((16 : Int32) + y3).toNatClampNeg) y2)))
set_option maxRecDepth 100000 in
theorem wX9_hiddenIn_L4 {p : Program} {l : Launch} {e : Env} {s : State} {m : MethodId} {args : Array Value} {below : List Frame} {meth : Method} {c : Code} {E : Ev} (hL : ∀ k, fxC k = true → k ∈ eL E) {p1 : Int32} {st : St} {sz : Nat} {res : Int32} (X : CX p s m args c E RX9 cX9_hiddenIn 4 (Af E sz)) (hr : meth.sig.returnType = (some .int)) (hlk : meth.locks = false) (G : Gd E st (Af E sz) s s.heap []) : ∀ (n : Nat) (y2 : Int32) (y3 : Int32), fX9_hiddenIn_L4 p1 st  n y2 y3 = some res → ∀ ls : Array Slot, lv_has ls 4 [(0, .ref (eq E 0)), (1, .int p1), (2, .int y2), (3, .int y3)] → W p l e (rmk 0) s m args below meth c s.heap [] 0 0 (MQ below (QRi res) args s 0 0 (NoF)) (F0 m 4 ls []) := by
  have hx := X.1.1
  have hb := X.1.2.1
  intro n
  induction n with
  | zero =>
    intro y2 y3 hf ls hl
    cases (show (none : Option Int32) = some res from hf)
  | succ n ih =>
    intro y2 y3 hf ls hl
    rw [fX9_hiddenIn_L4] at hf
    refine lv_iload_n hx hb dX9_hiddenIn_4 rfl (lv_at hl 3 rfl) ?_
    refine lv_aload_n hx hb dX9_hiddenIn_5 rfl (lv_at hl 0 rfl) ?_
    refine gf9 X G (hL 0 rfl) rfl 7 (by decide) rfl kf_X9_52 iwX9 dX9_hiddenIn_6 ?_
    refine gf2 X G (hL 120 rfl) rfl 0 (by decide) rfl kf_X9_62 iwX2 dX9_hiddenIn_9 ?_
    refine gf1 X G (hL 134 rfl) rfl 4 (by decide) rfl kf_X9_111 iwX1 dX9_hiddenIn_12 ?_
    refine lv_icmp_ge (tgt := 51) hx hb dX9_hiddenIn_15 (by decide) (fun c1 => ?_) (fun c1 => ?_)
    · have hf := it_t hf c1
      refine lv_iload_n hx hb dX9_hiddenIn_51 rfl (lv_at hl 2 rfl) ?_
      exact rtRi X hlk hr (so_i hf) dX9_hiddenIn_52
    · have hf := it_f hf c1
      refine lv_iload_n hx hb dX9_hiddenIn_18 rfl (lv_at hl 2 rfl) ?_
      refine lv_iload_n hx hb dX9_hiddenIn_19 rfl (lv_at hl 1 rfl) ?_
      refine lv_iload_n hx hb dX9_hiddenIn_20 rfl (lv_at hl 3 rfl) ?_
      refine lv_ishr hx hb dX9_hiddenIn_21 ?_
      refine lv_iconst (v := (1 : Int32)) hx hb dX9_hiddenIn_22 (by decide) ?_
      refine lv_iand hx hb dX9_hiddenIn_23 ?_
      refine lv_if_ne (tgt := 31) hx hb dX9_hiddenIn_24 (by decide) (fun c2 => ?_) (fun c2 => ?_)
      · have hf := it_f hf c2
        refine lv_aload_n hx hb dX9_hiddenIn_31 rfl (lv_at hl 0 rfl) ?_
        refine gf9 X G (hL 0 rfl) rfl 7 (by decide) rfl kf_X9_52 iwX9 dX9_hiddenIn_32 ?_
        refine gf2 X G (hL 120 rfl) rfl 1 (by decide) rfl kf_X9_128 iwX2 dX9_hiddenIn_35 ?_
        refine lv_bipush (v := (16 : Int32)) hx hb dX9_hiddenIn_38 (by decide) ?_
        refine lv_iload_n hx hb dX9_hiddenIn_40 rfl (lv_at hl 3 rfl) ?_
        refine lv_iadd hx hb dX9_hiddenIn_41 ?_
        obtain ⟨h3, hf⟩ := gd_s hf
        refine ia_ld (k := 122) (n := 41) X G (hL 122 rfl) rfl (by decide) (ix_in h3) dX9_hiddenIn_42 ?_
        exact wX9_hiddenIn_B43 hL X hr hlk G ih y3 (st.1 122 ((16 : Int32) + y3).toNatClampNeg) y2 hf _ (lv_sub hl [0, 1, 3] rfl)
      · have hf := it_t hf c2
        refine lv_iconst (v := (0 : Int32)) hx hb dX9_hiddenIn_27 (by decide) ?_
        refine lv_goto (tgt := 43) hx hb dX9_hiddenIn_28 (by decide) ?_
        exact wX9_hiddenIn_B43 hL X hr hlk G ih y3 (0 : Int32) y2 hf _ (lv_sub hl [0, 1, 3] rfl)
def fX9_hiddenIn (st : St) (p1 : Int32) : Option Int32 := fX9_hiddenIn_L4 p1 st 10000 (0 : Int32) (0 : Int32)
set_option maxRecDepth 100000 in
theorem tX9_hiddenIn (l : Launch) (E : Ev) (st : St) (sz : Nat) (hL : ∀ k, fxC k = true → k ∈ eL E) (p1 : Int32) {res : Int32} (hf : fX9_hiddenIn st p1 = some res) : Met l yX9_hiddenIn (.code yX9_hiddenIn cX9_hiddenIn 4 (some .int) :: uW) (rmk 0) (va_Pc [.ref (eq E 0), .int p1] (Pre E st sz)) (QRi res) 0 0 (NoF) := by
  refine Met_in (by decide) (Nat.le_of_ble_eq_true rfl) ?_
  intro p e s m below meth c X hr hlk hz G ls hl
  have hx := X.1.1
  have hb := X.1.2.1
  have hl : lv_has ls 4 [(0, .ref (eq E 0)), (1, .int p1)] := hl
  unfold fX9_hiddenIn at hf
  refine lv_iconst (v := (0 : Int32)) hx hb dX9_hiddenIn_0 (by decide) ?_
  refine lv_istore_n (lv' := [(2, .int (0 : Int32)), (0, .ref (eq E 0)), (1, .int p1)]) hx hb dX9_hiddenIn_1 rfl hl (by decide) rfl (fun ls hl => ?_)
  refine lv_iconst (v := (0 : Int32)) hx hb dX9_hiddenIn_2 (by decide) ?_
  refine lv_istore_n (lv' := [(3, .int (0 : Int32)), (2, .int (0 : Int32)), (0, .ref (eq E 0)), (1, .int p1)]) hx hb dX9_hiddenIn_3 rfl hl (by decide) rfl (fun ls hl => ?_)
  exact wX9_hiddenIn_L4 hL X hr hlk G 10000 (0 : Int32) (0 : Int32) hf _ (lv_sub hl [2, 3, 1, 0] rfl)
def fX9_hats_L45 (p1 : Int32) (p2 : Int32) (st : St) : Nat → Int32 → Int32 → Int32 → Option Int32
  | 0, _, _, _ => none
  | n + 1, y3, y4, y5 => if ((1 : Int32) <<< ((st.1 134 4) &&& 31)) ≤ y5 then (if y3 = 0 then (some (-2 : Int32)) else (if p2 = 0 then (some y4) else (some y3))) else (br (fJ6_bitCount_0f7a4 y5) (fun x3 => if y4 ≤ x3 then (nm (y5 + (1 : Int32)) (fun x5 => (fX9_hats_L45 p1 p2 st n) y3 y4 x5)) else (br (fX9_hiddenIn st y5) (fun x6 => if x6 < p1 then (nm (y5 + (1 : Int32)) (fun x8 => (fX9_hats_L45 p1 p2 st n) y3 y4 x8)) else (br (fJ6_bitCount_0f7a4 y5) (fun x9 => nm (y5 + (1 : Int32)) (fun x10 => (fX9_hats_L45 p1 p2 st n) y5 x9 x10)))))))
set_option maxRecDepth 100000 in
theorem wX9_hats_L45 {p : Program} {l : Launch} {e : Env} {s : State} {m : MethodId} {args : Array Value} {below : List Frame} {meth : Method} {c : Code} {E : Ev} (hL : ∀ k, fxC k = true → k ∈ eL E) {p1 : Int32} {p2 : Int32} {st : St} {sz : Nat} {res : Int32} (X : CX p s m args c E RX9 cX9_hats 6 (Af E sz)) (hr : meth.sig.returnType = (some .int)) (hlk : meth.locks = false) (G : Gd E st (Af E sz) s s.heap []) : ∀ (n : Nat) (y3 : Int32) (y4 : Int32) (y5 : Int32), fX9_hats_L45 p1 p2 st  n y3 y4 y5 = some res → ∀ ls : Array Slot, lv_has ls 6 [(0, .ref (eq E 0)), (1, .int p1), (2, .int p2), (3, .int y3), (4, .int y4), (5, .int y5)] → W p l e (rmk 1) s m args below meth c s.heap [] 0 0 (MQ below (QRi res) args s 0 0 (NoF)) (F0 m 45 ls []) := by
  have hx := X.1.1
  have hb := X.1.2.1
  intro n
  induction n with
  | zero =>
    intro y3 y4 y5 hf ls hl
    cases (show (none : Option Int32) = some res from hf)
  | succ n ih =>
    intro y3 y4 y5 hf ls hl
    rw [fX9_hats_L45] at hf
    refine lv_iload hx hb dX9_hats_45 (lv_at hl 5 rfl) ?_
    refine lv_iconst (v := (1 : Int32)) hx hb dX9_hats_47 (by decide) ?_
    refine lv_aload_n hx hb dX9_hats_48 rfl (lv_at hl 0 rfl) ?_
    refine gf9 X G (hL 0 rfl) rfl 7 (by decide) rfl kf_X9_52 iwX9 dX9_hats_49 ?_
    refine gf2 X G (hL 120 rfl) rfl 0 (by decide) rfl kf_X9_62 iwX2 dX9_hats_52 ?_
    refine gf1 X G (hL 134 rfl) rfl 4 (by decide) rfl kf_X9_111 iwX1 dX9_hats_55 ?_
    refine lv_ishl hx hb dX9_hats_58 ?_
    refine lv_icmp_ge (tgt := 98) hx hb dX9_hats_59 (by decide) (fun c1 => ?_) (fun c1 => ?_)
    · have hf := it_t hf c1
      refine lv_iload_n hx hb dX9_hats_98 rfl (lv_at hl 3 rfl) ?_
      refine lv_if_ne (tgt := 105) hx hb dX9_hats_99 (by decide) (fun c2 => ?_) (fun c2 => ?_)
      · have hf := it_f hf c2
        refine lv_iload_n hx hb dX9_hats_105 rfl (lv_at hl 2 rfl) ?_
        refine lv_if_ne (tgt := 114) hx hb dX9_hats_106 (by decide) (fun c3 => ?_) (fun c3 => ?_)
        · have hf := it_f hf c3
          refine lv_iload_n hx hb dX9_hats_114 rfl (lv_at hl 3 rfl) ?_
          exact rtRi X hlk hr (so_i hf) dX9_hats_115
        · have hf := it_t hf c3
          refine lv_iload hx hb dX9_hats_109 (lv_at hl 4 rfl) ?_
          refine lv_goto (tgt := 115) hx hb dX9_hats_111 (by decide) ?_
          exact rtRi X hlk hr (so_i hf) dX9_hats_115
      · have hf := it_t hf c2
        refine lv_bipush (v := (-2 : Int32)) hx hb dX9_hats_102 (by decide) ?_
        exact rtRi X hlk hr (so_i hf) dX9_hats_104
    · have hf := it_f hf c1
      refine lv_iload hx hb dX9_hats_62 (lv_at hl 5 rfl) ?_
      obtain ⟨x3, h2, hf⟩ := br_s hf
      refine cSRi (As := [.int y5]) (rest := []) X G kc_X9_197 (tJ6_bitCount_0f7a4 l E st _  y5 h2) rfl rfl (rmk_le (by omega) (by decide)) rfl hl.1 rfl (Nat.le_of_ble_eq_true rfl) dX9_hats_64 ⟨Nat.zero_le _, Nat.zero_le _⟩ ?_
      refine lv_iload hx hb dX9_hats_67 (lv_at hl 4 rfl) ?_
      refine lv_icmp_ge (tgt := 92) hx hb dX9_hats_69 (by decide) (fun c4 => ?_) (fun c4 => ?_)
      · have hf := it_t hf c4
        obtain ⟨x5, ex5⟩ : ∃ y : Int32, y = (y5 + (1 : Int32)) := ⟨_, rfl⟩
        have hf := nm_s hf x5 ex5
        refine lv_iinc (k := 5) (v := x5) (lv' := [(5, .int x5), (0, .ref (eq E 0)), (1, .int p1), (2, .int p2), (3, .int y3), (4, .int y4)]) hx hb dX9_hats_92 hl rfl (by rw [ex5]; rfl) (by decide) rfl (fun ls hl => ?_)
        refine lv_goto (tgt := 45) hx hb dX9_hats_95 (by decide) ?_
        exact ih y3 y4 x5 hf _ (lv_sub hl [1, 2, 3, 4, 5, 0] rfl)
      · have hf := it_f hf c4
        refine lv_aload_n hx hb dX9_hats_72 rfl (lv_at hl 0 rfl) ?_
        refine lv_iload hx hb dX9_hats_73 (lv_at hl 5 rfl) ?_
        obtain ⟨x6, h5, hf⟩ := br_s hf
        refine cVRi (As := [.int y5]) (rest := []) X G kc_X9_237 (tX9_hiddenIn l E st _ hL  y5 h5) (rcv X G (hL 0 rfl) (cO9 rfl) rfl) rfl rfl (rmk_le (by omega) (by decide)) rfl hl.1 rfl (Nat.le_of_ble_eq_true rfl) dX9_hats_75 ⟨Nat.zero_le _, Nat.zero_le _⟩ ?_
        refine lv_iload_n hx hb dX9_hats_78 rfl (lv_at hl 1 rfl) ?_
        refine lv_icmp_lt (tgt := 92) hx hb dX9_hats_79 (by decide) (fun c7 => ?_) (fun c7 => ?_)
        · have hf := it_t hf c7
          obtain ⟨x8, ex8⟩ : ∃ y : Int32, y = (y5 + (1 : Int32)) := ⟨_, rfl⟩
          have hf := nm_s hf x8 ex8
          refine lv_iinc (k := 5) (v := x8) (lv' := [(5, .int x8), (0, .ref (eq E 0)), (1, .int p1), (2, .int p2), (3, .int y3), (4, .int y4)]) hx hb dX9_hats_92 hl rfl (by rw [ex8]; rfl) (by decide) rfl (fun ls hl => ?_)
          refine lv_goto (tgt := 45) hx hb dX9_hats_95 (by decide) ?_
          exact ih y3 y4 x8 hf _ (lv_sub hl [1, 2, 3, 4, 5, 0] rfl)
        · have hf := it_f hf c7
          refine lv_iload hx hb dX9_hats_82 (lv_at hl 5 rfl) ?_
          obtain ⟨x9, h8, hf⟩ := br_s hf
          refine cSRi (As := [.int y5]) (rest := []) X G kc_X9_197 (tJ6_bitCount_0f7a4 l E st _  y5 h8) rfl rfl (rmk_le (by omega) (by decide)) rfl hl.1 rfl (Nat.le_of_ble_eq_true rfl) dX9_hats_84 ⟨Nat.zero_le _, Nat.zero_le _⟩ ?_
          refine lv_istore (lv' := [(4, .int x9), (0, .ref (eq E 0)), (1, .int p1), (2, .int p2), (3, .int y3), (5, .int y5)]) hx hb dX9_hats_87 hl (by decide) rfl (fun ls hl => ?_)
          refine lv_iload hx hb dX9_hats_89 (lv_at hl 5 rfl) ?_
          refine lv_istore_n (lv' := [(3, .int y5), (4, .int x9), (0, .ref (eq E 0)), (1, .int p1), (2, .int p2), (5, .int y5)]) hx hb dX9_hats_91 rfl hl (by decide) rfl (fun ls hl => ?_)
          obtain ⟨x10, ex10⟩ : ∃ y : Int32, y = (y5 + (1 : Int32)) := ⟨_, rfl⟩
          have hf := nm_s hf x10 ex10
          refine lv_iinc (k := 5) (v := x10) (lv' := [(5, .int x10), (3, .int y5), (4, .int x9), (0, .ref (eq E 0)), (1, .int p1), (2, .int p2)]) hx hb dX9_hats_92 hl rfl (by rw [ex10]; rfl) (by decide) rfl (fun ls hl => ?_)
          refine lv_goto (tgt := 45) hx hb dX9_hats_95 (by decide) ?_
          exact ih y5 x9 x10 hf _ (lv_sub hl [3, 4, 5, 1, 2, 0] rfl)
def fX9_hats (st : St) (p1 : Int32) (p2 : Int32) : Option Int32 := if (st.1 134 0) = 0 then (some (-1 : Int32)) else (if p1 < (1 : Int32) then (some (-1 : Int32)) else (if (400 : Int32) < p1 then (some (-1 : Int32)) else (if p2 < 0 then (some (-1 : Int32)) else (if p2 ≤ (1 : Int32) then (fX9_hats_L45 p1 p2 st 10000 (0 : Int32) (9 : Int32) (1 : Int32)) else (some (-1 : Int32))))))
set_option maxRecDepth 100000 in
theorem tX9_hats (l : Launch) (E : Ev) (st : St) (sz : Nat) (hL : ∀ k, fxC k = true → k ∈ eL E) (p1 : Int32) (p2 : Int32) {res : Int32} (hf : fX9_hats st p1 p2 = some res) : Met l yX9_hats (.code yX9_hats cX9_hats 6 (some .int) :: uW) (rmk 1) (va_Pc [.ref (eq E 0), .int p1, .int p2] (Pre E st sz)) (QRi res) 0 0 (NoF) := by
  refine Met_in (by decide) (Nat.le_of_ble_eq_true rfl) ?_
  intro p e s m below meth c X hr hlk hz G ls hl
  have hx := X.1.1
  have hb := X.1.2.1
  have hl : lv_has ls 6 [(0, .ref (eq E 0)), (1, .int p1), (2, .int p2)] := hl
  unfold fX9_hats at hf
  refine lv_aload_n hx hb dX9_hats_0 rfl (lv_at hl 0 rfl) ?_
  refine gf9 X G (hL 0 rfl) rfl 7 (by decide) rfl kf_X9_52 iwX9 dX9_hats_1 ?_
  refine gf2 X G (hL 120 rfl) rfl 0 (by decide) rfl kf_X9_62 iwX2 dX9_hats_4 ?_
  refine gf1 X G (hL 134 rfl) rfl 0 (by decide) rfl kf_X9_146 iwX1 dX9_hats_7 ?_
  refine lv_if_eq (tgt := 34) hx hb dX9_hats_10 (by decide) (fun c1 => ?_) (fun c1 => ?_)
  · have hf := it_t hf c1
    refine lv_iconst (v := (-1 : Int32)) hx hb dX9_hats_34 (by decide) ?_
    exact rtRi X hlk hr (so_i hf) dX9_hats_35
  · have hf := it_f hf c1
    refine lv_iload_n hx hb dX9_hats_13 rfl (lv_at hl 1 rfl) ?_
    refine lv_iconst (v := (1 : Int32)) hx hb dX9_hats_14 (by decide) ?_
    refine lv_icmp_lt (tgt := 34) hx hb dX9_hats_15 (by decide) (fun c2 => ?_) (fun c2 => ?_)
    · have hf := it_t hf c2
      refine lv_iconst (v := (-1 : Int32)) hx hb dX9_hats_34 (by decide) ?_
      exact rtRi X hlk hr (so_i hf) dX9_hats_35
    · have hf := it_f hf c2
      refine lv_iload_n hx hb dX9_hats_18 rfl (lv_at hl 1 rfl) ?_
      refine lv_sipush (v := (400 : Int32)) hx hb dX9_hats_19 (by decide) ?_
      refine lv_icmp_gt (tgt := 34) hx hb dX9_hats_22 (by decide) (fun c3 => ?_) (fun c3 => ?_)
      · have hf := it_t hf c3
        refine lv_iconst (v := (-1 : Int32)) hx hb dX9_hats_34 (by decide) ?_
        exact rtRi X hlk hr (so_i hf) dX9_hats_35
      · have hf := it_f hf c3
        refine lv_iload_n hx hb dX9_hats_25 rfl (lv_at hl 2 rfl) ?_
        refine lv_if_lt (tgt := 34) hx hb dX9_hats_26 (by decide) (fun c4 => ?_) (fun c4 => ?_)
        · have hf := it_t hf c4
          refine lv_iconst (v := (-1 : Int32)) hx hb dX9_hats_34 (by decide) ?_
          exact rtRi X hlk hr (so_i hf) dX9_hats_35
        · have hf := it_f hf c4
          refine lv_iload_n hx hb dX9_hats_29 rfl (lv_at hl 2 rfl) ?_
          refine lv_iconst (v := (1 : Int32)) hx hb dX9_hats_30 (by decide) ?_
          refine lv_icmp_le (tgt := 36) hx hb dX9_hats_31 (by decide) (fun c5 => ?_) (fun c5 => ?_)
          · have hf := it_t hf c5
            refine lv_iconst (v := (0 : Int32)) hx hb dX9_hats_36 (by decide) ?_
            refine lv_istore_n (lv' := [(3, .int (0 : Int32)), (0, .ref (eq E 0)), (1, .int p1), (2, .int p2)]) hx hb dX9_hats_37 rfl hl (by decide) rfl (fun ls hl => ?_)
            refine lv_bipush (v := (9 : Int32)) hx hb dX9_hats_38 (by decide) ?_
            refine lv_istore (lv' := [(4, .int (9 : Int32)), (3, .int (0 : Int32)), (0, .ref (eq E 0)), (1, .int p1), (2, .int p2)]) hx hb dX9_hats_40 hl (by decide) rfl (fun ls hl => ?_)
            refine lv_iconst (v := (1 : Int32)) hx hb dX9_hats_42 (by decide) ?_
            refine lv_istore (lv' := [(5, .int (1 : Int32)), (4, .int (9 : Int32)), (3, .int (0 : Int32)), (0, .ref (eq E 0)), (1, .int p1), (2, .int p2)]) hx hb dX9_hats_43 hl (by decide) rfl (fun ls hl => ?_)
            exact wX9_hats_L45 hL X hr hlk G 10000 (0 : Int32) (9 : Int32) (1 : Int32) hf _ (lv_sub hl [3, 4, 5, 2, 1, 0] rfl)
          · have hf := it_f hf c5
            refine lv_iconst (v := (-1 : Int32)) hx hb dX9_hats_34 (by decide) ?_
            exact rtRi X hlk hr (so_i hf) dX9_hats_35
def fX9_loan_L37 (L : List Nat) (p1 : Int32) (p2 : Int32) (p3 : Int32) : Nat → Int32 → St → Option (Int32 × St)
  | 0, _, _ => none
  | n + 1, y4, st => gd (ix ((0 : Int32) + p1) 41) (if (st.1 122 ((0 : Int32) + p1).toNatClampNeg) < y4 then (some ((-2 : Int32), st)) else (br (fX9_startTrial st) (fun s4 => br (fX9_moveWarmth 13 41 p1 p2 y4 s4) (fun s6 => bw (fX9_staysWarm L p3 (((1 : Int32) <<< (p1 &&& 31)) ||| ((1 : Int32) <<< (p2 &&& 31))) s6) (fun x9 s8 => if x9 = 0 then (nm (y4 + (1 : Int32)) (fun x11 => (fX9_loan_L37 L p1 p2 p3 n) x11 s8)) else (some (y4, s8)))))))
set_option maxRecDepth 100000 in
theorem wX9_loan_L37 {p : Program} {l : Launch} {e : Env} {s : State} {m : MethodId} {args : Array Value} {below : List Frame} {meth : Method} {c : Code} {E : Ev} (hL : ∀ k, fxC k = true → k ∈ eL E) {L : List Nat} {p1 : Int32} {p2 : Int32} {p3 : Int32} (hLL : L = eL E) {sz : Nat} {res : (Int32 × St)} (X : CX p s m args c E RX9 cX9_loan 5 (Af E sz)) (hr : meth.sig.returnType = (some .int)) (hlk : meth.locks = false) : ∀ (n : Nat) (y4 : Int32) (st : St) (H : Heap) (locs : List Loc), fX9_loan_L37 L p1 p2 p3  n y4 st = some res → Gd E st (Af E sz) s H locs → ∀ ls : Array Slot, lv_has ls 5 [(0, .ref (eq E 0)), (1, .int p1), (2, .int p2), (3, .int p3), (4, .int y4)] → W p l e (rmk 6) s m args below meth c H locs 0 0 (MQ below (QWi E res.2 sz res.1) args s 0 0 (Af E sz)) (F0 m 37 ls []) := by
  have hx := X.1.1
  have hb := X.1.2.1
  intro n
  induction n with
  | zero =>
    intro y4 st H locs hf G ls hl
    cases (show (none : Option (Int32 × St)) = some res from hf)
  | succ n ih =>
    intro y4 st H locs hf G ls hl
    rw [fX9_loan_L37] at hf
    refine lv_iload hx hb dX9_loan_37 (lv_at hl 4 rfl) ?_
    refine lv_aload_n hx hb dX9_loan_39 rfl (lv_at hl 0 rfl) ?_
    refine gf9 X G (hL 0 rfl) rfl 7 (by decide) rfl kf_X9_52 iwX9 dX9_loan_40 ?_
    refine gf2 X G (hL 120 rfl) rfl 1 (by decide) rfl kf_X9_128 iwX2 dX9_loan_43 ?_
    refine lv_iconst (v := (0 : Int32)) hx hb dX9_loan_46 (by decide) ?_
    refine lv_iload_n hx hb dX9_loan_47 rfl (lv_at hl 1 rfl) ?_
    refine lv_iadd hx hb dX9_loan_48 ?_
    obtain ⟨h1, hf⟩ := gd_s hf
    refine ia_ld (k := 122) (n := 41) X G (hL 122 rfl) rfl (by decide) (ix_in h1) dX9_loan_49 ?_
    refine lv_icmp_gt (tgt := 92) hx hb dX9_loan_50 (by decide) (fun c2 => ?_) (fun c2 => ?_)
    · have hf := it_t hf c2
      refine lv_bipush (v := (-2 : Int32)) hx hb dX9_loan_92 (by decide) ?_
      exact rtWi X hlk G hr (so_i hf) dX9_loan_94
    · have hf := it_f hf c2
      refine lv_aload_n hx hb dX9_loan_53 rfl (lv_at hl 0 rfl) ?_
      obtain ⟨s4, h3, hf⟩ := br_s hf
      refine cVWv (As := []) (rest := []) X G kc_X9_194 (tX9_startTrial l E st _ hL   h3) (rcv X G (hL 0 rfl) (cO9 rfl) rfl) rfl rfl (rmk_le (by omega) (by decide)) rfl hl.1 rfl (Nat.le_of_ble_eq_true rfl) dX9_loan_54 ⟨Nat.zero_le _, Nat.zero_le _⟩ (fun H locs G => ?_)
      refine lv_aload_n hx hb dX9_loan_57 rfl (lv_at hl 0 rfl) ?_
      refine gf9 X G (hL 0 rfl) rfl 12 (by decide) rfl kf_X9_91 iwX9 dX9_loan_58 ?_
      refine lv_iload_n hx hb dX9_loan_61 rfl (lv_at hl 1 rfl) ?_
      refine lv_iload_n hx hb dX9_loan_62 rfl (lv_at hl 2 rfl) ?_
      refine lv_iload hx hb dX9_loan_63 (lv_at hl 4 rfl) ?_
      obtain ⟨s6, h5, hf⟩ := br_s hf
      refine cSWv (As := [.ref (eq E 13), .int p1, .int p2, .int y4]) (rest := []) X G kc_X9_169 (tX9_moveWarmth l E s4 _ hL (hL 13 rfl) rfl (by decide) p1 p2 y4 h5) rfl rfl (rmk_le (by omega) (by decide)) rfl hl.1 rfl (Nat.le_of_ble_eq_true rfl) dX9_loan_65 ⟨Nat.zero_le _, Nat.zero_le _⟩ (fun H locs G => ?_)
      refine lv_aload_n hx hb dX9_loan_68 rfl (lv_at hl 0 rfl) ?_
      refine lv_iload_n hx hb dX9_loan_69 rfl (lv_at hl 3 rfl) ?_
      refine lv_iconst (v := (1 : Int32)) hx hb dX9_loan_70 (by decide) ?_
      refine lv_iload_n hx hb dX9_loan_71 rfl (lv_at hl 1 rfl) ?_
      refine lv_ishl hx hb dX9_loan_72 ?_
      refine lv_iconst (v := (1 : Int32)) hx hb dX9_loan_73 (by decide) ?_
      refine lv_iload_n hx hb dX9_loan_74 rfl (lv_at hl 2 rfl) ?_
      refine lv_ishl hx hb dX9_loan_75 ?_
      refine lv_ior hx hb dX9_loan_76 ?_
      obtain ⟨x9, s8, h7, hf⟩ := bw_s hf
      refine cVWi (As := [.int p3, .int (((1 : Int32) <<< (p1 &&& 31)) ||| ((1 : Int32) <<< (p2 &&& 31)))]) (rest := []) X G kc_X9_222 (tX9_staysWarm l E s6 _ hL hLL p3 (((1 : Int32) <<< (p1 &&& 31)) ||| ((1 : Int32) <<< (p2 &&& 31))) h7) (rcv X G (hL 0 rfl) (cO9 rfl) rfl) rfl rfl (rmk_le (by omega) (by decide)) rfl hl.1 rfl (Nat.le_of_ble_eq_true rfl) dX9_loan_77 ⟨Nat.zero_le _, Nat.zero_le _⟩ (fun H locs G => ?_)
      refine lv_if_eq (tgt := 86) hx hb dX9_loan_80 (by decide) (fun c10 => ?_) (fun c10 => ?_)
      · have hf := it_t hf c10
        obtain ⟨x11, ex11⟩ : ∃ y : Int32, y = (y4 + (1 : Int32)) := ⟨_, rfl⟩
        have hf := nm_s hf x11 ex11
        refine lv_iinc (k := 4) (v := x11) (lv' := [(4, .int x11), (0, .ref (eq E 0)), (1, .int p1), (2, .int p2), (3, .int p3)]) hx hb dX9_loan_86 hl rfl (by rw [ex11]; rfl) (by decide) rfl (fun ls hl => ?_)
        refine lv_goto (tgt := 37) hx hb dX9_loan_89 (by decide) ?_
        exact ih x11 s8 _ _ hf G _ (lv_sub hl [1, 2, 3, 4, 0] rfl)
      · have hf := it_f hf c10
        refine lv_iload hx hb dX9_loan_83 (lv_at hl 4 rfl) ?_
        exact rtWi X hlk G hr (so_i hf) dX9_loan_85
def fX9_loan (L : List Nat) (p1 : Int32) (p2 : Int32) (p3 : Int32) (st : St) : Option (Int32 × St) := br (fX9_areBeside st p1 p2) (fun x2 => if x2 = 0 then (some ((-1 : Int32), st)) else (br (fX9_isFrozen st p1) (fun x5 => if x5 = 0 then (br (fX9_isFrozen st p2) (fun x8 => if x8 = 0 then (br (fX9_isTrialLength p3) (fun x11 => if x11 = 0 then (some ((-1 : Int32), st)) else (fX9_loan_L37 L p1 p2 p3 10000 (0 : Int32) st))) else (some ((-1 : Int32), st)))) else (some ((-1 : Int32), st)))))
set_option maxRecDepth 100000 in
theorem tX9_loan (l : Launch) (E : Ev) (st : St) (sz : Nat) (hL : ∀ k, fxC k = true → k ∈ eL E) {L : List Nat} (hLL : L = eL E) (p1 : Int32) (p2 : Int32) (p3 : Int32) {res : (Int32 × St)} (hf : fX9_loan L p1 p2 p3 st = some res) : Met l yX9_loan (.code yX9_loan cX9_loan 5 (some .int) :: uW) (rmk 6) (va_Pc [.ref (eq E 0), .int p1, .int p2, .int p3] (Pre E st sz)) (QWi E res.2 sz res.1) 0 0 (Af E sz) := by
  refine Met_in (by decide) (Nat.le_of_ble_eq_true rfl) ?_
  intro p e s m below meth c X hr hlk hz G ls hl
  have hx := X.1.1
  have hb := X.1.2.1
  have hl : lv_has ls 5 [(0, .ref (eq E 0)), (1, .int p1), (2, .int p2), (3, .int p3)] := hl
  unfold fX9_loan at hf
  refine lv_aload_n hx hb dX9_loan_0 rfl (lv_at hl 0 rfl) ?_
  refine lv_iload_n hx hb dX9_loan_1 rfl (lv_at hl 1 rfl) ?_
  refine lv_iload_n hx hb dX9_loan_2 rfl (lv_at hl 2 rfl) ?_
  obtain ⟨x2, h1, hf⟩ := br_s hf
  refine cVRi (As := [.int p1, .int p2]) (rest := []) X G kc_X9_165 (tX9_areBeside l E st _ hL  p1 p2 h1) (rcv X G (hL 0 rfl) (cO9 rfl) rfl) rfl rfl (rmk_le (by omega) (by decide)) rfl hl.1 rfl (Nat.le_of_ble_eq_true rfl) dX9_loan_3 ⟨Nat.zero_le _, Nat.zero_le _⟩ ?_
  refine lv_if_eq (tgt := 32) hx hb dX9_loan_6 (by decide) (fun c3 => ?_) (fun c3 => ?_)
  · have hf := it_t hf c3
    refine lv_iconst (v := (-1 : Int32)) hx hb dX9_loan_32 (by decide) ?_
    exact rtWi X hlk G hr (so_i hf) dX9_loan_33
  · have hf := it_f hf c3
    refine lv_aload_n hx hb dX9_loan_9 rfl (lv_at hl 0 rfl) ?_
    refine lv_iload_n hx hb dX9_loan_10 rfl (lv_at hl 1 rfl) ?_
    obtain ⟨x5, h4, hf⟩ := br_s hf
    refine cVRi (As := [.int p1]) (rest := []) X G kc_X9_134 (tX9_isFrozen l E st _ hL  p1 h4) (rcv X G (hL 0 rfl) (cO9 rfl) rfl) rfl rfl (rmk_le (by omega) (by decide)) rfl hl.1 rfl (Nat.le_of_ble_eq_true rfl) dX9_loan_11 ⟨Nat.zero_le _, Nat.zero_le _⟩ ?_
    refine lv_if_ne (tgt := 32) hx hb dX9_loan_14 (by decide) (fun c6 => ?_) (fun c6 => ?_)
    · have hf := it_f hf c6
      refine lv_iconst (v := (-1 : Int32)) hx hb dX9_loan_32 (by decide) ?_
      exact rtWi X hlk G hr (so_i hf) dX9_loan_33
    · have hf := it_t hf c6
      refine lv_aload_n hx hb dX9_loan_17 rfl (lv_at hl 0 rfl) ?_
      refine lv_iload_n hx hb dX9_loan_18 rfl (lv_at hl 2 rfl) ?_
      obtain ⟨x8, h7, hf⟩ := br_s hf
      refine cVRi (As := [.int p2]) (rest := []) X G kc_X9_134 (tX9_isFrozen l E st _ hL  p2 h7) (rcv X G (hL 0 rfl) (cO9 rfl) rfl) rfl rfl (rmk_le (by omega) (by decide)) rfl hl.1 rfl (Nat.le_of_ble_eq_true rfl) dX9_loan_19 ⟨Nat.zero_le _, Nat.zero_le _⟩ ?_
      refine lv_if_ne (tgt := 32) hx hb dX9_loan_22 (by decide) (fun c9 => ?_) (fun c9 => ?_)
      · have hf := it_f hf c9
        refine lv_iconst (v := (-1 : Int32)) hx hb dX9_loan_32 (by decide) ?_
        exact rtWi X hlk G hr (so_i hf) dX9_loan_33
      · have hf := it_t hf c9
        refine lv_iload_n hx hb dX9_loan_25 rfl (lv_at hl 3 rfl) ?_
        obtain ⟨x11, h10, hf⟩ := br_s hf
        refine cSRi (As := [.int p3]) (rest := []) X G kc_X9_219 (tX9_isTrialLength l E st _  p3 h10) rfl rfl (rmk_le (by omega) (by decide)) rfl hl.1 rfl (Nat.le_of_ble_eq_true rfl) dX9_loan_26 ⟨Nat.zero_le _, Nat.zero_le _⟩ ?_
        refine lv_if_ne (tgt := 34) hx hb dX9_loan_29 (by decide) (fun c12 => ?_) (fun c12 => ?_)
        · have hf := it_f hf c12
          refine lv_iconst (v := (0 : Int32)) hx hb dX9_loan_34 (by decide) ?_
          refine lv_istore (lv' := [(4, .int (0 : Int32)), (0, .ref (eq E 0)), (1, .int p1), (2, .int p2), (3, .int p3)]) hx hb dX9_loan_35 hl (by decide) rfl (fun ls hl => ?_)
          exact wX9_loan_L37 hL hLL X hr hlk 10000 (0 : Int32) st _ _ hf G _ (lv_sub hl [1, 2, 3, 4, 0] rfl)
        · have hf := it_t hf c12
          refine lv_iconst (v := (-1 : Int32)) hx hb dX9_loan_32 (by decide) ?_
          exact rtWi X hlk G hr (so_i hf) dX9_loan_33
def fX9_isBookNight (p1 : Int32) : Option Int32 := if p1 < 0 then (some (0 : Int32)) else (if (60 : Int32) < p1 then (some (0 : Int32)) else (some (1 : Int32)))
set_option maxRecDepth 100000 in
theorem tX9_isBookNight (l : Launch) (E : Ev) (st : St) (sz : Nat) (p1 : Int32) {res : Int32} (hf : fX9_isBookNight  p1 = some res) : Met l yX9_isBookNight (.code yX9_isBookNight cX9_isBookNight 1 (some .boolean) :: uW) (rmk 0) (va_Pc [.int p1] (Pre E st sz)) (QRi res) 0 0 (NoF) := by
  refine Met_in (by decide) (Nat.le_of_ble_eq_true rfl) ?_
  intro p e s m below meth c X hr hlk hz G ls hl
  have hx := X.1.1
  have hb := X.1.2.1
  have hl : lv_has ls 1 [(0, .int p1)] := hl
  unfold fX9_isBookNight at hf
  refine lv_iload_n hx hb dX9_isBookNight_0 rfl (lv_at hl 0 rfl) ?_
  refine lv_if_lt (tgt := 14) hx hb dX9_isBookNight_1 (by decide) (fun c1 => ?_) (fun c1 => ?_)
  · have hf := it_t hf c1
    refine lv_iconst (v := (0 : Int32)) hx hb dX9_isBookNight_14 (by decide) ?_
    exact rtRz X hlk hr rfl (so_i hf) dX9_isBookNight_15
  · have hf := it_f hf c1
    refine lv_iload_n hx hb dX9_isBookNight_4 rfl (lv_at hl 0 rfl) ?_
    refine lv_bipush (v := (60 : Int32)) hx hb dX9_isBookNight_5 (by decide) ?_
    refine lv_icmp_gt (tgt := 14) hx hb dX9_isBookNight_7 (by decide) (fun c2 => ?_) (fun c2 => ?_)
    · have hf := it_t hf c2
      refine lv_iconst (v := (0 : Int32)) hx hb dX9_isBookNight_14 (by decide) ?_
      exact rtRz X hlk hr rfl (so_i hf) dX9_isBookNight_15
    · have hf := it_f hf c2
      refine lv_iconst (v := (1 : Int32)) hx hb dX9_isBookNight_10 (by decide) ?_
      refine lv_goto (tgt := 15) hx hb dX9_isBookNight_11 (by decide) ?_
      exact rtRz X hlk hr rfl (so_i hf) dX9_isBookNight_15
def fX9_book (p1 : Int32) (p2 : Int32) (p3 : Int32) (st : St) : Option (Int32 × St) := if p1 = (-1 : Int32) then (nm (ui st 120 7 (0 : Int32)) (fun s2 => some ((0 : Int32), s2))) else (br (fX9_isBookNight p1) (fun x3 => if x3 = 0 then (some ((-2 : Int32), st)) else (br (fX9_isHouse st p2) (fun x6 => if x6 = 0 then (some ((-2 : Int32), st)) else (if p3 < 0 then (some ((-2 : Int32), st)) else (if (999 : Int32) < p3 then (some ((-2 : Int32), st)) else (if (st.1 120 7) < (10 : Int32) then (br (fX2_addBook 120 p1 p2 p3 st) (fun s12 => some ((s12.1 120 7), s12))) else (some ((-2 : Int32), st)))))))))
set_option maxRecDepth 100000 in
theorem tX9_book (l : Launch) (E : Ev) (st : St) (sz : Nat) (hL : ∀ k, fxC k = true → k ∈ eL E) (p1 : Int32) (p2 : Int32) (p3 : Int32) {res : (Int32 × St)} (hf : fX9_book  p1 p2 p3 st = some res) : Met l yX9_book (.code yX9_book cX9_book 4 (some .int) :: uW) (rmk 1) (va_Pc [.ref (eq E 0), .int p1, .int p2, .int p3] (Pre E st sz)) (QWi E res.2 sz res.1) 0 0 (Af E sz) := by
  refine Met_in (by decide) (Nat.le_of_ble_eq_true rfl) ?_
  intro p e s m below meth c X hr hlk hz G ls hl
  have hx := X.1.1
  have hb := X.1.2.1
  have hl : lv_has ls 4 [(0, .ref (eq E 0)), (1, .int p1), (2, .int p2), (3, .int p3)] := hl
  unfold fX9_book at hf
  refine lv_iload_n hx hb dX9_book_0 rfl (lv_at hl 1 rfl) ?_
  refine lv_iconst (v := (-1 : Int32)) hx hb dX9_book_1 (by decide) ?_
  refine lv_icmp_ne (tgt := 15) hx hb dX9_book_2 (by decide) (fun c1 => ?_) (fun c1 => ?_)
  · have hf := it_f hf c1
    refine lv_iload_n hx hb dX9_book_15 rfl (lv_at hl 1 rfl) ?_
    obtain ⟨x3, h2, hf⟩ := br_s hf
    refine cSRi (As := [.int p1]) (rest := []) X G kc_X9_243 (tX9_isBookNight l E st _  p1 h2) rfl rfl (rmk_le (by omega) (by decide)) rfl hl.1 rfl (Nat.le_of_ble_eq_true rfl) dX9_book_16 ⟨Nat.zero_le _, Nat.zero_le _⟩ ?_
    refine lv_if_eq (tgt := 53) hx hb dX9_book_19 (by decide) (fun c4 => ?_) (fun c4 => ?_)
    · have hf := it_t hf c4
      refine lv_bipush (v := (-2 : Int32)) hx hb dX9_book_53 (by decide) ?_
      exact rtWi X hlk G hr (so_i hf) dX9_book_55
    · have hf := it_f hf c4
      refine lv_aload_n hx hb dX9_book_22 rfl (lv_at hl 0 rfl) ?_
      refine lv_iload_n hx hb dX9_book_23 rfl (lv_at hl 2 rfl) ?_
      obtain ⟨x6, h5, hf⟩ := br_s hf
      refine cVRi (As := [.int p2]) (rest := []) X G kc_X9_124 (tX9_isHouse l E st _ hL  p2 h5) (rcv X G (hL 0 rfl) (cO9 rfl) rfl) rfl rfl (rmk_le (by omega) (by decide)) rfl hl.1 rfl (Nat.le_of_ble_eq_true rfl) dX9_book_24 ⟨Nat.zero_le _, Nat.zero_le _⟩ ?_
      refine lv_if_eq (tgt := 53) hx hb dX9_book_27 (by decide) (fun c7 => ?_) (fun c7 => ?_)
      · have hf := it_t hf c7
        refine lv_bipush (v := (-2 : Int32)) hx hb dX9_book_53 (by decide) ?_
        exact rtWi X hlk G hr (so_i hf) dX9_book_55
      · have hf := it_f hf c7
        refine lv_iload_n hx hb dX9_book_30 rfl (lv_at hl 3 rfl) ?_
        refine lv_if_lt (tgt := 53) hx hb dX9_book_31 (by decide) (fun c8 => ?_) (fun c8 => ?_)
        · have hf := it_t hf c8
          refine lv_bipush (v := (-2 : Int32)) hx hb dX9_book_53 (by decide) ?_
          exact rtWi X hlk G hr (so_i hf) dX9_book_55
        · have hf := it_f hf c8
          refine lv_iload_n hx hb dX9_book_34 rfl (lv_at hl 3 rfl) ?_
          refine lv_sipush (v := (999 : Int32)) hx hb dX9_book_35 (by decide) ?_
          refine lv_icmp_gt (tgt := 53) hx hb dX9_book_38 (by decide) (fun c9 => ?_) (fun c9 => ?_)
          · have hf := it_t hf c9
            refine lv_bipush (v := (-2 : Int32)) hx hb dX9_book_53 (by decide) ?_
            exact rtWi X hlk G hr (so_i hf) dX9_book_55
          · have hf := it_f hf c9
            refine lv_aload_n hx hb dX9_book_41 rfl (lv_at hl 0 rfl) ?_
            refine gf9 X G (hL 0 rfl) rfl 7 (by decide) rfl kf_X9_52 iwX9 dX9_book_42 ?_
            refine gf2 X G (hL 120 rfl) rfl 7 (by decide) rfl kf_X9_240 iwX2 dX9_book_45 ?_
            refine lv_bipush (v := (10 : Int32)) hx hb dX9_book_48 (by decide) ?_
            refine lv_icmp_lt (tgt := 56) hx hb dX9_book_50 (by decide) (fun c10 => ?_) (fun c10 => ?_)
            · have hf := it_t hf c10
              refine lv_aload_n hx hb dX9_book_56 rfl (lv_at hl 0 rfl) ?_
              refine gf9 X G (hL 0 rfl) rfl 7 (by decide) rfl kf_X9_52 iwX9 dX9_book_57 ?_
              refine lv_iload_n hx hb dX9_book_60 rfl (lv_at hl 1 rfl) ?_
              refine lv_iload_n hx hb dX9_book_61 rfl (lv_at hl 2 rfl) ?_
              refine lv_iload_n hx hb dX9_book_62 rfl (lv_at hl 3 rfl) ?_
              obtain ⟨s12, h11, hf⟩ := br_s hf
              refine cVWv (As := [.int p1, .int p2, .int p3]) (rest := []) X G kc_X9_246 (tX2_addBook l E st _ hL (ok_120 hL) p1 p2 p3 h11) (rcv X G (hL 120 rfl) (cO2 rfl) rfl) rfl rfl (rmk_le (by omega) (by decide)) rfl hl.1 rfl (Nat.le_of_ble_eq_true rfl) dX9_book_63 ⟨Nat.zero_le _, Nat.zero_le _⟩ (fun H locs G => ?_)
              refine lv_aload_n hx hb dX9_book_66 rfl (lv_at hl 0 rfl) ?_
              refine gf9 X G (hL 0 rfl) rfl 7 (by decide) rfl kf_X9_52 iwX9 dX9_book_67 ?_
              refine gf2 X G (hL 120 rfl) rfl 7 (by decide) rfl kf_X9_240 iwX2 dX9_book_70 ?_
              exact rtWi X hlk G hr (so_i hf) dX9_book_73
            · have hf := it_f hf c10
              refine lv_bipush (v := (-2 : Int32)) hx hb dX9_book_53 (by decide) ?_
              exact rtWi X hlk G hr (so_i hf) dX9_book_55
  · have hf := it_t hf c1
    refine lv_aload_n hx hb dX9_book_5 rfl (lv_at hl 0 rfl) ?_
    refine gf9 X G (hL 0 rfl) rfl 7 (by decide) rfl kf_X9_52 iwX9 dX9_book_6 ?_
    refine lv_iconst (v := (0 : Int32)) hx hb dX9_book_9 (by decide) ?_
    refine pf2 X G (hL 120 rfl) rfl 7 (by decide) ps2_7 uio kf_X9_240 iwX2 rfl (ty := .int) (by decide +kernel) rfl rfl dX9_book_10 (fun s2 es2 H locs G => ?_)
    have hf := nm_s hf s2 es2
    refine lv_iconst (v := (0 : Int32)) hx hb dX9_book_13 (by decide) ?_
    exact rtWi X hlk G hr (so_i hf) dX9_book_14
def fX9_ruled_L33 (L : List Nat) (p1 : Int32) : Nat → Int32 → Int32 → Int32 → St → Option (Int32 × St)
  | 0, _, _, _, _ => none
  | n + 1, y2, y3, y4, st => if (st.1 0 6) ≤ y4 then (if p1 = 0 then (some (y2, st)) else (some (y3, st))) else (br (fX9_ruleAt st y4) (fun x3 => bw (fX6_fits L x3 st) (fun x6 s5 => if x6 = 0 then (nm (y4 + (1 : Int32)) (fun x8 => (fX9_ruled_L33 L p1 n) y2 y3 x8 s5)) else (nm (y2 + (1 : Int32)) (fun x8 => if y3 = (-2 : Int32) then (nm (y4 + (1 : Int32)) (fun x10 => (fX9_ruled_L33 L p1 n) x8 y4 x10 s5)) else (nm (y4 + (1 : Int32)) (fun x10 => (fX9_ruled_L33 L p1 n) x8 y3 x10 s5)))))))
set_option maxRecDepth 100000 in
theorem wX9_ruled_L33 {p : Program} {l : Launch} {e : Env} {s : State} {m : MethodId} {args : Array Value} {below : List Frame} {meth : Method} {c : Code} {E : Ev} (hL : ∀ k, fxC k = true → k ∈ eL E) {L : List Nat} {p1 : Int32} (hLL : L = eL E) {sz : Nat} {res : (Int32 × St)} (X : CX p s m args c E RX9 cX9_ruled 5 (Af E sz)) (hr : meth.sig.returnType = (some .int)) (hlk : meth.locks = false) : ∀ (n : Nat) (y2 : Int32) (y3 : Int32) (y4 : Int32) (st : St) (H : Heap) (locs : List Loc), fX9_ruled_L33 L p1  n y2 y3 y4 st = some res → Gd E st (Af E sz) s H locs → ∀ ls : Array Slot, lv_has ls 5 [(0, .ref (eq E 0)), (1, .int p1), (2, .int y2), (3, .int y3), (4, .int y4)] → W p l e (rmk 6) s m args below meth c H locs 0 0 (MQ below (QWi E res.2 sz res.1) args s 0 0 (Af E sz)) (F0 m 33 ls []) := by
  have hx := X.1.1
  have hb := X.1.2.1
  intro n
  induction n with
  | zero =>
    intro y2 y3 y4 st H locs hf G ls hl
    cases (show (none : Option (Int32 × St)) = some res from hf)
  | succ n ih =>
    intro y2 y3 y4 st H locs hf G ls hl
    rw [fX9_ruled_L33] at hf
    refine lv_iload hx hb dX9_ruled_33 (lv_at hl 4 rfl) ?_
    refine lv_aload_n hx hb dX9_ruled_35 rfl (lv_at hl 0 rfl) ?_
    refine gf9 X G (hL 0 rfl) rfl 6 (by decide) rfl kf_X9_46 iwX9 dX9_ruled_36 ?_
    refine lv_icmp_ge (tgt := 80) hx hb dX9_ruled_39 (by decide) (fun c1 => ?_) (fun c1 => ?_)
    · have hf := it_t hf c1
      refine lv_iload_n hx hb dX9_ruled_80 rfl (lv_at hl 1 rfl) ?_
      refine lv_if_ne (tgt := 88) hx hb dX9_ruled_81 (by decide) (fun c2 => ?_) (fun c2 => ?_)
      · have hf := it_f hf c2
        refine lv_iload_n hx hb dX9_ruled_88 rfl (lv_at hl 3 rfl) ?_
        exact rtWi X hlk G hr (so_i hf) dX9_ruled_89
      · have hf := it_t hf c2
        refine lv_iload_n hx hb dX9_ruled_84 rfl (lv_at hl 2 rfl) ?_
        refine lv_goto (tgt := 89) hx hb dX9_ruled_85 (by decide) ?_
        exact rtWi X hlk G hr (so_i hf) dX9_ruled_89
    · have hf := it_f hf c1
      refine lv_aload_n hx hb dX9_ruled_42 rfl (lv_at hl 0 rfl) ?_
      refine gf9 X G (hL 0 rfl) rfl 11 (by decide) rfl kf_X9_87 iwX9 dX9_ruled_43 ?_
      refine lv_aload_n hx hb dX9_ruled_46 rfl (lv_at hl 0 rfl) ?_
      refine lv_iload hx hb dX9_ruled_47 (lv_at hl 4 rfl) ?_
      obtain ⟨x3, h2, hf⟩ := br_s hf
      refine cVRq (As := [.int y4]) (rest := [.ref (eq E 80)]) X G kc_X9_153 (tX9_ruleAt l E st _ hL  y4 h2) (rcv X G (hL 0 rfl) (cO9 rfl) rfl) rfl rfl (rmk_le (by omega) (by decide)) rfl hl.1 rfl (Nat.le_of_ble_eq_true rfl) dX9_ruled_49 ⟨Nat.zero_le _, Nat.zero_le _⟩ ?_
      obtain ⟨x6, s5, h4, hf⟩ := bw_s hf
      refine cVWi (As := [va_rf (x3.map E.2.2.2.1)]) (rest := []) X G kc_X9_250 (tX6_fits l E st _ hL hLL  h4) (rcv X G (hL 80 rfl) (cO6 rfl) rfl) rfl rfl (rmk_le (by omega) (by decide)) rfl hl.1 rfl (Nat.le_of_ble_eq_true rfl) dX9_ruled_52 ⟨Nat.zero_le _, Nat.zero_le _⟩ (fun H locs G => ?_)
      refine lv_if_eq (tgt := 74) hx hb dX9_ruled_55 (by decide) (fun c7 => ?_) (fun c7 => ?_)
      · have hf := it_t hf c7
        obtain ⟨x8, ex8⟩ : ∃ y : Int32, y = (y4 + (1 : Int32)) := ⟨_, rfl⟩
        have hf := nm_s hf x8 ex8
        refine lv_iinc (k := 4) (v := x8) (lv' := [(4, .int x8), (0, .ref (eq E 0)), (1, .int p1), (2, .int y2), (3, .int y3)]) hx hb dX9_ruled_74 hl rfl (by rw [ex8]; rfl) (by decide) rfl (fun ls hl => ?_)
        refine lv_goto (tgt := 33) hx hb dX9_ruled_77 (by decide) ?_
        exact ih y2 y3 x8 s5 _ _ hf G _ (lv_sub hl [1, 2, 3, 4, 0] rfl)
      · have hf := it_f hf c7
        obtain ⟨x8, ex8⟩ : ∃ y : Int32, y = (y2 + (1 : Int32)) := ⟨_, rfl⟩
        have hf := nm_s hf x8 ex8
        refine lv_iinc (k := 2) (v := x8) (lv' := [(2, .int x8), (0, .ref (eq E 0)), (1, .int p1), (3, .int y3), (4, .int y4)]) hx hb dX9_ruled_58 hl rfl (by rw [ex8]; rfl) (by decide) rfl (fun ls hl => ?_)
        refine lv_iload_n hx hb dX9_ruled_61 rfl (lv_at hl 3 rfl) ?_
        refine lv_bipush (v := (-2 : Int32)) hx hb dX9_ruled_62 (by decide) ?_
        refine lv_icmp_ne (tgt := 72) hx hb dX9_ruled_64 (by decide) (fun c9 => ?_) (fun c9 => ?_)
        · have hf := it_f hf c9
          refine lv_iload_n hx hb dX9_ruled_72 rfl (lv_at hl 3 rfl) ?_
          refine lv_istore_n (lv' := [(3, .int y3), (2, .int x8), (0, .ref (eq E 0)), (1, .int p1), (4, .int y4)]) hx hb dX9_ruled_73 rfl hl (by decide) rfl (fun ls hl => ?_)
          obtain ⟨x10, ex10⟩ : ∃ y : Int32, y = (y4 + (1 : Int32)) := ⟨_, rfl⟩
          have hf := nm_s hf x10 ex10
          refine lv_iinc (k := 4) (v := x10) (lv' := [(4, .int x10), (3, .int y3), (2, .int x8), (0, .ref (eq E 0)), (1, .int p1)]) hx hb dX9_ruled_74 hl rfl (by rw [ex10]; rfl) (by decide) rfl (fun ls hl => ?_)
          refine lv_goto (tgt := 33) hx hb dX9_ruled_77 (by decide) ?_
          exact ih x8 y3 x10 s5 _ _ hf G _ (lv_sub hl [3, 4, 2, 1, 0] rfl)
        · have hf := it_t hf c9
          refine lv_iload hx hb dX9_ruled_67 (lv_at hl 4 rfl) ?_
          refine lv_goto (tgt := 73) hx hb dX9_ruled_69 (by decide) ?_
          refine lv_istore_n (lv' := [(3, .int y4), (2, .int x8), (0, .ref (eq E 0)), (1, .int p1), (4, .int y4)]) hx hb dX9_ruled_73 rfl hl (by decide) rfl (fun ls hl => ?_)
          obtain ⟨x10, ex10⟩ : ∃ y : Int32, y = (y4 + (1 : Int32)) := ⟨_, rfl⟩
          have hf := nm_s hf x10 ex10
          refine lv_iinc (k := 4) (v := x10) (lv' := [(4, .int x10), (3, .int y4), (2, .int x8), (0, .ref (eq E 0)), (1, .int p1)]) hx hb dX9_ruled_74 hl rfl (by rw [ex10]; rfl) (by decide) rfl (fun ls hl => ?_)
          refine lv_goto (tgt := 33) hx hb dX9_ruled_77 (by decide) ?_
          exact ih x8 y4 x10 s5 _ _ hf G _ (lv_sub hl [3, 4, 2, 1, 0] rfl)
def fX9_ruled (L : List Nat) (p1 : Int32) (st : St) : Option (Int32 × St) := if (st.1 134 0) = 0 then (some ((-3 : Int32), st)) else (if p1 < 0 then (some ((-3 : Int32), st)) else (if p1 ≤ (1 : Int32) then (fX9_ruled_L33 L p1 10000 (0 : Int32) (-2 : Int32) (-1 : Int32) st) else (some ((-3 : Int32), st))))
set_option maxRecDepth 100000 in
theorem tX9_ruled (l : Launch) (E : Ev) (st : St) (sz : Nat) (hL : ∀ k, fxC k = true → k ∈ eL E) {L : List Nat} (hLL : L = eL E) (p1 : Int32) {res : (Int32 × St)} (hf : fX9_ruled L p1 st = some res) : Met l yX9_ruled (.code yX9_ruled cX9_ruled 5 (some .int) :: uW) (rmk 6) (va_Pc [.ref (eq E 0), .int p1] (Pre E st sz)) (QWi E res.2 sz res.1) 0 0 (Af E sz) := by
  refine Met_in (by decide) (Nat.le_of_ble_eq_true rfl) ?_
  intro p e s m below meth c X hr hlk hz G ls hl
  have hx := X.1.1
  have hb := X.1.2.1
  have hl : lv_has ls 5 [(0, .ref (eq E 0)), (1, .int p1)] := hl
  unfold fX9_ruled at hf
  refine lv_aload_n hx hb dX9_ruled_0 rfl (lv_at hl 0 rfl) ?_
  refine gf9 X G (hL 0 rfl) rfl 7 (by decide) rfl kf_X9_52 iwX9 dX9_ruled_1 ?_
  refine gf2 X G (hL 120 rfl) rfl 0 (by decide) rfl kf_X9_62 iwX2 dX9_ruled_4 ?_
  refine gf1 X G (hL 134 rfl) rfl 0 (by decide) rfl kf_X9_146 iwX1 dX9_ruled_7 ?_
  refine lv_if_eq (tgt := 22) hx hb dX9_ruled_10 (by decide) (fun c1 => ?_) (fun c1 => ?_)
  · have hf := it_t hf c1
    refine lv_bipush (v := (-3 : Int32)) hx hb dX9_ruled_22 (by decide) ?_
    exact rtWi X hlk G hr (so_i hf) dX9_ruled_24
  · have hf := it_f hf c1
    refine lv_iload_n hx hb dX9_ruled_13 rfl (lv_at hl 1 rfl) ?_
    refine lv_if_lt (tgt := 22) hx hb dX9_ruled_14 (by decide) (fun c2 => ?_) (fun c2 => ?_)
    · have hf := it_t hf c2
      refine lv_bipush (v := (-3 : Int32)) hx hb dX9_ruled_22 (by decide) ?_
      exact rtWi X hlk G hr (so_i hf) dX9_ruled_24
    · have hf := it_f hf c2
      refine lv_iload_n hx hb dX9_ruled_17 rfl (lv_at hl 1 rfl) ?_
      refine lv_iconst (v := (1 : Int32)) hx hb dX9_ruled_18 (by decide) ?_
      refine lv_icmp_le (tgt := 25) hx hb dX9_ruled_19 (by decide) (fun c3 => ?_) (fun c3 => ?_)
      · have hf := it_t hf c3
        refine lv_iconst (v := (0 : Int32)) hx hb dX9_ruled_25 (by decide) ?_
        refine lv_istore_n (lv' := [(2, .int (0 : Int32)), (0, .ref (eq E 0)), (1, .int p1)]) hx hb dX9_ruled_26 rfl hl (by decide) rfl (fun ls hl => ?_)
        refine lv_bipush (v := (-2 : Int32)) hx hb dX9_ruled_27 (by decide) ?_
        refine lv_istore_n (lv' := [(3, .int (-2 : Int32)), (2, .int (0 : Int32)), (0, .ref (eq E 0)), (1, .int p1)]) hx hb dX9_ruled_29 rfl hl (by decide) rfl (fun ls hl => ?_)
        refine lv_iconst (v := (-1 : Int32)) hx hb dX9_ruled_30 (by decide) ?_
        refine lv_istore (lv' := [(4, .int (-1 : Int32)), (3, .int (-2 : Int32)), (2, .int (0 : Int32)), (0, .ref (eq E 0)), (1, .int p1)]) hx hb dX9_ruled_31 hl (by decide) rfl (fun ls hl => ?_)
        exact wX9_ruled_L33 hL hLL X hr hlk 10000 (0 : Int32) (-2 : Int32) (-1 : Int32) st _ _ hf G _ (lv_sub hl [3, 4, 2, 1, 0] rfl)
      · have hf := it_f hf c3
        refine lv_bipush (v := (-3 : Int32)) hx hb dX9_ruled_22 (by decide) ?_
        exact rtWi X hlk G hr (so_i hf) dX9_ruled_24
def fX9_look_L113 (L : List Nat) (p1 : Int32) (p2 : Int32) : Nat → Int32 → Int32 → St → Option (Int32 × St)
  | 0, _, _, _ => none
  | n + 1, y3, y4, st => if (st.1 134 4) ≤ y4 then (if p2 = 0 then (some (y3, st)) else (br (fX6_mostAlike st y3) (fun x4 => some (x4, st)))) else (br (fX6_mostAlike st y4) (fun x3 => br (fX6_mostAlike st y3) (fun x5 => if x5 ≤ x3 then (nm (y4 + (1 : Int32)) (fun x7 => (fX9_look_L113 L p1 p2 n) y3 x7 st)) else (nm (y4 + (1 : Int32)) (fun x7 => (fX9_look_L113 L p1 p2 n) y4 x7 st)))))
set_option maxRecDepth 100000 in
theorem wX9_look_L113 {p : Program} {l : Launch} {e : Env} {s : State} {m : MethodId} {args : Array Value} {below : List Frame} {meth : Method} {c : Code} {E : Ev} (hL : ∀ k, fxC k = true → k ∈ eL E) {L : List Nat} {p1 : Int32} {p2 : Int32} (hLL : L = eL E) {sz : Nat} {res : (Int32 × St)} (X : CX p s m args c E RX9 cX9_look 5 (Af E sz)) (hr : meth.sig.returnType = (some .int)) (hlk : meth.locks = false) : ∀ (n : Nat) (y3 : Int32) (y4 : Int32) (st : St) (H : Heap) (locs : List Loc), fX9_look_L113 L p1 p2  n y3 y4 st = some res → Gd E st (Af E sz) s H locs → ∀ ls : Array Slot, lv_has ls 5 [(0, .ref (eq E 0)), (2, .int p2), (3, .int y3), (4, .int y4)] → W p l e (rmk 6) s m args below meth c H locs 0 0 (MQ below (QWi E res.2 sz res.1) args s 0 0 (Af E sz)) (F0 m 113 ls []) := by
  have hx := X.1.1
  have hb := X.1.2.1
  intro n
  induction n with
  | zero =>
    intro y3 y4 st H locs hf G ls hl
    cases (show (none : Option (Int32 × St)) = some res from hf)
  | succ n ih =>
    intro y3 y4 st H locs hf G ls hl
    rw [fX9_look_L113] at hf
    refine lv_iload hx hb dX9_look_113 (lv_at hl 3 rfl) ?_
    refine lv_aload_n hx hb dX9_look_115 rfl (lv_at hl 0 rfl) ?_
    refine gf9 X G (hL 0 rfl) rfl 7 (by decide) rfl kf_X9_52 iwX9 dX9_look_116 ?_
    refine gf2 X G (hL 120 rfl) rfl 0 (by decide) rfl kf_X9_62 iwX2 dX9_look_119 ?_
    refine gf1 X G (hL 134 rfl) rfl 4 (by decide) rfl kf_X9_111 iwX1 dX9_look_122 ?_
    refine lv_icmp_ge (tgt := 161) hx hb dX9_look_125 (by decide) (fun c1 => ?_) (fun c1 => ?_)
    · have hf := it_t hf c1
      refine lv_iload_n hx hb dX9_look_161 rfl (lv_at hl 1 rfl) ?_
      refine lv_if_ne (tgt := 169) hx hb dX9_look_162 (by decide) (fun c2 => ?_) (fun c2 => ?_)
      · have hf := it_f hf c2
        refine lv_aload_n hx hb dX9_look_169 rfl (lv_at hl 0 rfl) ?_
        refine gf9 X G (hL 0 rfl) rfl 11 (by decide) rfl kf_X9_87 iwX9 dX9_look_170 ?_
        refine lv_iload_n hx hb dX9_look_173 rfl (lv_at hl 2 rfl) ?_
        obtain ⟨x4, h3, hf⟩ := br_s hf
        refine cVRi (As := [.int y3]) (rest := []) X G kc_X9_264 (tX6_mostAlike l E st _ hL  y3 h3) (rcv X G (hL 80 rfl) (cO6 rfl) rfl) rfl rfl (rmk_le (by omega) (by decide)) rfl hl.1 rfl (Nat.le_of_ble_eq_true rfl) dX9_look_174 ⟨Nat.zero_le _, Nat.zero_le _⟩ ?_
        exact rtWi X hlk G hr (so_i hf) dX9_look_177
      · have hf := it_t hf c2
        refine lv_iload_n hx hb dX9_look_165 rfl (lv_at hl 2 rfl) ?_
        refine lv_goto (tgt := 177) hx hb dX9_look_166 (by decide) ?_
        exact rtWi X hlk G hr (so_i hf) dX9_look_177
    · have hf := it_f hf c1
      refine lv_aload_n hx hb dX9_look_128 rfl (lv_at hl 0 rfl) ?_
      refine gf9 X G (hL 0 rfl) rfl 11 (by decide) rfl kf_X9_87 iwX9 dX9_look_129 ?_
      refine lv_iload hx hb dX9_look_132 (lv_at hl 3 rfl) ?_
      obtain ⟨x3, h2, hf⟩ := br_s hf
      refine cVRi (As := [.int y4]) (rest := []) X G kc_X9_264 (tX6_mostAlike l E st _ hL  y4 h2) (rcv X G (hL 80 rfl) (cO6 rfl) rfl) rfl rfl (rmk_le (by omega) (by decide)) rfl hl.1 rfl (Nat.le_of_ble_eq_true rfl) dX9_look_134 ⟨Nat.zero_le _, Nat.zero_le _⟩ ?_
      refine lv_aload_n hx hb dX9_look_137 rfl (lv_at hl 0 rfl) ?_
      refine gf9 X G (hL 0 rfl) rfl 11 (by decide) rfl kf_X9_87 iwX9 dX9_look_138 ?_
      refine lv_iload_n hx hb dX9_look_141 rfl (lv_at hl 2 rfl) ?_
      obtain ⟨x5, h4, hf⟩ := br_s hf
      refine cVRi (As := [.int y3]) (rest := [.int x3]) X G kc_X9_264 (tX6_mostAlike l E st _ hL  y3 h4) (rcv X G (hL 80 rfl) (cO6 rfl) rfl) rfl rfl (rmk_le (by omega) (by decide)) rfl hl.1 rfl (Nat.le_of_ble_eq_true rfl) dX9_look_142 ⟨Nat.zero_le _, Nat.zero_le _⟩ ?_
      refine lv_icmp_ge (tgt := 153) hx hb dX9_look_145 (by decide) (fun c6 => ?_) (fun c6 => ?_)
      · have hf := it_t hf c6
        refine lv_iload_n hx hb dX9_look_153 rfl (lv_at hl 2 rfl) ?_
        refine lv_istore_n (lv' := [(3, .int y3), (0, .ref (eq E 0)), (2, .int p2), (4, .int y4)]) hx hb dX9_look_154 rfl hl (by decide) rfl (fun ls hl => ?_)
        obtain ⟨x7, ex7⟩ : ∃ y : Int32, y = (y4 + (1 : Int32)) := ⟨_, rfl⟩
        have hf := nm_s hf x7 ex7
        refine lv_iinc (k := 3) (v := x7) (lv' := [(4, .int x7), (3, .int y3), (0, .ref (eq E 0)), (2, .int p2)]) hx hb dX9_look_155 hl rfl (by rw [ex7]; rfl) (by decide) rfl (fun ls hl => ?_)
        refine lv_goto (tgt := 113) hx hb dX9_look_158 (by decide) ?_
        exact ih y3 x7 st _ _ hf G _ (lv_sub hl [2, 3, 1, 0] rfl)
      · have hf := it_f hf c6
        refine lv_iload hx hb dX9_look_148 (lv_at hl 3 rfl) ?_
        refine lv_goto (tgt := 154) hx hb dX9_look_150 (by decide) ?_
        refine lv_istore_n (lv' := [(3, .int y4), (0, .ref (eq E 0)), (2, .int p2), (4, .int y4)]) hx hb dX9_look_154 rfl hl (by decide) rfl (fun ls hl => ?_)
        obtain ⟨x7, ex7⟩ : ∃ y : Int32, y = (y4 + (1 : Int32)) := ⟨_, rfl⟩
        have hf := nm_s hf x7 ex7
        refine lv_iinc (k := 3) (v := x7) (lv' := [(4, .int x7), (3, .int y4), (0, .ref (eq E 0)), (2, .int p2)]) hx hb dX9_look_155 hl rfl (by rw [ex7]; rfl) (by decide) rfl (fun ls hl => ?_)
        refine lv_goto (tgt := 113) hx hb dX9_look_158 (by decide) ?_
        exact ih y4 x7 st _ _ hf G _ (lv_sub hl [2, 3, 1, 0] rfl)
def fX9_look_L40 (L : List Nat) (p1 : Int32) (p2 : Int32) : Nat → Int32 → St → Option (Int32 × St)
  | 0, _, _ => none
  | n + 1, y3, st => if (st.1 0 6) ≤ y3 then (if (st.1 80 4) = 0 then (some ((-2 : Int32), st)) else (if (st.1 134 4) = 0 then (some ((-2 : Int32), st)) else (fX9_look_L113 L p1 p2 10000 (0 : Int32) (1 : Int32) st))) else (br (fX9_ruleAt st y3) (fun x3 => bw (fX6_fits L x3 st) (fun x6 s5 => if x6 = 0 then (nm (y3 + (1 : Int32)) (fun x8 => (fX9_look_L40 L p1 p2 n) x8 s5)) else (br (fX9_ruleAt s5 y3) (fun x9 => br (fX6_add L x9 p1 s5) (fun s11 => nm (y3 + (1 : Int32)) (fun x12 => (fX9_look_L40 L p1 p2 n) x12 s11)))))))
set_option maxRecDepth 100000 in
theorem wX9_look_L40 {p : Program} {l : Launch} {e : Env} {s : State} {m : MethodId} {args : Array Value} {below : List Frame} {meth : Method} {c : Code} {E : Ev} (hL : ∀ k, fxC k = true → k ∈ eL E) {L : List Nat} {p1 : Int32} {p2 : Int32} (hLL : L = eL E) {sz : Nat} {res : (Int32 × St)} (X : CX p s m args c E RX9 cX9_look 5 (Af E sz)) (hr : meth.sig.returnType = (some .int)) (hlk : meth.locks = false) : ∀ (n : Nat) (y3 : Int32) (st : St) (H : Heap) (locs : List Loc), fX9_look_L40 L p1 p2  n y3 st = some res → Gd E st (Af E sz) s H locs → ∀ ls : Array Slot, lv_has ls 5 [(0, .ref (eq E 0)), (1, .int p1), (2, .int p2), (3, .int y3)] → W p l e (rmk 6) s m args below meth c H locs 0 0 (MQ below (QWi E res.2 sz res.1) args s 0 0 (Af E sz)) (F0 m 40 ls []) := by
  have hx := X.1.1
  have hb := X.1.2.1
  intro n
  induction n with
  | zero =>
    intro y3 st H locs hf G ls hl
    cases (show (none : Option (Int32 × St)) = some res from hf)
  | succ n ih =>
    intro y3 st H locs hf G ls hl
    rw [fX9_look_L40] at hf
    refine lv_iload_n hx hb dX9_look_40 rfl (lv_at hl 3 rfl) ?_
    refine lv_aload_n hx hb dX9_look_41 rfl (lv_at hl 0 rfl) ?_
    refine gf9 X G (hL 0 rfl) rfl 6 (by decide) rfl kf_X9_46 iwX9 dX9_look_42 ?_
    refine lv_icmp_ge (tgt := 82) hx hb dX9_look_45 (by decide) (fun c1 => ?_) (fun c1 => ?_)
    · have hf := it_t hf c1
      refine lv_aload_n hx hb dX9_look_82 rfl (lv_at hl 0 rfl) ?_
      refine gf9 X G (hL 0 rfl) rfl 11 (by decide) rfl kf_X9_87 iwX9 dX9_look_83 ?_
      refine gf6 X G (hL 80 rfl) rfl 4 (by decide) rfl kf_X9_261 iwX6 dX9_look_86 ?_
      refine lv_if_eq (tgt := 105) hx hb dX9_look_89 (by decide) (fun c2 => ?_) (fun c2 => ?_)
      · have hf := it_t hf c2
        refine lv_bipush (v := (-2 : Int32)) hx hb dX9_look_105 (by decide) ?_
        exact rtWi X hlk G hr (so_i hf) dX9_look_107
      · have hf := it_f hf c2
        refine lv_aload_n hx hb dX9_look_92 rfl (lv_at hl 0 rfl) ?_
        refine gf9 X G (hL 0 rfl) rfl 7 (by decide) rfl kf_X9_52 iwX9 dX9_look_93 ?_
        refine gf2 X G (hL 120 rfl) rfl 0 (by decide) rfl kf_X9_62 iwX2 dX9_look_96 ?_
        refine gf1 X G (hL 134 rfl) rfl 4 (by decide) rfl kf_X9_111 iwX1 dX9_look_99 ?_
        refine lv_if_ne (tgt := 108) hx hb dX9_look_102 (by decide) (fun c3 => ?_) (fun c3 => ?_)
        · have hf := it_f hf c3
          refine lv_iconst (v := (0 : Int32)) hx hb dX9_look_108 (by decide) ?_
          refine lv_istore_n (lv' := [(3, .int (0 : Int32)), (0, .ref (eq E 0)), (1, .int p1), (2, .int p2)]) hx hb dX9_look_109 rfl hl (by decide) rfl (fun ls hl => ?_)
          refine lv_iconst (v := (1 : Int32)) hx hb dX9_look_110 (by decide) ?_
          refine lv_istore (lv' := [(4, .int (1 : Int32)), (3, .int (0 : Int32)), (0, .ref (eq E 0)), (1, .int p1), (2, .int p2)]) hx hb dX9_look_111 hl (by decide) rfl (fun ls hl => ?_)
          exact wX9_look_L113 hL hLL X hr hlk 10000 (0 : Int32) (1 : Int32) st _ _ hf G _ (lv_sub hl [2, 4, 1, 0] rfl)
        · have hf := it_t hf c3
          refine lv_bipush (v := (-2 : Int32)) hx hb dX9_look_105 (by decide) ?_
          exact rtWi X hlk G hr (so_i hf) dX9_look_107
    · have hf := it_f hf c1
      refine lv_aload_n hx hb dX9_look_48 rfl (lv_at hl 0 rfl) ?_
      refine gf9 X G (hL 0 rfl) rfl 11 (by decide) rfl kf_X9_87 iwX9 dX9_look_49 ?_
      refine lv_aload_n hx hb dX9_look_52 rfl (lv_at hl 0 rfl) ?_
      refine lv_iload_n hx hb dX9_look_53 rfl (lv_at hl 3 rfl) ?_
      obtain ⟨x3, h2, hf⟩ := br_s hf
      refine cVRq (As := [.int y3]) (rest := [.ref (eq E 80)]) X G kc_X9_153 (tX9_ruleAt l E st _ hL  y3 h2) (rcv X G (hL 0 rfl) (cO9 rfl) rfl) rfl rfl (rmk_le (by omega) (by decide)) rfl hl.1 rfl (Nat.le_of_ble_eq_true rfl) dX9_look_54 ⟨Nat.zero_le _, Nat.zero_le _⟩ ?_
      obtain ⟨x6, s5, h4, hf⟩ := bw_s hf
      refine cVWi (As := [va_rf (x3.map E.2.2.2.1)]) (rest := []) X G kc_X9_250 (tX6_fits l E st _ hL hLL  h4) (rcv X G (hL 80 rfl) (cO6 rfl) rfl) rfl rfl (rmk_le (by omega) (by decide)) rfl hl.1 rfl (Nat.le_of_ble_eq_true rfl) dX9_look_57 ⟨Nat.zero_le _, Nat.zero_le _⟩ (fun H locs G => ?_)
      refine lv_if_eq (tgt := 76) hx hb dX9_look_60 (by decide) (fun c7 => ?_) (fun c7 => ?_)
      · have hf := it_t hf c7
        obtain ⟨x8, ex8⟩ : ∃ y : Int32, y = (y3 + (1 : Int32)) := ⟨_, rfl⟩
        have hf := nm_s hf x8 ex8
        refine lv_iinc (k := 3) (v := x8) (lv' := [(3, .int x8), (0, .ref (eq E 0)), (1, .int p1), (2, .int p2)]) hx hb dX9_look_76 hl rfl (by rw [ex8]; rfl) (by decide) rfl (fun ls hl => ?_)
        refine lv_goto (tgt := 40) hx hb dX9_look_79 (by decide) ?_
        exact ih x8 s5 _ _ hf G _ (lv_sub hl [1, 2, 3, 0] rfl)
      · have hf := it_f hf c7
        refine lv_aload_n hx hb dX9_look_63 rfl (lv_at hl 0 rfl) ?_
        refine gf9 X G (hL 0 rfl) rfl 11 (by decide) rfl kf_X9_87 iwX9 dX9_look_64 ?_
        refine lv_aload_n hx hb dX9_look_67 rfl (lv_at hl 0 rfl) ?_
        refine lv_iload_n hx hb dX9_look_68 rfl (lv_at hl 3 rfl) ?_
        obtain ⟨x9, h8, hf⟩ := br_s hf
        refine cVRq (As := [.int y3]) (rest := [.ref (eq E 80)]) X G kc_X9_153 (tX9_ruleAt l E s5 _ hL  y3 h8) (rcv X G (hL 0 rfl) (cO9 rfl) rfl) rfl rfl (rmk_le (by omega) (by decide)) rfl hl.1 rfl (Nat.le_of_ble_eq_true rfl) dX9_look_69 ⟨Nat.zero_le _, Nat.zero_le _⟩ ?_
        refine lv_iload_n hx hb dX9_look_72 rfl (lv_at hl 1 rfl) ?_
        obtain ⟨s11, h10, hf⟩ := br_s hf
        refine cVWv (As := [va_rf (x9.map E.2.2.2.1), .int p1]) (rest := []) X G kc_X9_257 (tX6_add l E s5 _ hL hLL p1 h10) (rcv X G (hL 80 rfl) (cO6 rfl) rfl) rfl rfl (rmk_le (by omega) (by decide)) rfl hl.1 rfl (Nat.le_of_ble_eq_true rfl) dX9_look_73 ⟨Nat.zero_le _, Nat.zero_le _⟩ (fun H locs G => ?_)
        obtain ⟨x12, ex12⟩ : ∃ y : Int32, y = (y3 + (1 : Int32)) := ⟨_, rfl⟩
        have hf := nm_s hf x12 ex12
        refine lv_iinc (k := 3) (v := x12) (lv' := [(3, .int x12), (0, .ref (eq E 0)), (1, .int p1), (2, .int p2)]) hx hb dX9_look_76 hl rfl (by rw [ex12]; rfl) (by decide) rfl (fun ls hl => ?_)
        refine lv_goto (tgt := 40) hx hb dX9_look_79 (by decide) ?_
        exact ih x12 s11 _ _ hf G _ (lv_sub hl [1, 2, 3, 0] rfl)
def fX9_look (L : List Nat) (p1 : Int32) (p2 : Int32) (st : St) : Option (Int32 × St) := if (st.1 134 0) = 0 then (some ((-1 : Int32), st)) else (br (fX9_isBookNight p1) (fun x3 => if x3 = 0 then (some ((-1 : Int32), st)) else (if p2 < 0 then (some ((-1 : Int32), st)) else (if p2 ≤ (1 : Int32) then (br (fX6_clear st) (fun s8 => fX9_look_L40 L p1 p2 10000 (-1 : Int32) s8)) else (some ((-1 : Int32), st))))))
set_option maxRecDepth 100000 in
theorem tX9_look (l : Launch) (E : Ev) (st : St) (sz : Nat) (hL : ∀ k, fxC k = true → k ∈ eL E) {L : List Nat} (hLL : L = eL E) (p1 : Int32) (p2 : Int32) {res : (Int32 × St)} (hf : fX9_look L p1 p2 st = some res) : Met l yX9_look (.code yX9_look cX9_look 5 (some .int) :: uW) (rmk 6) (va_Pc [.ref (eq E 0), .int p1, .int p2] (Pre E st sz)) (QWi E res.2 sz res.1) 0 0 (Af E sz) := by
  refine Met_in (by decide) (Nat.le_of_ble_eq_true rfl) ?_
  intro p e s m below meth c X hr hlk hz G ls hl
  have hx := X.1.1
  have hb := X.1.2.1
  have hl : lv_has ls 5 [(0, .ref (eq E 0)), (1, .int p1), (2, .int p2)] := hl
  unfold fX9_look at hf
  refine lv_aload_n hx hb dX9_look_0 rfl (lv_at hl 0 rfl) ?_
  refine gf9 X G (hL 0 rfl) rfl 7 (by decide) rfl kf_X9_52 iwX9 dX9_look_1 ?_
  refine gf2 X G (hL 120 rfl) rfl 0 (by decide) rfl kf_X9_62 iwX2 dX9_look_4 ?_
  refine gf1 X G (hL 134 rfl) rfl 0 (by decide) rfl kf_X9_146 iwX1 dX9_look_7 ?_
  refine lv_if_eq (tgt := 29) hx hb dX9_look_10 (by decide) (fun c1 => ?_) (fun c1 => ?_)
  · have hf := it_t hf c1
    refine lv_iconst (v := (-1 : Int32)) hx hb dX9_look_29 (by decide) ?_
    exact rtWi X hlk G hr (so_i hf) dX9_look_30
  · have hf := it_f hf c1
    refine lv_iload_n hx hb dX9_look_13 rfl (lv_at hl 1 rfl) ?_
    obtain ⟨x3, h2, hf⟩ := br_s hf
    refine cSRi (As := [.int p1]) (rest := []) X G kc_X9_243 (tX9_isBookNight l E st _  p1 h2) rfl rfl (rmk_le (by omega) (by decide)) rfl hl.1 rfl (Nat.le_of_ble_eq_true rfl) dX9_look_14 ⟨Nat.zero_le _, Nat.zero_le _⟩ ?_
    refine lv_if_eq (tgt := 29) hx hb dX9_look_17 (by decide) (fun c4 => ?_) (fun c4 => ?_)
    · have hf := it_t hf c4
      refine lv_iconst (v := (-1 : Int32)) hx hb dX9_look_29 (by decide) ?_
      exact rtWi X hlk G hr (so_i hf) dX9_look_30
    · have hf := it_f hf c4
      refine lv_iload_n hx hb dX9_look_20 rfl (lv_at hl 2 rfl) ?_
      refine lv_if_lt (tgt := 29) hx hb dX9_look_21 (by decide) (fun c5 => ?_) (fun c5 => ?_)
      · have hf := it_t hf c5
        refine lv_iconst (v := (-1 : Int32)) hx hb dX9_look_29 (by decide) ?_
        exact rtWi X hlk G hr (so_i hf) dX9_look_30
      · have hf := it_f hf c5
        refine lv_iload_n hx hb dX9_look_24 rfl (lv_at hl 2 rfl) ?_
        refine lv_iconst (v := (1 : Int32)) hx hb dX9_look_25 (by decide) ?_
        refine lv_icmp_le (tgt := 31) hx hb dX9_look_26 (by decide) (fun c6 => ?_) (fun c6 => ?_)
        · have hf := it_t hf c6
          refine lv_aload_n hx hb dX9_look_31 rfl (lv_at hl 0 rfl) ?_
          refine gf9 X G (hL 0 rfl) rfl 11 (by decide) rfl kf_X9_87 iwX9 dX9_look_32 ?_
          obtain ⟨s8, h7, hf⟩ := br_s hf
          refine cVWv (As := []) (rest := []) X G kc_X9_254 (tX6_clear l E st _ hL   h7) (rcv X G (hL 80 rfl) (cO6 rfl) rfl) rfl rfl (rmk_le (by omega) (by decide)) rfl hl.1 rfl (Nat.le_of_ble_eq_true rfl) dX9_look_35 ⟨Nat.zero_le _, Nat.zero_le _⟩ (fun H locs G => ?_)
          refine lv_iconst (v := (-1 : Int32)) hx hb dX9_look_38 (by decide) ?_
          refine lv_istore_n (lv' := [(3, .int (-1 : Int32)), (0, .ref (eq E 0)), (1, .int p1), (2, .int p2)]) hx hb dX9_look_39 rfl hl (by decide) rfl (fun ls hl => ?_)
          exact wX9_look_L40 hL hLL X hr hlk 10000 (-1 : Int32) s8 _ _ hf G _ (lv_sub hl [1, 2, 3, 0] rfl)
        · have hf := it_f hf c6
          refine lv_iconst (v := (-1 : Int32)) hx hb dX9_look_29 (by decide) ?_
          exact rtWi X hlk G hr (so_i hf) dX9_look_30
def fX9_seed (p1 : Int32) (st : St) : Option (Int32 × St) := if 0 ≤ p1 then (nm (st.1 120 9) (fun x2 => nm (ui st 120 9 p1) (fun s3 => some (x2, s3)))) else (some ((-1 : Int32), st))
set_option maxRecDepth 100000 in
theorem tX9_seed (l : Launch) (E : Ev) (st : St) (sz : Nat) (hL : ∀ k, fxC k = true → k ∈ eL E) (p1 : Int32) {res : (Int32 × St)} (hf : fX9_seed  p1 st = some res) : Met l yX9_seed (.code yX9_seed cX9_seed 3 (some .int) :: uW) (rmk 0) (va_Pc [.ref (eq E 0), .int p1] (Pre E st sz)) (QWi E res.2 sz res.1) 0 0 (Af E sz) := by
  refine Met_in (by decide) (Nat.le_of_ble_eq_true rfl) ?_
  intro p e s m below meth c X hr hlk hz G ls hl
  have hx := X.1.1
  have hb := X.1.2.1
  have hl : lv_has ls 3 [(0, .ref (eq E 0)), (1, .int p1)] := hl
  unfold fX9_seed at hf
  refine lv_iload_n hx hb dX9_seed_0 rfl (lv_at hl 1 rfl) ?_
  refine lv_if_ge (tgt := 6) hx hb dX9_seed_1 (by decide) (fun c1 => ?_) (fun c1 => ?_)
  · have hf := it_t hf c1
    refine lv_aload_n hx hb dX9_seed_6 rfl (lv_at hl 0 rfl) ?_
    refine gf9 X G (hL 0 rfl) rfl 7 (by decide) rfl kf_X9_52 iwX9 dX9_seed_7 ?_
    refine gf2 X G (hL 120 rfl) rfl 9 (by decide) rfl kf_X9_267 iwX2 dX9_seed_10 ?_
    refine lv_topi (fun x2 ex2 => ?_)
    have hf := nm_s hf x2 ex2
    refine lv_istore_n (lv' := [(2, .int x2), (0, .ref (eq E 0)), (1, .int p1)]) hx hb dX9_seed_13 rfl hl (by decide) rfl (fun ls hl => ?_)
    refine lv_aload_n hx hb dX9_seed_14 rfl (lv_at hl 1 rfl) ?_
    refine gf9 X G (hL 0 rfl) rfl 7 (by decide) rfl kf_X9_52 iwX9 dX9_seed_15 ?_
    refine lv_iload_n hx hb dX9_seed_18 rfl (lv_at hl 2 rfl) ?_
    refine pf2 X G (hL 120 rfl) rfl 9 (by decide) ps2_9 uio kf_X9_267 iwX2 rfl (ty := .int) (by decide +kernel) rfl rfl dX9_seed_19 (fun s3 es3 H locs G => ?_)
    have hf := nm_s hf s3 es3
    refine lv_iload_n hx hb dX9_seed_22 rfl (lv_at hl 0 rfl) ?_
    exact rtWi X hlk G hr (so_i hf) dX9_seed_23
  · have hf := it_f hf c1
    refine lv_iconst (v := (-1 : Int32)) hx hb dX9_seed_4 (by decide) ?_
    exact rtWi X hlk G hr (so_i hf) dX9_seed_5
def fX9_nextDraw (p1 : Int64) : Option Int64 := some (lrm ((p1 * (1103515245 : Int64)) + (12345 : Int64)) (2147483648 : Int64))
set_option maxRecDepth 100000 in
theorem tX9_nextDraw (l : Launch) (E : Ev) (st : St) (sz : Nat) (p1 : Int64) {res : Int64} (hf : fX9_nextDraw  p1 = some res) : Met l yX9_nextDraw (.code yX9_nextDraw cX9_nextDraw 2 (some .long) :: uW) (rmk 0) (va_Pc [.long p1] (Pre E st sz)) (QRl res) 0 0 (NoF) := by
  refine Met_in (by decide) (Nat.le_of_ble_eq_true rfl) ?_
  intro p e s m below meth c X hr hlk hz G ls hl
  have hx := X.1.1
  have hb := X.1.2.1
  have hl : lv_has ls 2 [(0, .long p1)] := hl
  unfold fX9_nextDraw at hf
  refine lv_lload_n hx hb dX9_nextDraw_0 rfl (lv_at hl 0 rfl) ?_
  refine lv_ldc2 (v := (1103515245 : Int64)) hx hb X.1.2.2.2.1 (X.1.2.2.2.2 _ kk_X9_298) dX9_nextDraw_1 ?_
  refine lv_lmul hx hb dX9_nextDraw_4 ?_
  refine lv_ldc2 (v := (12345 : Int64)) hx hb X.1.2.2.2.1 (X.1.2.2.2.2 _ kk_X9_300) dX9_nextDraw_5 ?_
  refine lv_ladd hx hb dX9_nextDraw_8 ?_
  refine lv_ldc2 (v := (2147483648 : Int64)) hx hb X.1.2.2.2.1 (X.1.2.2.2.2 _ kk_X9_302) dX9_nextDraw_9 ?_
  refine lv_lrem hx hb dX9_nextDraw_12 (by decide) ?_
  exact rtRl X hlk hr (so_i hf) dX9_nextDraw_13
def fX9_winters_B128 (L : List Nat) (p1 : Int32) (p2 : Int32) (p3 : Int32) (p4 : Int32) (k73 : Int64 → Int32 → Int32 → Int32 → St → Option (Int32 × St)) (k86 : Int64 → Int32 → Int32 → Int32 → Int32 → St → Option (Int32 × St)) (y5 : Int64) (y7 : Int32) (y8 : Int32) (y9 : Int32) (y10 : Int32) (z0 : Int32) (st : St) : Option (Int32 × St) := bw (fX8_pass L 13 41 z0 st) (fun x3 s2 => nm (y10 + (1 : Int32)) (fun x4 => k86 y5 y7 y8 y9 x4 s2))
set_option maxRecDepth 100000 in
theorem wX9_winters_B128 {p : Program} {l : Launch} {e : Env} {s : State} {m : MethodId} {args : Array Value} {below : List Frame} {meth : Method} {c : Code} {E : Ev} (hL : ∀ k, fxC k = true → k ∈ eL E) {L : List Nat} {p1 : Int32} {p2 : Int32} {p3 : Int32} {p4 : Int32} (hLL : L = eL E) {sz : Nat} {res : (Int32 × St)} (X : CX p s m args c E RX9 cX9_winters 11 (Af E sz)) (hr : meth.sig.returnType = (some .int)) (hlk : meth.locks = false) {k73 : Int64 → Int32 → Int32 → Int32 → St → Option (Int32 × St)} (hk73 : ∀ (y5 : Int64) (y7 : Int32) (y8 : Int32) (y9 : Int32) (st : St) (H : Heap) (locs : List Loc), k73 y5 y7 y8 y9 st = some res → Gd E st (Af E sz) s H locs → ∀ ls : Array Slot, lv_has ls 11 [(0, .ref (eq E 0)), (1, .int p1), (2, .int p2), (3, .int p3), (4, .int p4), (5, .long y5), (7, .int y7), (8, .int y8), (9, .int y9)] → W p l e (rmk 5) s m args below meth c H locs 0 0 (MQ below (QWi E res.2 sz res.1) args s 0 0 (Af E sz)) (F0 m 73 ls [])) {k86 : Int64 → Int32 → Int32 → Int32 → Int32 → St → Option (Int32 × St)} (hk86 : ∀ (y5 : Int64) (y7 : Int32) (y8 : Int32) (y9 : Int32) (y10 : Int32) (st : St) (H : Heap) (locs : List Loc), k86 y5 y7 y8 y9 y10 st = some res → Gd E st (Af E sz) s H locs → ∀ ls : Array Slot, lv_has ls 11 [(0, .ref (eq E 0)), (1, .int p1), (2, .int p2), (3, .int p3), (4, .int p4), (5, .long y5), (7, .int y7), (8, .int y8), (9, .int y9), (10, .int y10)] → W p l e (rmk 5) s m args below meth c H locs 0 0 (MQ below (QWi E res.2 sz res.1) args s 0 0 (Af E sz)) (F0 m 86 ls [])) : ∀ (y5 : Int64) (y7 : Int32) (y8 : Int32) (y9 : Int32) (y10 : Int32) (z0 : Int32) (st : St) (H : Heap) (locs : List Loc), fX9_winters_B128 L p1 p2 p3 p4 k73 k86 y5 y7 y8 y9 y10 z0 st = some res → Gd E st (Af E sz) s H locs → ∀ ls : Array Slot, lv_has ls 11 [(0, .ref (eq E 0)), (1, .int p1), (2, .int p2), (3, .int p3), (4, .int p4), (5, .long y5), (7, .int y7), (8, .int y8), (9, .int y9), (10, .int y10)] → W p l e (rmk 5) s m args below meth c H locs 0 0 (MQ below (QWi E res.2 sz res.1) args s 0 0 (Af E sz)) (F0 m 128 ls [.int z0, .ref (eq E 13), .ref (eq E 50)]) := by
  have hx := X.1.1
  have hb := X.1.2.1
  intro y5 y7 y8 y9 y10 z0 st H locs hf G ls hl
  unfold fX9_winters_B128 at hf
  obtain ⟨x3, s2, h1, hf⟩ := bw_s hf
  refine cVWi (As := [.ref (eq E 13), .int z0]) (rest := []) X G kc_X9_161 (tX8_pass l E st _ hL hLL (hL 13 rfl) rfl (by decide) z0 h1) (rcv X G (hL 50 rfl) (cO8 rfl) rfl) rfl rfl (rmk_le (by omega) (by decide)) rfl hl.1 rfl (Nat.le_of_ble_eq_true rfl) dX9_winters_128 ⟨Nat.zero_le _, Nat.zero_le _⟩ (fun H locs G => ?_)
  refine lv_pop hx hb dX9_winters_131 rfl ?_
  obtain ⟨x4, ex4⟩ : ∃ y : Int32, y = (y10 + (1 : Int32)) := ⟨_, rfl⟩
  have hf := nm_s hf x4 ex4
  refine lv_iinc (k := 9) (v := x4) (lv' := [(10, .int x4), (0, .ref (eq E 0)), (1, .int p1), (2, .int p2), (3, .int p3), (4, .int p4), (5, .long y5), (7, .int y7), (8, .int y8), (9, .int y9)]) hx hb dX9_winters_132 hl rfl (by rw [ex4]; rfl) (by decide) rfl (fun ls hl => ?_)
  refine lv_goto (tgt := 86) hx hb dX9_winters_135 (by decide) ?_
  exact hk86 y5 y7 y8 y9 x4 s2 _ _ hf G _ (lv_sub hl [1, 2, 3, 4, 5, 6, 7, 8, 9, 0] rfl)
def fX9_winters_L86 (L : List Nat) (p1 : Int32) (p2 : Int32) (p3 : Int32) (p4 : Int32) (k73 : Int64 → Int32 → Int32 → Int32 → St → Option (Int32 × St)) : Nat → Int64 → Int32 → Int32 → Int32 → Int32 → St → Option (Int32 × St)
  | 0, _, _, _, _, _, _ => none
  | n + 1, y5, y7, y8, y9, y10, st => if p2 ≤ y10 then (br (fJ6_bitCount_0f7a4 (st.1 13 38)) (fun x4 => nm (y7 + x4) (fun x5 => nm (y8 + (((st.1 13 35) + (st.1 13 36)) + (st.1 13 37))) (fun x9 => nm (y9 + (1 : Int32)) (fun x10 => k73 y5 x5 x9 x10 st))))) else (br (fX9_nextDraw y5) (fun x3 => if 0 ≤ (lg_cmp (lrm (x3 / (65536 : Int64)) (100 : Int64)) (Int32.toInt64 p3)) then (fX9_winters_B128 L p1 p2 p3 p4 k73 (fX9_winters_L86 L p1 p2 p3 p4 k73 n) x3 y7 y8 y9 y10 (0 : Int32) st) else (fX9_winters_B128 L p1 p2 p3 p4 k73 (fX9_winters_L86 L p1 p2 p3 p4 k73 n) x3 y7 y8 y9 y10 (1 : Int32) st)))
set_option maxRecDepth 100000 in
theorem wX9_winters_L86 {p : Program} {l : Launch} {e : Env} {s : State} {m : MethodId} {args : Array Value} {below : List Frame} {meth : Method} {c : Code} {E : Ev} (hL : ∀ k, fxC k = true → k ∈ eL E) {L : List Nat} {p1 : Int32} {p2 : Int32} {p3 : Int32} {p4 : Int32} (hLL : L = eL E) {sz : Nat} {res : (Int32 × St)} (X : CX p s m args c E RX9 cX9_winters 11 (Af E sz)) (hr : meth.sig.returnType = (some .int)) (hlk : meth.locks = false) {k73 : Int64 → Int32 → Int32 → Int32 → St → Option (Int32 × St)} (hk73 : ∀ (y5 : Int64) (y7 : Int32) (y8 : Int32) (y9 : Int32) (st : St) (H : Heap) (locs : List Loc), k73 y5 y7 y8 y9 st = some res → Gd E st (Af E sz) s H locs → ∀ ls : Array Slot, lv_has ls 11 [(0, .ref (eq E 0)), (1, .int p1), (2, .int p2), (3, .int p3), (4, .int p4), (5, .long y5), (7, .int y7), (8, .int y8), (9, .int y9)] → W p l e (rmk 5) s m args below meth c H locs 0 0 (MQ below (QWi E res.2 sz res.1) args s 0 0 (Af E sz)) (F0 m 73 ls [])) : ∀ (n : Nat) (y5 : Int64) (y7 : Int32) (y8 : Int32) (y9 : Int32) (y10 : Int32) (st : St) (H : Heap) (locs : List Loc), fX9_winters_L86 L p1 p2 p3 p4 k73 n y5 y7 y8 y9 y10 st = some res → Gd E st (Af E sz) s H locs → ∀ ls : Array Slot, lv_has ls 11 [(0, .ref (eq E 0)), (1, .int p1), (2, .int p2), (3, .int p3), (4, .int p4), (5, .long y5), (7, .int y7), (8, .int y8), (9, .int y9), (10, .int y10)] → W p l e (rmk 5) s m args below meth c H locs 0 0 (MQ below (QWi E res.2 sz res.1) args s 0 0 (Af E sz)) (F0 m 86 ls []) := by
  have hx := X.1.1
  have hb := X.1.2.1
  intro n
  induction n with
  | zero =>
    intro y5 y7 y8 y9 y10 st H locs hf G ls hl
    cases (show (none : Option (Int32 × St)) = some res from hf)
  | succ n ih =>
    intro y5 y7 y8 y9 y10 st H locs hf G ls hl
    rw [fX9_winters_L86] at hf
    refine lv_iload hx hb dX9_winters_86 (lv_at hl 9 rfl) ?_
    refine lv_iload_n hx hb dX9_winters_88 rfl (lv_at hl 2 rfl) ?_
    refine lv_icmp_ge (tgt := 138) hx hb dX9_winters_89 (by decide) (fun c1 => ?_) (fun c1 => ?_)
    · have hf := it_t hf c1
      refine lv_iload hx hb dX9_winters_138 (lv_at hl 6 rfl) ?_
      refine lv_aload_n hx hb dX9_winters_140 rfl (lv_at hl 0 rfl) ?_
      refine gf9 X G (hL 0 rfl) rfl 12 (by decide) rfl kf_X9_91 iwX9 dX9_winters_141 ?_
      refine lv_bipush (v := (38 : Int32)) hx hb dX9_winters_144 (by decide) ?_
      refine ia_ldc (k := 13) (n := 41) X G (hL 13 rfl) rfl (by decide) 38 (by decide) dX9_winters_146 ?_
      obtain ⟨x4, h3, hf⟩ := br_s hf
      refine cSRi (As := [.int (st.1 13 38)]) (rest := [.int y7]) X G kc_X9_197 (tJ6_bitCount_0f7a4 l E st _  (st.1 13 38) h3) rfl rfl (rmk_le (by omega) (by decide)) rfl hl.1 rfl (Nat.le_of_ble_eq_true rfl) dX9_winters_147 ⟨Nat.zero_le _, Nat.zero_le _⟩ ?_
      refine lv_iadd hx hb dX9_winters_150 ?_
      refine lv_topi (fun x5 ex5 => ?_)
      have hf := nm_s hf x5 ex5
      refine lv_istore (lv' := [(7, .int x5), (0, .ref (eq E 0)), (1, .int p1), (2, .int p2), (3, .int p3), (4, .int p4), (5, .long y5), (8, .int y8), (9, .int y9), (10, .int y10)]) hx hb dX9_winters_151 hl (by decide) rfl (fun ls hl => ?_)
      refine lv_iload hx hb dX9_winters_153 (lv_at hl 7 rfl) ?_
      refine lv_aload_n hx hb dX9_winters_155 rfl (lv_at hl 1 rfl) ?_
      refine gf9 X G (hL 0 rfl) rfl 12 (by decide) rfl kf_X9_91 iwX9 dX9_winters_156 ?_
      refine lv_bipush (v := (35 : Int32)) hx hb dX9_winters_159 (by decide) ?_
      refine ia_ldc (k := 13) (n := 41) X G (hL 13 rfl) rfl (by decide) 35 (by decide) dX9_winters_161 ?_
      refine lv_aload_n hx hb dX9_winters_162 rfl (lv_at hl 1 rfl) ?_
      refine gf9 X G (hL 0 rfl) rfl 12 (by decide) rfl kf_X9_91 iwX9 dX9_winters_163 ?_
      refine lv_bipush (v := (36 : Int32)) hx hb dX9_winters_166 (by decide) ?_
      refine ia_ldc (k := 13) (n := 41) X G (hL 13 rfl) rfl (by decide) 36 (by decide) dX9_winters_168 ?_
      refine lv_iadd hx hb dX9_winters_169 ?_
      refine lv_aload_n hx hb dX9_winters_170 rfl (lv_at hl 1 rfl) ?_
      refine gf9 X G (hL 0 rfl) rfl 12 (by decide) rfl kf_X9_91 iwX9 dX9_winters_171 ?_
      refine lv_bipush (v := (37 : Int32)) hx hb dX9_winters_174 (by decide) ?_
      refine ia_ldc (k := 13) (n := 41) X G (hL 13 rfl) rfl (by decide) 37 (by decide) dX9_winters_176 ?_
      refine lv_iadd hx hb dX9_winters_177 ?_
      refine lv_iadd hx hb dX9_winters_178 ?_
      refine lv_topi (fun x9 ex9 => ?_)
      have hf := nm_s hf x9 ex9
      refine lv_istore (lv' := [(8, .int x9), (7, .int x5), (0, .ref (eq E 0)), (1, .int p1), (2, .int p2), (3, .int p3), (4, .int p4), (5, .long y5), (9, .int y9), (10, .int y10)]) hx hb dX9_winters_179 hl (by decide) rfl (fun ls hl => ?_)
      obtain ⟨x10, ex10⟩ : ∃ y : Int32, y = (y9 + (1 : Int32)) := ⟨_, rfl⟩
      have hf := nm_s hf x10 ex10
      refine lv_iinc (k := 8) (v := x10) (lv' := [(9, .int x10), (8, .int x9), (7, .int x5), (0, .ref (eq E 0)), (1, .int p1), (2, .int p2), (3, .int p3), (4, .int p4), (5, .long y5), (10, .int y10)]) hx hb dX9_winters_181 hl rfl (by rw [ex10]; rfl) (by decide) rfl (fun ls hl => ?_)
      refine lv_goto (tgt := 73) hx hb dX9_winters_184 (by decide) ?_
      exact hk73 y5 x5 x9 x10 st _ _ hf G _ (lv_sub hl [3, 4, 5, 6, 7, 8, 2, 1, 0] rfl)
    · have hf := it_f hf c1
      refine lv_lload hx hb dX9_winters_92 (lv_at hl 5 rfl) ?_
      obtain ⟨x3, h2, hf⟩ := br_s hf
      refine cSRl (As := [.long y5]) (rest := []) X G kc_X9_270 (tX9_nextDraw l E st _  y5 h2) rfl rfl (rmk_le (by omega) (by decide)) rfl hl.1 rfl (Nat.le_of_ble_eq_true rfl) dX9_winters_94 ⟨Nat.zero_le _, Nat.zero_le _⟩ ?_
      refine lv_lstore (lv' := [(5, .long x3), (0, .ref (eq E 0)), (1, .int p1), (2, .int p2), (3, .int p3), (4, .int p4), (7, .int y7), (8, .int y8), (9, .int y9), (10, .int y10)]) hx hb dX9_winters_97 hl (by decide) rfl (fun ls hl => ?_)
      refine lv_aload_n hx hb dX9_winters_99 rfl (lv_at hl 1 rfl) ?_
      refine gf9 X G (hL 0 rfl) rfl 9 (by decide) rfl kf_X9_69 iwX9 dX9_winters_100 ?_
      refine lv_aload_n hx hb dX9_winters_103 rfl (lv_at hl 1 rfl) ?_
      refine gf9 X G (hL 0 rfl) rfl 12 (by decide) rfl kf_X9_91 iwX9 dX9_winters_104 ?_
      refine lv_lload hx hb dX9_winters_107 (lv_at hl 0 rfl) ?_
      refine lv_ldc2 (v := (65536 : Int64)) hx hb X.1.2.2.2.1 (X.1.2.2.2.2 _ kk_X9_274) dX9_winters_109 ?_
      refine lv_ldiv hx hb dX9_winters_112 (by decide) ?_
      refine lv_ldc2 (v := (100 : Int64)) hx hb X.1.2.2.2.1 (X.1.2.2.2.2 _ kk_X9_276) dX9_winters_113 ?_
      refine lv_lrem hx hb dX9_winters_116 (by decide) ?_
      refine lv_iload_n hx hb dX9_winters_117 rfl (lv_at hl 4 rfl) ?_
      refine lv_i2l hx hb dX9_winters_118 rfl ?_
      refine W.lcmp hx hb dX9_winters_119 ?_
      refine lv_if_ge (tgt := 127) hx hb dX9_winters_120 (by decide) (fun c6 => ?_) (fun c6 => ?_)
      · have hf := it_t hf c6
        refine lv_iconst (v := (0 : Int32)) hx hb dX9_winters_127 (by decide) ?_
        exact wX9_winters_B128 hL hLL X hr hlk hk73 ih x3 y7 y8 y9 y10 (0 : Int32) st _ _ hf G _ (lv_sub hl [1, 2, 3, 4, 5, 0, 6, 7, 8, 9] rfl)
      · have hf := it_f hf c6
        refine lv_iconst (v := (1 : Int32)) hx hb dX9_winters_123 (by decide) ?_
        refine lv_goto (tgt := 128) hx hb dX9_winters_124 (by decide) ?_
        exact wX9_winters_B128 hL hLL X hr hlk hk73 ih x3 y7 y8 y9 y10 (1 : Int32) st _ _ hf G _ (lv_sub hl [1, 2, 3, 4, 5, 0, 6, 7, 8, 9] rfl)
def fX9_winters_L73 (L : List Nat) (p1 : Int32) (p2 : Int32) (p3 : Int32) (p4 : Int32) : Nat → Int64 → Int32 → Int32 → Int32 → St → Option (Int32 × St)
  | 0, _, _, _, _, _ => none
  | n + 1, y5, y7, y8, y9, st => if p1 ≤ y9 then (if p4 = 0 then (some (y7, st)) else (some (y8, st))) else (br (fX9_startTrial st) (fun s3 => fX9_winters_L86 L p1 p2 p3 p4 (fX9_winters_L73 L p1 p2 p3 p4 n) 10000 y5 y7 y8 y9 (0 : Int32) s3))
set_option maxRecDepth 100000 in
theorem wX9_winters_L73 {p : Program} {l : Launch} {e : Env} {s : State} {m : MethodId} {args : Array Value} {below : List Frame} {meth : Method} {c : Code} {E : Ev} (hL : ∀ k, fxC k = true → k ∈ eL E) {L : List Nat} {p1 : Int32} {p2 : Int32} {p3 : Int32} {p4 : Int32} (hLL : L = eL E) {sz : Nat} {res : (Int32 × St)} (X : CX p s m args c E RX9 cX9_winters 11 (Af E sz)) (hr : meth.sig.returnType = (some .int)) (hlk : meth.locks = false) : ∀ (n : Nat) (y5 : Int64) (y7 : Int32) (y8 : Int32) (y9 : Int32) (st : St) (H : Heap) (locs : List Loc), fX9_winters_L73 L p1 p2 p3 p4  n y5 y7 y8 y9 st = some res → Gd E st (Af E sz) s H locs → ∀ ls : Array Slot, lv_has ls 11 [(0, .ref (eq E 0)), (1, .int p1), (2, .int p2), (3, .int p3), (4, .int p4), (5, .long y5), (7, .int y7), (8, .int y8), (9, .int y9)] → W p l e (rmk 5) s m args below meth c H locs 0 0 (MQ below (QWi E res.2 sz res.1) args s 0 0 (Af E sz)) (F0 m 73 ls []) := by
  have hx := X.1.1
  have hb := X.1.2.1
  intro n
  induction n with
  | zero =>
    intro y5 y7 y8 y9 st H locs hf G ls hl
    cases (show (none : Option (Int32 × St)) = some res from hf)
  | succ n ih =>
    intro y5 y7 y8 y9 st H locs hf G ls hl
    rw [fX9_winters_L73] at hf
    refine lv_iload hx hb dX9_winters_73 (lv_at hl 8 rfl) ?_
    refine lv_iload_n hx hb dX9_winters_75 rfl (lv_at hl 1 rfl) ?_
    refine lv_icmp_ge (tgt := 187) hx hb dX9_winters_76 (by decide) (fun c1 => ?_) (fun c1 => ?_)
    · have hf := it_t hf c1
      refine lv_iload hx hb dX9_winters_187 (lv_at hl 4 rfl) ?_
      refine lv_if_ne (tgt := 197) hx hb dX9_winters_189 (by decide) (fun c2 => ?_) (fun c2 => ?_)
      · have hf := it_f hf c2
        refine lv_iload hx hb dX9_winters_197 (lv_at hl 7 rfl) ?_
        exact rtWi X hlk G hr (so_i hf) dX9_winters_199
      · have hf := it_t hf c2
        refine lv_iload hx hb dX9_winters_192 (lv_at hl 6 rfl) ?_
        refine lv_goto (tgt := 199) hx hb dX9_winters_194 (by decide) ?_
        exact rtWi X hlk G hr (so_i hf) dX9_winters_199
    · have hf := it_f hf c1
      refine lv_aload_n hx hb dX9_winters_79 rfl (lv_at hl 0 rfl) ?_
      obtain ⟨s3, h2, hf⟩ := br_s hf
      refine cVWv (As := []) (rest := []) X G kc_X9_194 (tX9_startTrial l E st _ hL   h2) (rcv X G (hL 0 rfl) (cO9 rfl) rfl) rfl rfl (rmk_le (by omega) (by decide)) rfl hl.1 rfl (Nat.le_of_ble_eq_true rfl) dX9_winters_80 ⟨Nat.zero_le _, Nat.zero_le _⟩ (fun H locs G => ?_)
      refine lv_iconst (v := (0 : Int32)) hx hb dX9_winters_83 (by decide) ?_
      refine lv_istore (lv' := [(10, .int (0 : Int32)), (0, .ref (eq E 0)), (1, .int p1), (2, .int p2), (3, .int p3), (4, .int p4), (5, .long y5), (7, .int y7), (8, .int y8), (9, .int y9)]) hx hb dX9_winters_84 hl (by decide) rfl (fun ls hl => ?_)
      exact wX9_winters_L86 hL hLL X hr hlk ih 10000 y5 y7 y8 y9 (0 : Int32) s3 _ _ hf G _ (lv_sub hl [1, 2, 3, 4, 5, 6, 7, 8, 9, 0] rfl)
def fX9_winters (L : List Nat) (p1 : Int32) (p2 : Int32) (p3 : Int32) (p4 : Int32) (st : St) : Option (Int32 × St) := if (st.1 134 0) = 0 then (some ((-1 : Int32), st)) else (if p1 < (1 : Int32) then (some ((-1 : Int32), st)) else (if (10 : Int32) < p1 then (some ((-1 : Int32), st)) else (br (fX9_isTrialLength p2) (fun x5 => if x5 = 0 then (some ((-1 : Int32), st)) else (if p3 < 0 then (some ((-1 : Int32), st)) else (if (100 : Int32) < p3 then (some ((-1 : Int32), st)) else (if p4 < 0 then (some ((-1 : Int32), st)) else (if p4 ≤ (1 : Int32) then (nm (Int32.toInt64 (st.1 120 9)) (fun x11 => fX9_winters_L73 L p1 p2 p3 p4 10000 x11 (0 : Int32) (0 : Int32) (0 : Int32) st)) else (some ((-1 : Int32), st))))))))))
set_option maxRecDepth 100000 in
theorem tX9_winters (l : Launch) (E : Ev) (st : St) (sz : Nat) (hL : ∀ k, fxC k = true → k ∈ eL E) {L : List Nat} (hLL : L = eL E) (p1 : Int32) (p2 : Int32) (p3 : Int32) (p4 : Int32) {res : (Int32 × St)} (hf : fX9_winters L p1 p2 p3 p4 st = some res) : Met l yX9_winters (.code yX9_winters cX9_winters 11 (some .int) :: uW) (rmk 5) (va_Pc [.ref (eq E 0), .int p1, .int p2, .int p3, .int p4] (Pre E st sz)) (QWi E res.2 sz res.1) 0 0 (Af E sz) := by
  refine Met_in (by decide) (Nat.le_of_ble_eq_true rfl) ?_
  intro p e s m below meth c X hr hlk hz G ls hl
  have hx := X.1.1
  have hb := X.1.2.1
  have hl : lv_has ls 11 [(0, .ref (eq E 0)), (1, .int p1), (2, .int p2), (3, .int p3), (4, .int p4)] := hl
  unfold fX9_winters at hf
  refine lv_aload_n hx hb dX9_winters_0 rfl (lv_at hl 0 rfl) ?_
  refine gf9 X G (hL 0 rfl) rfl 7 (by decide) rfl kf_X9_52 iwX9 dX9_winters_1 ?_
  refine gf2 X G (hL 120 rfl) rfl 0 (by decide) rfl kf_X9_62 iwX2 dX9_winters_4 ?_
  refine gf1 X G (hL 134 rfl) rfl 0 (by decide) rfl kf_X9_146 iwX1 dX9_winters_7 ?_
  refine lv_if_eq (tgt := 52) hx hb dX9_winters_10 (by decide) (fun c1 => ?_) (fun c1 => ?_)
  · have hf := it_t hf c1
    refine lv_iconst (v := (-1 : Int32)) hx hb dX9_winters_52 (by decide) ?_
    exact rtWi X hlk G hr (so_i hf) dX9_winters_53
  · have hf := it_f hf c1
    refine lv_iload_n hx hb dX9_winters_13 rfl (lv_at hl 1 rfl) ?_
    refine lv_iconst (v := (1 : Int32)) hx hb dX9_winters_14 (by decide) ?_
    refine lv_icmp_lt (tgt := 52) hx hb dX9_winters_15 (by decide) (fun c2 => ?_) (fun c2 => ?_)
    · have hf := it_t hf c2
      refine lv_iconst (v := (-1 : Int32)) hx hb dX9_winters_52 (by decide) ?_
      exact rtWi X hlk G hr (so_i hf) dX9_winters_53
    · have hf := it_f hf c2
      refine lv_iload_n hx hb dX9_winters_18 rfl (lv_at hl 1 rfl) ?_
      refine lv_bipush (v := (10 : Int32)) hx hb dX9_winters_19 (by decide) ?_
      refine lv_icmp_gt (tgt := 52) hx hb dX9_winters_21 (by decide) (fun c3 => ?_) (fun c3 => ?_)
      · have hf := it_t hf c3
        refine lv_iconst (v := (-1 : Int32)) hx hb dX9_winters_52 (by decide) ?_
        exact rtWi X hlk G hr (so_i hf) dX9_winters_53
      · have hf := it_f hf c3
        refine lv_iload_n hx hb dX9_winters_24 rfl (lv_at hl 2 rfl) ?_
        obtain ⟨x5, h4, hf⟩ := br_s hf
        refine cSRi (As := [.int p2]) (rest := []) X G kc_X9_219 (tX9_isTrialLength l E st _  p2 h4) rfl rfl (rmk_le (by omega) (by decide)) rfl hl.1 rfl (Nat.le_of_ble_eq_true rfl) dX9_winters_25 ⟨Nat.zero_le _, Nat.zero_le _⟩ ?_
        refine lv_if_eq (tgt := 52) hx hb dX9_winters_28 (by decide) (fun c6 => ?_) (fun c6 => ?_)
        · have hf := it_t hf c6
          refine lv_iconst (v := (-1 : Int32)) hx hb dX9_winters_52 (by decide) ?_
          exact rtWi X hlk G hr (so_i hf) dX9_winters_53
        · have hf := it_f hf c6
          refine lv_iload_n hx hb dX9_winters_31 rfl (lv_at hl 3 rfl) ?_
          refine lv_if_lt (tgt := 52) hx hb dX9_winters_32 (by decide) (fun c7 => ?_) (fun c7 => ?_)
          · have hf := it_t hf c7
            refine lv_iconst (v := (-1 : Int32)) hx hb dX9_winters_52 (by decide) ?_
            exact rtWi X hlk G hr (so_i hf) dX9_winters_53
          · have hf := it_f hf c7
            refine lv_iload_n hx hb dX9_winters_35 rfl (lv_at hl 3 rfl) ?_
            refine lv_bipush (v := (100 : Int32)) hx hb dX9_winters_36 (by decide) ?_
            refine lv_icmp_gt (tgt := 52) hx hb dX9_winters_38 (by decide) (fun c8 => ?_) (fun c8 => ?_)
            · have hf := it_t hf c8
              refine lv_iconst (v := (-1 : Int32)) hx hb dX9_winters_52 (by decide) ?_
              exact rtWi X hlk G hr (so_i hf) dX9_winters_53
            · have hf := it_f hf c8
              refine lv_iload hx hb dX9_winters_41 (lv_at hl 4 rfl) ?_
              refine lv_if_lt (tgt := 52) hx hb dX9_winters_43 (by decide) (fun c9 => ?_) (fun c9 => ?_)
              · have hf := it_t hf c9
                refine lv_iconst (v := (-1 : Int32)) hx hb dX9_winters_52 (by decide) ?_
                exact rtWi X hlk G hr (so_i hf) dX9_winters_53
              · have hf := it_f hf c9
                refine lv_iload hx hb dX9_winters_46 (lv_at hl 4 rfl) ?_
                refine lv_iconst (v := (1 : Int32)) hx hb dX9_winters_48 (by decide) ?_
                refine lv_icmp_le (tgt := 54) hx hb dX9_winters_49 (by decide) (fun c10 => ?_) (fun c10 => ?_)
                · have hf := it_t hf c10
                  refine lv_aload_n hx hb dX9_winters_54 rfl (lv_at hl 0 rfl) ?_
                  refine gf9 X G (hL 0 rfl) rfl 7 (by decide) rfl kf_X9_52 iwX9 dX9_winters_55 ?_
                  refine gf2 X G (hL 120 rfl) rfl 9 (by decide) rfl kf_X9_267 iwX2 dX9_winters_58 ?_
                  refine lv_i2l hx hb dX9_winters_61 rfl ?_
                  refine lv_topl (fun x11 ex11 => ?_)
                  have hf := nm_s hf x11 ex11
                  refine lv_lstore (lv' := [(5, .long x11), (0, .ref (eq E 0)), (1, .int p1), (2, .int p2), (3, .int p3), (4, .int p4)]) hx hb dX9_winters_62 hl (by decide) rfl (fun ls hl => ?_)
                  refine lv_iconst (v := (0 : Int32)) hx hb dX9_winters_64 (by decide) ?_
                  refine lv_istore (lv' := [(7, .int (0 : Int32)), (5, .long x11), (0, .ref (eq E 0)), (1, .int p1), (2, .int p2), (3, .int p3), (4, .int p4)]) hx hb dX9_winters_65 hl (by decide) rfl (fun ls hl => ?_)
                  refine lv_iconst (v := (0 : Int32)) hx hb dX9_winters_67 (by decide) ?_
                  refine lv_istore (lv' := [(8, .int (0 : Int32)), (7, .int (0 : Int32)), (5, .long x11), (0, .ref (eq E 0)), (1, .int p1), (2, .int p2), (3, .int p3), (4, .int p4)]) hx hb dX9_winters_68 hl (by decide) rfl (fun ls hl => ?_)
                  refine lv_iconst (v := (0 : Int32)) hx hb dX9_winters_70 (by decide) ?_
                  refine lv_istore (lv' := [(9, .int (0 : Int32)), (8, .int (0 : Int32)), (7, .int (0 : Int32)), (5, .long x11), (0, .ref (eq E 0)), (1, .int p1), (2, .int p2), (3, .int p3), (4, .int p4)]) hx hb dX9_winters_71 hl (by decide) rfl (fun ls hl => ?_)
                  exact wX9_winters_L73 hL hLL X hr hlk 10000 x11 (0 : Int32) (0 : Int32) (0 : Int32) st _ _ hf G _ (lv_sub hl [4, 5, 6, 7, 8, 3, 2, 1, 0] rfl)
                · have hf := it_f hf c10
                  refine lv_iconst (v := (-1 : Int32)) hx hb dX9_winters_52 (by decide) ?_
                  exact rtWi X hlk G hr (so_i hf) dX9_winters_53
def fX9_count (st : St) (p1 : Int32) : Option Int32 := if p1 = (0 : Int32) then (some (st.1 134 1)) else (if p1 = (1 : Int32) then (some (st.1 134 2)) else (if p1 = (2 : Int32) then (some (st.1 134 3)) else (if p1 = (3 : Int32) then (some (st.1 134 4)) else (if p1 = (4 : Int32) then (some (st.1 134 5)) else (if p1 = (5 : Int32) then (some (st.1 134 6)) else (if p1 = (6 : Int32) then (some (st.1 0 6)) else (if p1 = (7 : Int32) then (some (st.1 120 8)) else (if p1 = (8 : Int32) then (some (st.1 122 39)) else (if p1 = (9 : Int32) then (some (st.1 122 38)) else (if p1 = (10 : Int32) then (some (st.1 122 40)) else (if p1 = (11 : Int32) then (br (fX1_hasSnow 134 st (st.1 122 39)) (fun x3 => if x3 = 0 then (some (0 : Int32)) else (some (1 : Int32)))) else (if p1 = (12 : Int32) then (some (st.1 120 7)) else (if p1 = (13 : Int32) then (some (st.1 120 3)) else (if p1 = (14 : Int32) then (some (st.1 120 9)) else (if p1 = (15 : Int32) then (some (st.1 0 1)) else (some (-1 : Int32)))))))))))))))))
set_option maxRecDepth 100000 in
theorem tX9_count (l : Launch) (E : Ev) (st : St) (sz : Nat) (hL : ∀ k, fxC k = true → k ∈ eL E) (p1 : Int32) {res : Int32} (hf : fX9_count st p1 = some res) : Met l yX9_count (.code yX9_count cX9_count 2 (some .int) :: uW) (rmk 1) (va_Pc [.ref (eq E 0), .int p1] (Pre E st sz)) (QRi res) 0 0 (NoF) := by
  refine Met_in (by decide) (Nat.le_of_ble_eq_true rfl) ?_
  intro p e s m below meth c X hr hlk hz G ls hl
  have hx := X.1.1
  have hb := X.1.2.1
  have hl : lv_has ls 2 [(0, .ref (eq E 0)), (1, .int p1)] := hl
  unfold fX9_count at hf
  refine lv_iload_n hx hb dX9_count_0 rfl (lv_at hl 1 rfl) ?_
  by_cases cs0 : p1 = (0 : Int32)
  · have hf := it_t hf cs0
    refine tbl_in hx hb dX9_count_1 cs0 (by decide) (by decide) rfl (tgt := 80) (by decide) ?_
    refine lv_aload_n hx hb dX9_count_80 rfl (lv_at hl 0 rfl) ?_
    refine gf9 X G (hL 0 rfl) rfl 7 (by decide) rfl kf_X9_52 iwX9 dX9_count_81 ?_
    refine gf2 X G (hL 120 rfl) rfl 0 (by decide) rfl kf_X9_62 iwX2 dX9_count_84 ?_
    refine gf1 X G (hL 134 rfl) rfl 1 (by decide) rfl kf_X9_278 iwX1 dX9_count_87 ?_
    exact rtRi X hlk hr (so_i hf) dX9_count_90
  have hf := it_f hf cs0
  by_cases cs1 : p1 = (1 : Int32)
  · have hf := it_t hf cs1
    refine tbl_in hx hb dX9_count_1 cs1 (by decide) (by decide) rfl (tgt := 91) (by decide) ?_
    refine lv_aload_n hx hb dX9_count_91 rfl (lv_at hl 0 rfl) ?_
    refine gf9 X G (hL 0 rfl) rfl 7 (by decide) rfl kf_X9_52 iwX9 dX9_count_92 ?_
    refine gf2 X G (hL 120 rfl) rfl 0 (by decide) rfl kf_X9_62 iwX2 dX9_count_95 ?_
    refine gf1 X G (hL 134 rfl) rfl 2 (by decide) rfl kf_X9_279 iwX1 dX9_count_98 ?_
    exact rtRi X hlk hr (so_i hf) dX9_count_101
  have hf := it_f hf cs1
  by_cases cs2 : p1 = (2 : Int32)
  · have hf := it_t hf cs2
    refine tbl_in hx hb dX9_count_1 cs2 (by decide) (by decide) rfl (tgt := 102) (by decide) ?_
    refine lv_aload_n hx hb dX9_count_102 rfl (lv_at hl 0 rfl) ?_
    refine gf9 X G (hL 0 rfl) rfl 7 (by decide) rfl kf_X9_52 iwX9 dX9_count_103 ?_
    refine gf2 X G (hL 120 rfl) rfl 0 (by decide) rfl kf_X9_62 iwX2 dX9_count_106 ?_
    refine gf1 X G (hL 134 rfl) rfl 3 (by decide) rfl kf_X9_173 iwX1 dX9_count_109 ?_
    exact rtRi X hlk hr (so_i hf) dX9_count_112
  have hf := it_f hf cs2
  by_cases cs3 : p1 = (3 : Int32)
  · have hf := it_t hf cs3
    refine tbl_in hx hb dX9_count_1 cs3 (by decide) (by decide) rfl (tgt := 113) (by decide) ?_
    refine lv_aload_n hx hb dX9_count_113 rfl (lv_at hl 0 rfl) ?_
    refine gf9 X G (hL 0 rfl) rfl 7 (by decide) rfl kf_X9_52 iwX9 dX9_count_114 ?_
    refine gf2 X G (hL 120 rfl) rfl 0 (by decide) rfl kf_X9_62 iwX2 dX9_count_117 ?_
    refine gf1 X G (hL 134 rfl) rfl 4 (by decide) rfl kf_X9_111 iwX1 dX9_count_120 ?_
    exact rtRi X hlk hr (so_i hf) dX9_count_123
  have hf := it_f hf cs3
  by_cases cs4 : p1 = (4 : Int32)
  · have hf := it_t hf cs4
    refine tbl_in hx hb dX9_count_1 cs4 (by decide) (by decide) rfl (tgt := 124) (by decide) ?_
    refine lv_aload_n hx hb dX9_count_124 rfl (lv_at hl 0 rfl) ?_
    refine gf9 X G (hL 0 rfl) rfl 7 (by decide) rfl kf_X9_52 iwX9 dX9_count_125 ?_
    refine gf2 X G (hL 120 rfl) rfl 0 (by decide) rfl kf_X9_62 iwX2 dX9_count_128 ?_
    refine gf1 X G (hL 134 rfl) rfl 5 (by decide) rfl kf_X9_282 iwX1 dX9_count_131 ?_
    exact rtRi X hlk hr (so_i hf) dX9_count_134
  have hf := it_f hf cs4
  by_cases cs5 : p1 = (5 : Int32)
  · have hf := it_t hf cs5
    refine tbl_in hx hb dX9_count_1 cs5 (by decide) (by decide) rfl (tgt := 135) (by decide) ?_
    refine lv_aload_n hx hb dX9_count_135 rfl (lv_at hl 0 rfl) ?_
    refine gf9 X G (hL 0 rfl) rfl 7 (by decide) rfl kf_X9_52 iwX9 dX9_count_136 ?_
    refine gf2 X G (hL 120 rfl) rfl 0 (by decide) rfl kf_X9_62 iwX2 dX9_count_139 ?_
    refine gf1 X G (hL 134 rfl) rfl 6 (by decide) rfl kf_X9_231 iwX1 dX9_count_142 ?_
    exact rtRi X hlk hr (so_i hf) dX9_count_145
  have hf := it_f hf cs5
  by_cases cs6 : p1 = (6 : Int32)
  · have hf := it_t hf cs6
    refine tbl_in hx hb dX9_count_1 cs6 (by decide) (by decide) rfl (tgt := 146) (by decide) ?_
    refine lv_aload_n hx hb dX9_count_146 rfl (lv_at hl 0 rfl) ?_
    refine gf9 X G (hL 0 rfl) rfl 6 (by decide) rfl kf_X9_46 iwX9 dX9_count_147 ?_
    exact rtRi X hlk hr (so_i hf) dX9_count_150
  have hf := it_f hf cs6
  by_cases cs7 : p1 = (7 : Int32)
  · have hf := it_t hf cs7
    refine tbl_in hx hb dX9_count_1 cs7 (by decide) (by decide) rfl (tgt := 151) (by decide) ?_
    refine lv_aload_n hx hb dX9_count_151 rfl (lv_at hl 0 rfl) ?_
    refine gf9 X G (hL 0 rfl) rfl 7 (by decide) rfl kf_X9_52 iwX9 dX9_count_152 ?_
    refine gf2 X G (hL 120 rfl) rfl 8 (by decide) rfl kf_X9_121 iwX2 dX9_count_155 ?_
    exact rtRi X hlk hr (so_i hf) dX9_count_158
  have hf := it_f hf cs7
  by_cases cs8 : p1 = (8 : Int32)
  · have hf := it_t hf cs8
    refine tbl_in hx hb dX9_count_1 cs8 (by decide) (by decide) rfl (tgt := 159) (by decide) ?_
    refine lv_aload_n hx hb dX9_count_159 rfl (lv_at hl 0 rfl) ?_
    refine gf9 X G (hL 0 rfl) rfl 7 (by decide) rfl kf_X9_52 iwX9 dX9_count_160 ?_
    refine gf2 X G (hL 120 rfl) rfl 1 (by decide) rfl kf_X9_128 iwX2 dX9_count_163 ?_
    refine lv_bipush (v := (39 : Int32)) hx hb dX9_count_166 (by decide) ?_
    refine ia_ldc (k := 122) (n := 41) X G (hL 122 rfl) rfl (by decide) 39 (by decide) dX9_count_168 ?_
    exact rtRi X hlk hr (so_i hf) dX9_count_169
  have hf := it_f hf cs8
  by_cases cs9 : p1 = (9 : Int32)
  · have hf := it_t hf cs9
    refine tbl_in hx hb dX9_count_1 cs9 (by decide) (by decide) rfl (tgt := 170) (by decide) ?_
    refine lv_aload_n hx hb dX9_count_170 rfl (lv_at hl 0 rfl) ?_
    refine gf9 X G (hL 0 rfl) rfl 7 (by decide) rfl kf_X9_52 iwX9 dX9_count_171 ?_
    refine gf2 X G (hL 120 rfl) rfl 1 (by decide) rfl kf_X9_128 iwX2 dX9_count_174 ?_
    refine lv_bipush (v := (38 : Int32)) hx hb dX9_count_177 (by decide) ?_
    refine ia_ldc (k := 122) (n := 41) X G (hL 122 rfl) rfl (by decide) 38 (by decide) dX9_count_179 ?_
    exact rtRi X hlk hr (so_i hf) dX9_count_180
  have hf := it_f hf cs9
  by_cases cs10 : p1 = (10 : Int32)
  · have hf := it_t hf cs10
    refine tbl_in hx hb dX9_count_1 cs10 (by decide) (by decide) rfl (tgt := 181) (by decide) ?_
    refine lv_aload_n hx hb dX9_count_181 rfl (lv_at hl 0 rfl) ?_
    refine gf9 X G (hL 0 rfl) rfl 7 (by decide) rfl kf_X9_52 iwX9 dX9_count_182 ?_
    refine gf2 X G (hL 120 rfl) rfl 1 (by decide) rfl kf_X9_128 iwX2 dX9_count_185 ?_
    refine lv_bipush (v := (40 : Int32)) hx hb dX9_count_188 (by decide) ?_
    refine ia_ldc (k := 122) (n := 41) X G (hL 122 rfl) rfl (by decide) 40 (by decide) dX9_count_190 ?_
    exact rtRi X hlk hr (so_i hf) dX9_count_191
  have hf := it_f hf cs10
  by_cases cs11 : p1 = (11 : Int32)
  · have hf := it_t hf cs11
    refine tbl_in hx hb dX9_count_1 cs11 (by decide) (by decide) rfl (tgt := 192) (by decide) ?_
    refine lv_aload_n hx hb dX9_count_192 rfl (lv_at hl 0 rfl) ?_
    refine gf9 X G (hL 0 rfl) rfl 7 (by decide) rfl kf_X9_52 iwX9 dX9_count_193 ?_
    refine gf2 X G (hL 120 rfl) rfl 0 (by decide) rfl kf_X9_62 iwX2 dX9_count_196 ?_
    refine lv_aload_n hx hb dX9_count_199 rfl (lv_at hl 0 rfl) ?_
    refine gf9 X G (hL 0 rfl) rfl 7 (by decide) rfl kf_X9_52 iwX9 dX9_count_200 ?_
    refine gf2 X G (hL 120 rfl) rfl 1 (by decide) rfl kf_X9_128 iwX2 dX9_count_203 ?_
    refine lv_bipush (v := (39 : Int32)) hx hb dX9_count_206 (by decide) ?_
    refine ia_ldc (k := 122) (n := 41) X G (hL 122 rfl) rfl (by decide) 39 (by decide) dX9_count_208 ?_
    obtain ⟨x3, h2, hf⟩ := br_s hf
    refine cVRi (As := [.int (st.1 122 39)]) (rest := []) X G kc_X9_285 (tX1_hasSnow l E st _ hL (ok_134 hL) (st.1 122 39) h2) (rcv X G (hL 134 rfl) (cO1 rfl) rfl) rfl rfl (rmk_le (by omega) (by decide)) rfl hl.1 rfl (Nat.le_of_ble_eq_true rfl) dX9_count_209 ⟨Nat.zero_le _, Nat.zero_le _⟩ ?_
    refine lv_if_eq (tgt := 219) hx hb dX9_count_212 (by decide) (fun c4 => ?_) (fun c4 => ?_)
    · have hf := it_t hf c4
      refine lv_iconst (v := (0 : Int32)) hx hb dX9_count_219 (by decide) ?_
      exact rtRi X hlk hr (so_i hf) dX9_count_220
    · have hf := it_f hf c4
      refine lv_iconst (v := (1 : Int32)) hx hb dX9_count_215 (by decide) ?_
      refine lv_goto (tgt := 220) hx hb dX9_count_216 (by decide) ?_
      exact rtRi X hlk hr (so_i hf) dX9_count_220
  have hf := it_f hf cs11
  by_cases cs12 : p1 = (12 : Int32)
  · have hf := it_t hf cs12
    refine tbl_in hx hb dX9_count_1 cs12 (by decide) (by decide) rfl (tgt := 221) (by decide) ?_
    refine lv_aload_n hx hb dX9_count_221 rfl (lv_at hl 0 rfl) ?_
    refine gf9 X G (hL 0 rfl) rfl 7 (by decide) rfl kf_X9_52 iwX9 dX9_count_222 ?_
    refine gf2 X G (hL 120 rfl) rfl 7 (by decide) rfl kf_X9_240 iwX2 dX9_count_225 ?_
    exact rtRi X hlk hr (so_i hf) dX9_count_228
  have hf := it_f hf cs12
  by_cases cs13 : p1 = (13 : Int32)
  · have hf := it_t hf cs13
    refine tbl_in hx hb dX9_count_1 cs13 (by decide) (by decide) rfl (tgt := 229) (by decide) ?_
    refine lv_aload_n hx hb dX9_count_229 rfl (lv_at hl 0 rfl) ?_
    refine gf9 X G (hL 0 rfl) rfl 7 (by decide) rfl kf_X9_52 iwX9 dX9_count_230 ?_
    refine gf2 X G (hL 120 rfl) rfl 3 (by decide) rfl kf_X9_191 iwX2 dX9_count_233 ?_
    exact rtRi X hlk hr (so_i hf) dX9_count_236
  have hf := it_f hf cs13
  by_cases cs14 : p1 = (14 : Int32)
  · have hf := it_t hf cs14
    refine tbl_in hx hb dX9_count_1 cs14 (by decide) (by decide) rfl (tgt := 237) (by decide) ?_
    refine lv_aload_n hx hb dX9_count_237 rfl (lv_at hl 0 rfl) ?_
    refine gf9 X G (hL 0 rfl) rfl 7 (by decide) rfl kf_X9_52 iwX9 dX9_count_238 ?_
    refine gf2 X G (hL 120 rfl) rfl 9 (by decide) rfl kf_X9_267 iwX2 dX9_count_241 ?_
    exact rtRi X hlk hr (so_i hf) dX9_count_244
  have hf := it_f hf cs14
  by_cases cs15 : p1 = (15 : Int32)
  · have hf := it_t hf cs15
    refine tbl_in hx hb dX9_count_1 cs15 (by decide) (by decide) rfl (tgt := 245) (by decide) ?_
    refine lv_aload_n hx hb dX9_count_245 rfl (lv_at hl 0 rfl) ?_
    refine gf9 X G (hL 0 rfl) rfl 1 (by decide) rfl kf_X9_13 iwX9 dX9_count_246 ?_
    exact rtRi X hlk hr (so_i hf) dX9_count_249
  have hf := it_f hf cs15
  have kd : W p l e (rmk 1) s m [.ref (eq E 0), .int p1].toArray below meth c s.heap [] 0 0 (MQ below (QRi res) [.ref (eq E 0), .int p1].toArray s 0 0 (NoF)) (F0 m 250 ls []) := by
    refine lv_iconst (v := (-1 : Int32)) hx hb dX9_count_250 (by decide) ?_
    exact rtRi X hlk hr (so_i hf) dX9_count_251
  refine lv_tableOut (tgt := 250) hx hb dX9_count_1 (sw_out (fun v h1 h2 => ?_)) (by decide) kd
  rcases (show v = 0 ∨ v = 1 ∨ v = 2 ∨ v = 3 ∨ v = 4 ∨ v = 5 ∨ v = 6 ∨ v = 7 ∨ v = 8 ∨ v = 9 ∨ v = 10 ∨ v = 11 ∨ v = 12 ∨ v = 13 ∨ v = 14 ∨ v = 15 by omega) with rfl | rfl | rfl | rfl | rfl | rfl | rfl | rfl | rfl | rfl | rfl | rfl | rfl | rfl | rfl | rfl
  · exact cs0
  · exact cs1
  · exact cs2
  · exact cs3
  · exact cs4
  · exact cs5
  · exact cs6
  · exact cs7
  · exact cs8
  · exact cs9
  · exact cs10
  · exact cs11
  · exact cs12
  · exact cs13
  · exact cs14
  · exact cs15
def fX9_back (L : List Nat) (p1 : Int32) (st : St) : Option (Int32 × St) := if p1 < 0 then (some ((-1 : Int32), st)) else (if (4 : Int32) ≤ p1 then (some ((-1 : Int32), st)) else (gd (ix p1 4) (if (st.2.2 9 p1.toNatClampNeg) = none then (some ((-1 : Int32), st)) else (gd (ix p1 4) (br (st.2.2 9 p1.toNatClampNeg) (fun r6 => gd (okPb L r6) (br (fX2_copyFrom 120 r6 st) (fun s10 => some ((s10.1 122 39), s10)))))))))
set_option maxRecDepth 100000 in
theorem tX9_back (l : Launch) (E : Ev) (st : St) (sz : Nat) (hL : ∀ k, fxC k = true → k ∈ eL E) {L : List Nat} (hLL : L = eL E) (p1 : Int32) {res : (Int32 × St)} (hf : fX9_back L p1 st = some res) : Met l yX9_back (.code yX9_back cX9_back 2 (some .int) :: uW) (rmk 3) (va_Pc [.ref (eq E 0), .int p1] (Pre E st sz)) (QWi E res.2 sz res.1) 0 0 (Af E sz) := by
  refine Met_in (by decide) (Nat.le_of_ble_eq_true rfl) ?_
  intro p e s m below meth c X hr hlk hz G ls hl
  have hx := X.1.1
  have hb := X.1.2.1
  have hl : lv_has ls 2 [(0, .ref (eq E 0)), (1, .int p1)] := hl
  unfold fX9_back at hf
  refine lv_iload_n hx hb dX9_back_0 rfl (lv_at hl 1 rfl) ?_
  refine lv_if_lt (tgt := 18) hx hb dX9_back_1 (by decide) (fun c1 => ?_) (fun c1 => ?_)
  · have hf := it_t hf c1
    refine lv_iconst (v := (-1 : Int32)) hx hb dX9_back_18 (by decide) ?_
    exact rtWi X hlk G hr (so_i hf) dX9_back_19
  · have hf := it_f hf c1
    refine lv_iload_n hx hb dX9_back_4 rfl (lv_at hl 1 rfl) ?_
    refine lv_iconst (v := (4 : Int32)) hx hb dX9_back_5 (by decide) ?_
    refine lv_icmp_ge (tgt := 18) hx hb dX9_back_6 (by decide) (fun c2 => ?_) (fun c2 => ?_)
    · have hf := it_t hf c2
      refine lv_iconst (v := (-1 : Int32)) hx hb dX9_back_18 (by decide) ?_
      exact rtWi X hlk G hr (so_i hf) dX9_back_19
    · have hf := it_f hf c2
      refine lv_aload_n hx hb dX9_back_9 rfl (lv_at hl 0 rfl) ?_
      refine gf9 X G (hL 0 rfl) rfl 8 (by decide) rfl kf_X9_56 iwX9 dX9_back_10 ?_
      refine lv_iload_n hx hb dX9_back_13 rfl (lv_at hl 1 rfl) ?_
      obtain ⟨h3, hf⟩ := gd_s hf
      refine pg_ld (k := 9) (n := 4) X G (hL 9 rfl) rfl (by decide) (ix_in h3) dX9_back_14 ?_
      refine lv_ifnn (tgt := 20) hx hb dX9_back_15 (by decide) (fun c4 => ?_) (fun c4 => ?_)
      · have hf := it_t hf c4
        refine lv_iconst (v := (-1 : Int32)) hx hb dX9_back_18 (by decide) ?_
        exact rtWi X hlk G hr (so_i hf) dX9_back_19
      · have hf := it_f hf c4
        refine lv_aload_n hx hb dX9_back_20 rfl (lv_at hl 0 rfl) ?_
        refine gf9 X G (hL 0 rfl) rfl 7 (by decide) rfl kf_X9_52 iwX9 dX9_back_21 ?_
        refine lv_aload_n hx hb dX9_back_24 rfl (lv_at hl 0 rfl) ?_
        refine gf9 X G (hL 0 rfl) rfl 8 (by decide) rfl kf_X9_56 iwX9 dX9_back_25 ?_
        refine lv_iload_n hx hb dX9_back_28 rfl (lv_at hl 1 rfl) ?_
        obtain ⟨h5, hf⟩ := gd_s hf
        refine pg_ld (k := 9) (n := 4) X G (hL 9 rfl) rfl (by decide) (ix_in h5) dX9_back_29 ?_
        obtain ⟨r6, h7, hf⟩ := br_s hf
        obtain ⟨h8, hf⟩ := gd_s hf
        rw [h7]
        obtain ⟨s10, h9, hf⟩ := br_s hf
        refine cVWv (As := [.ref (eq E r6)]) (rest := []) X G kc_X9_288 (tX2_copyFrom l E st _ hL (ok_120 hL) (okPb_s hLL h8)  h9) (rcv X G (hL 120 rfl) (cO2 rfl) rfl) rfl rfl (rmk_le (by omega) (by decide)) rfl hl.1 rfl (Nat.le_of_ble_eq_true rfl) dX9_back_30 ⟨Nat.zero_le _, Nat.zero_le _⟩ (fun H locs G => ?_)
        refine lv_aload_n hx hb dX9_back_33 rfl (lv_at hl 0 rfl) ?_
        refine gf9 X G (hL 0 rfl) rfl 7 (by decide) rfl kf_X9_52 iwX9 dX9_back_34 ?_
        refine gf2 X G (hL 120 rfl) rfl 1 (by decide) rfl kf_X9_128 iwX2 dX9_back_37 ?_
        refine lv_bipush (v := (39 : Int32)) hx hb dX9_back_40 (by decide) ?_
        refine ia_ldc (k := 122) (n := 41) X G (hL 122 rfl) rfl (by decide) 39 (by decide) dX9_back_42 ?_
        exact rtWi X hlk G hr (so_i hf) dX9_back_43
