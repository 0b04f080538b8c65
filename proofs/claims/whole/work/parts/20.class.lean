theorem dX1_clear_0 : decode cX1_clear 0 = .ok (.aload_n 0, 1) := by decide +kernel
theorem dX1_clear_1 : decode cX1_clear 1 = .ok (.iconst 0, 1) := by decide +kernel
theorem dX1_clear_2 : decode cX1_clear 2 = .ok (.putfield 9, 3) := by decide +kernel
theorem dX1_clear_5 : decode cX1_clear 5 = .ok (.aload_n 0, 1) := by decide +kernel
theorem dX1_clear_6 : decode cX1_clear 6 = .ok (.iconst 0, 1) := by decide +kernel
theorem dX1_clear_7 : decode cX1_clear 7 = .ok (.putfield 15, 3) := by decide +kernel
theorem dX1_clear_10 : decode cX1_clear 10 = .ok (.aload_n 0, 1) := by decide +kernel
theorem dX1_clear_11 : decode cX1_clear 11 = .ok (.iconst 0, 1) := by decide +kernel
theorem dX1_clear_12 : decode cX1_clear 12 = .ok (.putfield 19, 3) := by decide +kernel
theorem dX1_clear_15 : decode cX1_clear 15 = .ok (.aload_n 0, 1) := by decide +kernel
theorem dX1_clear_16 : decode cX1_clear 16 = .ok (.iconst 0, 1) := by decide +kernel
theorem dX1_clear_17 : decode cX1_clear 17 = .ok (.putfield 22, 3) := by decide +kernel
theorem dX1_clear_20 : decode cX1_clear 20 = .ok (.aload_n 0, 1) := by decide +kernel
theorem dX1_clear_21 : decode cX1_clear 21 = .ok (.iconst 0, 1) := by decide +kernel
theorem dX1_clear_22 : decode cX1_clear 22 = .ok (.putfield 25, 3) := by decide +kernel
theorem dX1_clear_25 : decode cX1_clear 25 = .ok (.aload_n 0, 1) := by decide +kernel
theorem dX1_clear_26 : decode cX1_clear 26 = .ok (.iconst 0, 1) := by decide +kernel
theorem dX1_clear_27 : decode cX1_clear 27 = .ok (.putfield 28, 3) := by decide +kernel
theorem dX1_clear_30 : decode cX1_clear 30 = .ok (.aload_n 0, 1) := by decide +kernel
theorem dX1_clear_31 : decode cX1_clear 31 = .ok (.iconst 0, 1) := by decide +kernel
theorem dX1_clear_32 : decode cX1_clear 32 = .ok (.putfield 31, 3) := by decide +kernel
theorem dX1_clear_35 : decode cX1_clear 35 = .ok (.aload_n 0, 1) := by decide +kernel
theorem dX1_clear_36 : decode cX1_clear 36 = .ok (.iconst 0, 1) := by decide +kernel
theorem dX1_clear_37 : decode cX1_clear 37 = .ok (.putfield 34, 3) := by decide +kernel
theorem dX1_clear_40 : decode cX1_clear 40 = .ok (.iconst 0, 1) := by decide +kernel
theorem dX1_clear_41 : decode cX1_clear 41 = .ok (.istore_n 1, 1) := by decide +kernel
theorem dX1_clear_42 : decode cX1_clear 42 = .ok (.iload_n 1, 1) := by decide +kernel
theorem dX1_clear_43 : decode cX1_clear 43 = .ok (.bipush 8, 2) := by decide +kernel
theorem dX1_clear_45 : decode cX1_clear 45 = .ok (.if_icmp .ge 16, 3) := by decide +kernel
theorem dX1_clear_48 : decode cX1_clear 48 = .ok (.aload_n 0, 1) := by decide +kernel
theorem dX1_clear_49 : decode cX1_clear 49 = .ok (.getfield 41, 3) := by decide +kernel
theorem dX1_clear_52 : decode cX1_clear 52 = .ok (.iload_n 1, 1) := by decide +kernel
theorem dX1_clear_53 : decode cX1_clear 53 = .ok (.iconst 0, 1) := by decide +kernel
theorem dX1_clear_54 : decode cX1_clear 54 = .ok (.iastore, 1) := by decide +kernel
theorem dX1_clear_55 : decode cX1_clear 55 = .ok (.iinc 1 1, 3) := by decide +kernel
theorem dX1_clear_58 : decode cX1_clear 58 = .ok (.goto (-16), 3) := by decide +kernel
theorem dX1_clear_61 : decode cX1_clear 61 = .ok (.iconst 0, 1) := by decide +kernel
theorem dX1_clear_62 : decode cX1_clear 62 = .ok (.istore_n 1, 1) := by decide +kernel
theorem dX1_clear_63 : decode cX1_clear 63 = .ok (.iload_n 1, 1) := by decide +kernel
theorem dX1_clear_64 : decode cX1_clear 64 = .ok (.bipush 41, 2) := by decide +kernel
theorem dX1_clear_66 : decode cX1_clear 66 = .ok (.if_icmp .ge 16, 3) := by decide +kernel
theorem dX1_clear_69 : decode cX1_clear 69 = .ok (.aload_n 0, 1) := by decide +kernel
theorem dX1_clear_70 : decode cX1_clear 70 = .ok (.getfield 50, 3) := by decide +kernel
theorem dX1_clear_73 : decode cX1_clear 73 = .ok (.iload_n 1, 1) := by decide +kernel
theorem dX1_clear_74 : decode cX1_clear 74 = .ok (.iconst 0, 1) := by decide +kernel
theorem dX1_clear_75 : decode cX1_clear 75 = .ok (.iastore, 1) := by decide +kernel
theorem dX1_clear_76 : decode cX1_clear 76 = .ok (.iinc 1 1, 3) := by decide +kernel
theorem dX1_clear_79 : decode cX1_clear 79 = .ok (.goto (-16), 3) := by decide +kernel
theorem dX1_clear_82 : decode cX1_clear 82 = .ok (.return_, 1) := by decide +kernel
theorem dX0_formOf_0 : decode cX0_formOf 0 = .ok (.iload_n 0, 1) := by decide +kernel
theorem dX0_formOf_1 : decode cX0_formOf 1 = .ok (.tableswitch 91 0 15 #[87, 81, 91, 91, 91, 91, 91, 91, 91, 91, 91, 91, 79, 83, 85, 89], 79) := by decide +kernel
theorem dX0_formOf_80 : decode cX0_formOf 80 = .ok (.iconst 0, 1) := by decide +kernel
theorem dX0_formOf_81 : decode cX0_formOf 81 = .ok (.ireturn, 1) := by decide +kernel
theorem dX0_formOf_82 : decode cX0_formOf 82 = .ok (.iconst 1, 1) := by decide +kernel
theorem dX0_formOf_83 : decode cX0_formOf 83 = .ok (.ireturn, 1) := by decide +kernel
theorem dX0_formOf_84 : decode cX0_formOf 84 = .ok (.iconst 2, 1) := by decide +kernel
theorem dX0_formOf_85 : decode cX0_formOf 85 = .ok (.ireturn, 1) := by decide +kernel
theorem dX0_formOf_86 : decode cX0_formOf 86 = .ok (.iconst 3, 1) := by decide +kernel
theorem dX0_formOf_87 : decode cX0_formOf 87 = .ok (.ireturn, 1) := by decide +kernel
theorem dX0_formOf_88 : decode cX0_formOf 88 = .ok (.iconst 4, 1) := by decide +kernel
theorem dX0_formOf_89 : decode cX0_formOf 89 = .ok (.ireturn, 1) := by decide +kernel
theorem dX0_formOf_90 : decode cX0_formOf 90 = .ok (.iconst 5, 1) := by decide +kernel
theorem dX0_formOf_91 : decode cX0_formOf 91 = .ok (.ireturn, 1) := by decide +kernel
theorem dX0_formOf_92 : decode cX0_formOf 92 = .ok (.iconst (-1), 1) := by decide +kernel
theorem dX0_formOf_93 : decode cX0_formOf 93 = .ok (.ireturn, 1) := by decide +kernel
theorem dX0_fail_0 : decode cX0_fail 0 = .ok (.aload_n 0, 1) := by decide +kernel
theorem dX0_fail_1 : decode cX0_fail 1 = .ok (.iconst 1, 1) := by decide +kernel
theorem dX0_fail_2 : decode cX0_fail 2 = .ok (.bipush 8, 2) := by decide +kernel
theorem dX0_fail_4 : decode cX0_fail 4 = .ok (.aload_n 0, 1) := by decide +kernel
theorem dX0_fail_5 : decode cX0_fail 5 = .ok (.getfield 26, 3) := by decide +kernel
theorem dX0_fail_8 : decode cX0_fail 8 = .ok (.getfield 114, 3) := by decide +kernel
theorem dX0_fail_11 : decode cX0_fail 11 = .ok (.imul, 1) := by decide +kernel
theorem dX0_fail_12 : decode cX0_fail 12 = .ok (.iadd, 1) := by decide +kernel
theorem dX0_fail_13 : decode cX0_fail 13 = .ok (.iload_n 1, 1) := by decide +kernel
theorem dX0_fail_14 : decode cX0_fail 14 = .ok (.iadd, 1) := by decide +kernel
theorem dX0_fail_15 : decode cX0_fail 15 = .ok (.putfield 15, 3) := by decide +kernel
theorem dX0_fail_18 : decode cX0_fail 18 = .ok (.iconst 0, 1) := by decide +kernel
theorem dX0_fail_19 : decode cX0_fail 19 = .ok (.ireturn, 1) := by decide +kernel
theorem dX0_isFull_0 : decode cX0_isFull 0 = .ok (.iload_n 1, 1) := by decide +kernel
theorem dX0_isFull_1 : decode cX0_isFull 1 = .ok (.tableswitch 106 1 5 #[35, 53, 106, 71, 88], 35) := by decide +kernel
theorem dX0_isFull_36 : decode cX0_isFull 36 = .ok (.aload_n 0, 1) := by decide +kernel
theorem dX0_isFull_37 : decode cX0_isFull 37 = .ok (.getfield 22, 3) := by decide +kernel
theorem dX0_isFull_40 : decode cX0_isFull 40 = .ok (.getfield 70, 3) := by decide +kernel
theorem dX0_isFull_43 : decode cX0_isFull 43 = .ok (.bipush 8, 2) := by decide +kernel
theorem dX0_isFull_45 : decode cX0_isFull 45 = .ok (.if_icmp .lt 7, 3) := by decide +kernel
theorem dX0_isFull_48 : decode cX0_isFull 48 = .ok (.iconst 1, 1) := by decide +kernel
theorem dX0_isFull_49 : decode cX0_isFull 49 = .ok (.goto 4, 3) := by decide +kernel
theorem dX0_isFull_52 : decode cX0_isFull 52 = .ok (.iconst 0, 1) := by decide +kernel
theorem dX0_isFull_53 : decode cX0_isFull 53 = .ok (.ireturn, 1) := by decide +kernel
theorem dX0_isFull_54 : decode cX0_isFull 54 = .ok (.aload_n 0, 1) := by decide +kernel
theorem dX0_isFull_55 : decode cX0_isFull 55 = .ok (.getfield 22, 3) := by decide +kernel
theorem dX0_isFull_58 : decode cX0_isFull 58 = .ok (.getfield 73, 3) := by decide +kernel
theorem dX0_isFull_61 : decode cX0_isFull 61 = .ok (.bipush 12, 2) := by decide +kernel
theorem dX0_isFull_63 : decode cX0_isFull 63 = .ok (.if_icmp .lt 7, 3) := by decide +kernel
theorem dX0_isFull_66 : decode cX0_isFull 66 = .ok (.iconst 1, 1) := by decide +kernel
theorem dX0_isFull_67 : decode cX0_isFull 67 = .ok (.goto 4, 3) := by decide +kernel
theorem dX0_isFull_70 : decode cX0_isFull 70 = .ok (.iconst 0, 1) := by decide +kernel
theorem dX0_isFull_71 : decode cX0_isFull 71 = .ok (.ireturn, 1) := by decide +kernel
theorem dX0_isFull_72 : decode cX0_isFull 72 = .ok (.aload_n 0, 1) := by decide +kernel
theorem dX0_isFull_73 : decode cX0_isFull 73 = .ok (.getfield 22, 3) := by decide +kernel
theorem dX0_isFull_76 : decode cX0_isFull 76 = .ok (.getfield 76, 3) := by decide +kernel
theorem dX0_isFull_79 : decode cX0_isFull 79 = .ok (.iconst 3, 1) := by decide +kernel
theorem dX0_isFull_80 : decode cX0_isFull 80 = .ok (.if_icmp .lt 7, 3) := by decide +kernel
theorem dX0_isFull_83 : decode cX0_isFull 83 = .ok (.iconst 1, 1) := by decide +kernel
theorem dX0_isFull_84 : decode cX0_isFull 84 = .ok (.goto 4, 3) := by decide +kernel
theorem dX0_isFull_87 : decode cX0_isFull 87 = .ok (.iconst 0, 1) := by decide +kernel
theorem dX0_isFull_88 : decode cX0_isFull 88 = .ok (.ireturn, 1) := by decide +kernel
theorem dX0_isFull_89 : decode cX0_isFull 89 = .ok (.aload_n 0, 1) := by decide +kernel
theorem dX0_isFull_90 : decode cX0_isFull 90 = .ok (.getfield 22, 3) := by decide +kernel
theorem dX0_isFull_93 : decode cX0_isFull 93 = .ok (.getfield 79, 3) := by decide +kernel
theorem dX0_isFull_96 : decode cX0_isFull 96 = .ok (.bipush 6, 2) := by decide +kernel
theorem dX0_isFull_98 : decode cX0_isFull 98 = .ok (.if_icmp .lt 7, 3) := by decide +kernel
theorem dX0_isFull_101 : decode cX0_isFull 101 = .ok (.iconst 1, 1) := by decide +kernel
theorem dX0_isFull_102 : decode cX0_isFull 102 = .ok (.goto 4, 3) := by decide +kernel
theorem dX0_isFull_105 : decode cX0_isFull 105 = .ok (.iconst 0, 1) := by decide +kernel
theorem dX0_isFull_106 : decode cX0_isFull 106 = .ok (.ireturn, 1) := by decide +kernel
theorem dX0_isFull_107 : decode cX0_isFull 107 = .ok (.iconst 0, 1) := by decide +kernel
theorem dX0_isFull_108 : decode cX0_isFull 108 = .ok (.ireturn, 1) := by decide +kernel
theorem dX7_step_0 : decode cX7_step 0 = .ok (.aload_n 0, 1) := by decide +kernel
theorem dX7_step_1 : decode cX7_step 1 = .ok (.getfield 25, 3) := by decide +kernel
theorem dX7_step_4 : decode cX7_step 4 = .ok (.iconst 1, 1) := by decide +kernel
theorem dX7_step_5 : decode cX7_step 5 = .ok (.iadd, 1) := by decide +kernel
theorem dX7_step_6 : decode cX7_step 6 = .ok (.aload_n 0, 1) := by decide +kernel
theorem dX7_step_7 : decode cX7_step 7 = .ok (.getfield 21, 3) := by decide +kernel
theorem dX7_step_10 : decode cX7_step 10 = .ok (.if_icmp .ge 52, 3) := by decide +kernel
theorem dX7_step_13 : decode cX7_step 13 = .ok (.aload_n 0, 1) := by decide +kernel
theorem dX7_step_14 : decode cX7_step 14 = .ok (.dup, 1) := by decide +kernel
theorem dX7_step_15 : decode cX7_step 15 = .ok (.getfield 25, 3) := by decide +kernel
theorem dX7_step_18 : decode cX7_step 18 = .ok (.iconst 1, 1) := by decide +kernel
theorem dX7_step_19 : decode cX7_step 19 = .ok (.iadd, 1) := by decide +kernel
theorem dX7_step_20 : decode cX7_step 20 = .ok (.putfield 25, 3) := by decide +kernel
theorem dX7_step_23 : decode cX7_step 23 = .ok (.aload_n 0, 1) := by decide +kernel
theorem dX7_step_24 : decode cX7_step 24 = .ok (.aload_n 0, 1) := by decide +kernel
theorem dX7_step_25 : decode cX7_step 25 = .ok (.getfield 9, 3) := by decide +kernel
theorem dX7_step_28 : decode cX7_step 28 = .ok (.aload_n 0, 1) := by decide +kernel
theorem dX7_step_29 : decode cX7_step 29 = .ok (.getfield 25, 3) := by decide +kernel
theorem dX7_step_32 : decode cX7_step 32 = .ok (.iaload, 1) := by decide +kernel
theorem dX7_step_33 : decode cX7_step 33 = .ok (.putfield 28, 3) := by decide +kernel
theorem dX7_step_36 : decode cX7_step 36 = .ok (.aload_n 0, 1) := by decide +kernel
theorem dX7_step_37 : decode cX7_step 37 = .ok (.aload_n 0, 1) := by decide +kernel
theorem dX7_step_38 : decode cX7_step 38 = .ok (.getfield 15, 3) := by decide +kernel
theorem dX7_step_41 : decode cX7_step 41 = .ok (.aload_n 0, 1) := by decide +kernel
theorem dX7_step_42 : decode cX7_step 42 = .ok (.getfield 25, 3) := by decide +kernel
theorem dX7_step_45 : decode cX7_step 45 = .ok (.iaload, 1) := by decide +kernel
theorem dX7_step_46 : decode cX7_step 46 = .ok (.putfield 31, 3) := by decide +kernel
theorem dX7_step_49 : decode cX7_step 49 = .ok (.aload_n 0, 1) := by decide +kernel
theorem dX7_step_50 : decode cX7_step 50 = .ok (.aload_n 0, 1) := by decide +kernel
theorem dX7_step_51 : decode cX7_step 51 = .ok (.getfield 18, 3) := by decide +kernel
theorem dX7_step_54 : decode cX7_step 54 = .ok (.aload_n 0, 1) := by decide +kernel
theorem dX7_step_55 : decode cX7_step 55 = .ok (.getfield 25, 3) := by decide +kernel
theorem dX7_step_58 : decode cX7_step 58 = .ok (.iaload, 1) := by decide +kernel
theorem dX7_step_59 : decode cX7_step 59 = .ok (.putfield 34, 3) := by decide +kernel
theorem dX7_step_62 : decode cX7_step 62 = .ok (.return_, 1) := by decide +kernel
theorem dX0_readNumber_0 : decode cX0_readNumber 0 = .ok (.aload_n 0, 1) := by decide +kernel
theorem dX0_readNumber_1 : decode cX0_readNumber 1 = .ok (.getfield 26, 3) := by decide +kernel
theorem dX0_readNumber_4 : decode cX0_readNumber 4 = .ok (.getfield 41, 3) := by decide +kernel
theorem dX0_readNumber_7 : decode cX0_readNumber 7 = .ok (.bipush 21, 2) := by decide +kernel
theorem dX0_readNumber_9 : decode cX0_readNumber 9 = .ok (.if_icmp .eq 21, 3) := by decide +kernel
theorem dX0_readNumber_12 : decode cX0_readNumber 12 = .ok (.aload_n 0, 1) := by decide +kernel
theorem dX0_readNumber_13 : decode cX0_readNumber 13 = .ok (.getfield 26, 3) := by decide +kernel
theorem dX0_readNumber_16 : decode cX0_readNumber 16 = .ok (.getfield 41, 3) := by decide +kernel
theorem dX0_readNumber_19 : decode cX0_readNumber 19 = .ok (.bipush 22, 2) := by decide +kernel
theorem dX0_readNumber_21 : decode cX0_readNumber 21 = .ok (.if_icmp .eq 9, 3) := by decide +kernel
theorem dX0_readNumber_24 : decode cX0_readNumber 24 = .ok (.aload_n 0, 1) := by decide +kernel
theorem dX0_readNumber_25 : decode cX0_readNumber 25 = .ok (.iconst 0, 1) := by decide +kernel
theorem dX0_readNumber_26 : decode cX0_readNumber 26 = .ok (.invokevirtual 46, 3) := by decide +kernel
theorem dX0_readNumber_29 : decode cX0_readNumber 29 = .ok (.ireturn, 1) := by decide +kernel
theorem dX0_readNumber_30 : decode cX0_readNumber 30 = .ok (.aload_n 0, 1) := by decide +kernel
theorem dX0_readNumber_31 : decode cX0_readNumber 31 = .ok (.getfield 26, 3) := by decide +kernel
theorem dX0_readNumber_34 : decode cX0_readNumber 34 = .ok (.getfield 82, 3) := by decide +kernel
theorem dX0_readNumber_37 : decode cX0_readNumber 37 = .ok (.istore_n 3, 1) := by decide +kernel
theorem dX0_readNumber_38 : decode cX0_readNumber 38 = .ok (.getstatic 85, 3) := by decide +kernel
theorem dX0_readNumber_41 : decode cX0_readNumber 41 = .ok (.iload_n 1, 1) := by decide +kernel
theorem dX0_readNumber_42 : decode cX0_readNumber 42 = .ok (.iconst 3, 1) := by decide +kernel
theorem dX0_readNumber_43 : decode cX0_readNumber 43 = .ok (.imul, 1) := by decide +kernel
theorem dX0_readNumber_44 : decode cX0_readNumber 44 = .ok (.iload_n 2, 1) := by decide +kernel
theorem dX0_readNumber_45 : decode cX0_readNumber 45 = .ok (.iadd, 1) := by decide +kernel
theorem dX0_readNumber_46 : decode cX0_readNumber 46 = .ok (.iaload, 1) := by decide +kernel
theorem dX0_readNumber_47 : decode cX0_readNumber 47 = .ok (.istore 4, 2) := by decide +kernel
theorem dX0_readNumber_49 : decode cX0_readNumber 49 = .ok (.iload 4, 2) := by decide +kernel
theorem dX0_readNumber_51 : decode cX0_readNumber 51 = .ok (.iconst (-1), 1) := by decide +kernel
theorem dX0_readNumber_52 : decode cX0_readNumber 52 = .ok (.if_icmp .ne 15, 3) := by decide +kernel
theorem dX0_readNumber_55 : decode cX0_readNumber 55 = .ok (.aload_n 0, 1) := by decide +kernel
theorem dX0_readNumber_56 : decode cX0_readNumber 56 = .ok (.getfield 22, 3) := by decide +kernel
theorem dX0_readNumber_59 : decode cX0_readNumber 59 = .ok (.getfield 70, 3) := by decide +kernel
theorem dX0_readNumber_62 : decode cX0_readNumber 62 = .ok (.iconst 1, 1) := by decide +kernel
theorem dX0_readNumber_63 : decode cX0_readNumber 63 = .ok (.isub, 1) := by decide +kernel
theorem dX0_readNumber_64 : decode cX0_readNumber 64 = .ok (.goto 5, 3) := by decide +kernel
theorem dX0_readNumber_67 : decode cX0_readNumber 67 = .ok (.iload 4, 2) := by decide +kernel
theorem dX0_readNumber_69 : decode cX0_readNumber 69 = .ok (.istore 5, 2) := by decide +kernel
theorem dX0_readNumber_71 : decode cX0_readNumber 71 = .ok (.iload_n 1, 1) := by decide +kernel
theorem dX0_readNumber_72 : decode cX0_readNumber 72 = .ok (.iconst 4, 1) := by decide +kernel
theorem dX0_readNumber_73 : decode cX0_readNumber 73 = .ok (.if_icmp .ne 17, 3) := by decide +kernel
theorem dX0_readNumber_76 : decode cX0_readNumber 76 = .ok (.iload_n 2, 1) := by decide +kernel
theorem dX0_readNumber_77 : decode cX0_readNumber 77 = .ok (.iconst 1, 1) := by decide +kernel
theorem dX0_readNumber_78 : decode cX0_readNumber 78 = .ok (.if_icmp .ne 12, 3) := by decide +kernel
theorem dX0_readNumber_81 : decode cX0_readNumber 81 = .ok (.iload_n 3, 1) := by decide +kernel
theorem dX0_readNumber_82 : decode cX0_readNumber 82 = .ok (.iconst 1, 1) := by decide +kernel
theorem dX0_readNumber_83 : decode cX0_readNumber 83 = .ok (.if_icmp .ge 7, 3) := by decide +kernel
theorem dX0_readNumber_86 : decode cX0_readNumber 86 = .ok (.iconst 1, 1) := by decide +kernel
theorem dX0_readNumber_87 : decode cX0_readNumber 87 = .ok (.goto 4, 3) := by decide +kernel
theorem dX0_readNumber_90 : decode cX0_readNumber 90 = .ok (.iconst 0, 1) := by decide +kernel
theorem dX0_readNumber_91 : decode cX0_readNumber 91 = .ok (.istore 6, 2) := by decide +kernel
theorem dX0_readNumber_93 : decode cX0_readNumber 93 = .ok (.iload_n 1, 1) := by decide +kernel
theorem dX0_readNumber_94 : decode cX0_readNumber 94 = .ok (.iconst 2, 1) := by decide +kernel
theorem dX0_readNumber_95 : decode cX0_readNumber 95 = .ok (.if_icmp .ne 22, 3) := by decide +kernel
theorem dX0_readNumber_98 : decode cX0_readNumber 98 = .ok (.iload_n 2, 1) := by decide +kernel
theorem dX0_readNumber_99 : decode cX0_readNumber 99 = .ok (.iconst 1, 1) := by decide +kernel
theorem dX0_readNumber_100 : decode cX0_readNumber 100 = .ok (.if_icmp .ne 17, 3) := by decide +kernel
theorem dX0_readNumber_103 : decode cX0_readNumber 103 = .ok (.iload_n 3, 1) := by decide +kernel
theorem dX0_readNumber_104 : decode cX0_readNumber 104 = .ok (.aload_n 0, 1) := by decide +kernel
theorem dX0_readNumber_105 : decode cX0_readNumber 105 = .ok (.getfield 11, 3) := by decide +kernel
theorem dX0_readNumber_108 : decode cX0_readNumber 108 = .ok (.iconst 0, 1) := by decide +kernel
theorem dX0_readNumber_109 : decode cX0_readNumber 109 = .ok (.iaload, 1) := by decide +kernel
theorem dX0_readNumber_110 : decode cX0_readNumber 110 = .ok (.if_icmp .ne 7, 3) := by decide +kernel
theorem dX0_readNumber_113 : decode cX0_readNumber 113 = .ok (.iconst 1, 1) := by decide +kernel
theorem dX0_readNumber_114 : decode cX0_readNumber 114 = .ok (.goto 4, 3) := by decide +kernel
theorem dX0_readNumber_117 : decode cX0_readNumber 117 = .ok (.iconst 0, 1) := by decide +kernel
theorem dX0_readNumber_118 : decode cX0_readNumber 118 = .ok (.istore 7, 2) := by decide +kernel
theorem dX0_readNumber_120 : decode cX0_readNumber 120 = .ok (.aload_n 0, 1) := by decide +kernel
theorem dX0_readNumber_121 : decode cX0_readNumber 121 = .ok (.getfield 26, 3) := by decide +kernel
theorem dX0_readNumber_124 : decode cX0_readNumber 124 = .ok (.getfield 41, 3) := by decide +kernel
theorem dX0_readNumber_127 : decode cX0_readNumber 127 = .ok (.bipush 22, 2) := by decide +kernel
theorem dX0_readNumber_129 : decode cX0_readNumber 129 = .ok (.if_icmp .eq 19, 3) := by decide +kernel
theorem dX0_readNumber_132 : decode cX0_readNumber 132 = .ok (.iload_n 3, 1) := by decide +kernel
theorem dX0_readNumber_133 : decode cX0_readNumber 133 = .ok (.iload 5, 2) := by decide +kernel
theorem dX0_readNumber_135 : decode cX0_readNumber 135 = .ok (.if_icmp .gt 13, 3) := by decide +kernel
theorem dX0_readNumber_138 : decode cX0_readNumber 138 = .ok (.iload 6, 2) := by decide +kernel
theorem dX0_readNumber_140 : decode cX0_readNumber 140 = .ok (.ifCond .ne 8, 3) := by decide +kernel
theorem dX0_readNumber_143 : decode cX0_readNumber 143 = .ok (.iload 7, 2) := by decide +kernel
theorem dX0_readNumber_145 : decode cX0_readNumber 145 = .ok (.ifCond .eq 9, 3) := by decide +kernel
theorem dX0_readNumber_148 : decode cX0_readNumber 148 = .ok (.aload_n 0, 1) := by decide +kernel
theorem dX0_readNumber_149 : decode cX0_readNumber 149 = .ok (.iconst 1, 1) := by decide +kernel
theorem dX0_readNumber_150 : decode cX0_readNumber 150 = .ok (.invokevirtual 46, 3) := by decide +kernel
theorem dX0_readNumber_153 : decode cX0_readNumber 153 = .ok (.ireturn, 1) := by decide +kernel
theorem dX0_readNumber_154 : decode cX0_readNumber 154 = .ok (.aload_n 0, 1) := by decide +kernel
theorem dX0_readNumber_155 : decode cX0_readNumber 155 = .ok (.getfield 11, 3) := by decide +kernel
theorem dX0_readNumber_158 : decode cX0_readNumber 158 = .ok (.iload_n 2, 1) := by decide +kernel
theorem dX0_readNumber_159 : decode cX0_readNumber 159 = .ok (.iload_n 3, 1) := by decide +kernel
theorem dX0_readNumber_160 : decode cX0_readNumber 160 = .ok (.iastore, 1) := by decide +kernel
theorem dX0_readNumber_161 : decode cX0_readNumber 161 = .ok (.aload_n 0, 1) := by decide +kernel
theorem dX0_readNumber_162 : decode cX0_readNumber 162 = .ok (.getfield 26, 3) := by decide +kernel
theorem dX0_readNumber_165 : decode cX0_readNumber 165 = .ok (.invokevirtual 49, 3) := by decide +kernel
theorem dX0_readNumber_168 : decode cX0_readNumber 168 = .ok (.iconst 1, 1) := by decide +kernel
theorem dX0_readNumber_169 : decode cX0_readNumber 169 = .ok (.ireturn, 1) := by decide +kernel
theorem dX1_addHouse_0 : decode cX1_addHouse 0 = .ok (.aload_n 0, 1) := by decide +kernel
theorem dX1_addHouse_1 : decode cX1_addHouse 1 = .ok (.getfield 25, 3) := by decide +kernel
theorem dX1_addHouse_4 : decode cX1_addHouse 4 = .ok (.bipush 8, 2) := by decide +kernel
theorem dX1_addHouse_6 : decode cX1_addHouse 6 = .ok (.if_icmp .ge 61, 3) := by decide +kernel
theorem dX1_addHouse_9 : decode cX1_addHouse 9 = .ok (.aload_n 0, 1) := by decide +kernel
theorem dX1_addHouse_10 : decode cX1_addHouse 10 = .ok (.getfield 50, 3) := by decide +kernel
theorem dX1_addHouse_13 : decode cX1_addHouse 13 = .ok (.iconst 0, 1) := by decide +kernel
theorem dX1_addHouse_14 : decode cX1_addHouse 14 = .ok (.aload_n 0, 1) := by decide +kernel
theorem dX1_addHouse_15 : decode cX1_addHouse 15 = .ok (.getfield 25, 3) := by decide +kernel
theorem dX1_addHouse_18 : decode cX1_addHouse 18 = .ok (.iadd, 1) := by decide +kernel
theorem dX1_addHouse_19 : decode cX1_addHouse 19 = .ok (.iload_n 1, 1) := by decide +kernel
theorem dX1_addHouse_20 : decode cX1_addHouse 20 = .ok (.iastore, 1) := by decide +kernel
theorem dX1_addHouse_21 : decode cX1_addHouse 21 = .ok (.aload_n 0, 1) := by decide +kernel
theorem dX1_addHouse_22 : decode cX1_addHouse 22 = .ok (.getfield 50, 3) := by decide +kernel
theorem dX1_addHouse_25 : decode cX1_addHouse 25 = .ok (.bipush 8, 2) := by decide +kernel
theorem dX1_addHouse_27 : decode cX1_addHouse 27 = .ok (.aload_n 0, 1) := by decide +kernel
theorem dX1_addHouse_28 : decode cX1_addHouse 28 = .ok (.getfield 25, 3) := by decide +kernel
theorem dX1_addHouse_31 : decode cX1_addHouse 31 = .ok (.iadd, 1) := by decide +kernel
theorem dX1_addHouse_32 : decode cX1_addHouse 32 = .ok (.iload_n 2, 1) := by decide +kernel
theorem dX1_addHouse_33 : decode cX1_addHouse 33 = .ok (.iastore, 1) := by decide +kernel
theorem dX1_addHouse_34 : decode cX1_addHouse 34 = .ok (.aload_n 0, 1) := by decide +kernel
theorem dX1_addHouse_35 : decode cX1_addHouse 35 = .ok (.getfield 50, 3) := by decide +kernel
theorem dX1_addHouse_38 : decode cX1_addHouse 38 = .ok (.bipush 24, 2) := by decide +kernel
theorem dX1_addHouse_40 : decode cX1_addHouse 40 = .ok (.aload_n 0, 1) := by decide +kernel
theorem dX1_addHouse_41 : decode cX1_addHouse 41 = .ok (.getfield 25, 3) := by decide +kernel
theorem dX1_addHouse_44 : decode cX1_addHouse 44 = .ok (.iadd, 1) := by decide +kernel
theorem dX1_addHouse_45 : decode cX1_addHouse 45 = .ok (.iconst (-1), 1) := by decide +kernel
theorem dX1_addHouse_46 : decode cX1_addHouse 46 = .ok (.iastore, 1) := by decide +kernel
theorem dX1_addHouse_47 : decode cX1_addHouse 47 = .ok (.aload_n 0, 1) := by decide +kernel
theorem dX1_addHouse_48 : decode cX1_addHouse 48 = .ok (.getfield 37, 3) := by decide +kernel
theorem dX1_addHouse_51 : decode cX1_addHouse 51 = .ok (.aload_n 0, 1) := by decide +kernel
theorem dX1_addHouse_52 : decode cX1_addHouse 52 = .ok (.getfield 25, 3) := by decide +kernel
theorem dX1_addHouse_55 : decode cX1_addHouse 55 = .ok (.iload_n 3, 1) := by decide +kernel
theorem dX1_addHouse_56 : decode cX1_addHouse 56 = .ok (.iastore, 1) := by decide +kernel
theorem dX1_addHouse_57 : decode cX1_addHouse 57 = .ok (.aload_n 0, 1) := by decide +kernel
theorem dX1_addHouse_58 : decode cX1_addHouse 58 = .ok (.dup, 1) := by decide +kernel
theorem dX1_addHouse_59 : decode cX1_addHouse 59 = .ok (.getfield 25, 3) := by decide +kernel
theorem dX1_addHouse_62 : decode cX1_addHouse 62 = .ok (.iconst 1, 1) := by decide +kernel
theorem dX1_addHouse_63 : decode cX1_addHouse 63 = .ok (.iadd, 1) := by decide +kernel
theorem dX1_addHouse_64 : decode cX1_addHouse 64 = .ok (.putfield 25, 3) := by decide +kernel
theorem dX1_addHouse_67 : decode cX1_addHouse 67 = .ok (.return_, 1) := by decide +kernel
theorem dX1_addLane_0 : decode cX1_addLane 0 = .ok (.aload_n 0, 1) := by decide +kernel
theorem dX1_addLane_1 : decode cX1_addLane 1 = .ok (.getfield 41, 3) := by decide +kernel
theorem dX1_addLane_4 : decode cX1_addLane 4 = .ok (.iload_n 1, 1) := by decide +kernel
theorem dX1_addLane_5 : decode cX1_addLane 5 = .ok (.iaload, 1) := by decide +kernel
theorem dX1_addLane_6 : decode cX1_addLane 6 = .ok (.iload_n 2, 1) := by decide +kernel
theorem dX1_addLane_7 : decode cX1_addLane 7 = .ok (.ishr, 1) := by decide +kernel
theorem dX1_addLane_8 : decode cX1_addLane 8 = .ok (.iconst 1, 1) := by decide +kernel
theorem dX1_addLane_9 : decode cX1_addLane 9 = .ok (.iand, 1) := by decide +kernel
theorem dX1_addLane_10 : decode cX1_addLane 10 = .ok (.ifCond .ne 37, 3) := by decide +kernel
theorem dX1_addLane_13 : decode cX1_addLane 13 = .ok (.aload_n 0, 1) := by decide +kernel
theorem dX1_addLane_14 : decode cX1_addLane 14 = .ok (.getfield 41, 3) := by decide +kernel
theorem dX1_addLane_17 : decode cX1_addLane 17 = .ok (.iload_n 1, 1) := by decide +kernel
theorem dX1_addLane_18 : decode cX1_addLane 18 = .ok (.dup2, 1) := by decide +kernel
theorem dX1_addLane_19 : decode cX1_addLane 19 = .ok (.iaload, 1) := by decide +kernel
theorem dX1_addLane_20 : decode cX1_addLane 20 = .ok (.iconst 1, 1) := by decide +kernel
theorem dX1_addLane_21 : decode cX1_addLane 21 = .ok (.iload_n 2, 1) := by decide +kernel
theorem dX1_addLane_22 : decode cX1_addLane 22 = .ok (.ishl, 1) := by decide +kernel
theorem dX1_addLane_23 : decode cX1_addLane 23 = .ok (.ior, 1) := by decide +kernel
theorem dX1_addLane_24 : decode cX1_addLane 24 = .ok (.iastore, 1) := by decide +kernel
theorem dX1_addLane_25 : decode cX1_addLane 25 = .ok (.aload_n 0, 1) := by decide +kernel
theorem dX1_addLane_26 : decode cX1_addLane 26 = .ok (.getfield 41, 3) := by decide +kernel
theorem dX1_addLane_29 : decode cX1_addLane 29 = .ok (.iload_n 2, 1) := by decide +kernel
theorem dX1_addLane_30 : decode cX1_addLane 30 = .ok (.dup2, 1) := by decide +kernel
theorem dX1_addLane_31 : decode cX1_addLane 31 = .ok (.iaload, 1) := by decide +kernel
theorem dX1_addLane_32 : decode cX1_addLane 32 = .ok (.iconst 1, 1) := by decide +kernel
theorem dX1_addLane_33 : decode cX1_addLane 33 = .ok (.iload_n 1, 1) := by decide +kernel
theorem dX1_addLane_34 : decode cX1_addLane 34 = .ok (.ishl, 1) := by decide +kernel
theorem dX1_addLane_35 : decode cX1_addLane 35 = .ok (.ior, 1) := by decide +kernel
theorem dX1_addLane_36 : decode cX1_addLane 36 = .ok (.iastore, 1) := by decide +kernel
theorem dX1_addLane_37 : decode cX1_addLane 37 = .ok (.aload_n 0, 1) := by decide +kernel
theorem dX1_addLane_38 : decode cX1_addLane 38 = .ok (.dup, 1) := by decide +kernel
theorem dX1_addLane_39 : decode cX1_addLane 39 = .ok (.getfield 28, 3) := by decide +kernel
theorem dX1_addLane_42 : decode cX1_addLane 42 = .ok (.iconst 1, 1) := by decide +kernel
theorem dX1_addLane_43 : decode cX1_addLane 43 = .ok (.iadd, 1) := by decide +kernel
theorem dX1_addLane_44 : decode cX1_addLane 44 = .ok (.putfield 28, 3) := by decide +kernel
theorem dX1_addLane_47 : decode cX1_addLane 47 = .ok (.return_, 1) := by decide +kernel
theorem dX1_addOfficer_0 : decode cX1_addOfficer 0 = .ok (.aload_n 0, 1) := by decide +kernel
theorem dX1_addOfficer_1 : decode cX1_addOfficer 1 = .ok (.getfield 31, 3) := by decide +kernel
theorem dX1_addOfficer_4 : decode cX1_addOfficer 4 = .ok (.iconst 3, 1) := by decide +kernel
theorem dX1_addOfficer_5 : decode cX1_addOfficer 5 = .ok (.if_icmp .ge 36, 3) := by decide +kernel
theorem dX1_addOfficer_8 : decode cX1_addOfficer 8 = .ok (.aload_n 0, 1) := by decide +kernel
theorem dX1_addOfficer_9 : decode cX1_addOfficer 9 = .ok (.getfield 50, 3) := by decide +kernel
theorem dX1_addOfficer_12 : decode cX1_addOfficer 12 = .ok (.bipush 32, 2) := by decide +kernel
theorem dX1_addOfficer_14 : decode cX1_addOfficer 14 = .ok (.aload_n 0, 1) := by decide +kernel
theorem dX1_addOfficer_15 : decode cX1_addOfficer 15 = .ok (.getfield 31, 3) := by decide +kernel
theorem dX1_addOfficer_18 : decode cX1_addOfficer 18 = .ok (.iadd, 1) := by decide +kernel
theorem dX1_addOfficer_19 : decode cX1_addOfficer 19 = .ok (.iload_n 1, 1) := by decide +kernel
theorem dX1_addOfficer_20 : decode cX1_addOfficer 20 = .ok (.iastore, 1) := by decide +kernel
theorem dX1_addOfficer_21 : decode cX1_addOfficer 21 = .ok (.aload_n 0, 1) := by decide +kernel
theorem dX1_addOfficer_22 : decode cX1_addOfficer 22 = .ok (.getfield 44, 3) := by decide +kernel
theorem dX1_addOfficer_25 : decode cX1_addOfficer 25 = .ok (.aload_n 0, 1) := by decide +kernel
theorem dX1_addOfficer_26 : decode cX1_addOfficer 26 = .ok (.getfield 31, 3) := by decide +kernel
theorem dX1_addOfficer_29 : decode cX1_addOfficer 29 = .ok (.iload_n 2, 1) := by decide +kernel
theorem dX1_addOfficer_30 : decode cX1_addOfficer 30 = .ok (.iastore, 1) := by decide +kernel
theorem dX1_addOfficer_31 : decode cX1_addOfficer 31 = .ok (.aload_n 0, 1) := by decide +kernel
theorem dX1_addOfficer_32 : decode cX1_addOfficer 32 = .ok (.dup, 1) := by decide +kernel
theorem dX1_addOfficer_33 : decode cX1_addOfficer 33 = .ok (.getfield 31, 3) := by decide +kernel
theorem dX1_addOfficer_36 : decode cX1_addOfficer 36 = .ok (.iconst 1, 1) := by decide +kernel
theorem dX1_addOfficer_37 : decode cX1_addOfficer 37 = .ok (.iadd, 1) := by decide +kernel
theorem dX1_addOfficer_38 : decode cX1_addOfficer 38 = .ok (.putfield 31, 3) := by decide +kernel
theorem dX1_addOfficer_41 : decode cX1_addOfficer 41 = .ok (.return_, 1) := by decide +kernel
theorem dX1_addSnow_0 : decode cX1_addSnow 0 = .ok (.aload_n 0, 1) := by decide +kernel
theorem dX1_addSnow_1 : decode cX1_addSnow 1 = .ok (.getfield 34, 3) := by decide +kernel
theorem dX1_addSnow_4 : decode cX1_addSnow 4 = .ok (.bipush 6, 2) := by decide +kernel
theorem dX1_addSnow_6 : decode cX1_addSnow 6 = .ok (.if_icmp .ge 23, 3) := by decide +kernel
theorem dX1_addSnow_9 : decode cX1_addSnow 9 = .ok (.aload_n 0, 1) := by decide +kernel
theorem dX1_addSnow_10 : decode cX1_addSnow 10 = .ok (.getfield 47, 3) := by decide +kernel
theorem dX1_addSnow_13 : decode cX1_addSnow 13 = .ok (.aload_n 0, 1) := by decide +kernel
theorem dX1_addSnow_14 : decode cX1_addSnow 14 = .ok (.getfield 34, 3) := by decide +kernel
theorem dX1_addSnow_17 : decode cX1_addSnow 17 = .ok (.iload_n 1, 1) := by decide +kernel
theorem dX1_addSnow_18 : decode cX1_addSnow 18 = .ok (.iastore, 1) := by decide +kernel
theorem dX1_addSnow_19 : decode cX1_addSnow 19 = .ok (.aload_n 0, 1) := by decide +kernel
theorem dX1_addSnow_20 : decode cX1_addSnow 20 = .ok (.dup, 1) := by decide +kernel
theorem dX1_addSnow_21 : decode cX1_addSnow 21 = .ok (.getfield 34, 3) := by decide +kernel
theorem dX1_addSnow_24 : decode cX1_addSnow 24 = .ok (.iconst 1, 1) := by decide +kernel
theorem dX1_addSnow_25 : decode cX1_addSnow 25 = .ok (.iadd, 1) := by decide +kernel
theorem dX1_addSnow_26 : decode cX1_addSnow 26 = .ok (.putfield 34, 3) := by decide +kernel
theorem dX1_addSnow_29 : decode cX1_addSnow 29 = .ok (.return_, 1) := by decide +kernel
theorem dX0_put_0 : decode cX0_put 0 = .ok (.iload_n 1, 1) := by decide +kernel
theorem dX0_put_1 : decode cX0_put 1 = .ok (.tableswitch 175 0 4 #[35, 77, 105, 127, 153], 35) := by decide +kernel
theorem dX0_put_36 : decode cX0_put 36 = .ok (.aload_n 0, 1) := by decide +kernel
theorem dX0_put_37 : decode cX0_put 37 = .ok (.getfield 22, 3) := by decide +kernel
theorem dX0_put_40 : decode cX0_put 40 = .ok (.aload_n 0, 1) := by decide +kernel
theorem dX0_put_41 : decode cX0_put 41 = .ok (.getfield 11, 3) := by decide +kernel
theorem dX0_put_44 : decode cX0_put 44 = .ok (.iconst 0, 1) := by decide +kernel
theorem dX0_put_45 : decode cX0_put 45 = .ok (.iaload, 1) := by decide +kernel
theorem dX0_put_46 : decode cX0_put 46 = .ok (.putfield 88, 3) := by decide +kernel
theorem dX0_put_49 : decode cX0_put 49 = .ok (.aload_n 0, 1) := by decide +kernel
theorem dX0_put_50 : decode cX0_put 50 = .ok (.getfield 22, 3) := by decide +kernel
theorem dX0_put_53 : decode cX0_put 53 = .ok (.aload_n 0, 1) := by decide +kernel
theorem dX0_put_54 : decode cX0_put 54 = .ok (.getfield 11, 3) := by decide +kernel
theorem dX0_put_57 : decode cX0_put 57 = .ok (.iconst 1, 1) := by decide +kernel
theorem dX0_put_58 : decode cX0_put 58 = .ok (.iaload, 1) := by decide +kernel
theorem dX0_put_59 : decode cX0_put 59 = .ok (.putfield 91, 3) := by decide +kernel
theorem dX0_put_62 : decode cX0_put 62 = .ok (.aload_n 0, 1) := by decide +kernel
theorem dX0_put_63 : decode cX0_put 63 = .ok (.getfield 22, 3) := by decide +kernel
theorem dX0_put_66 : decode cX0_put 66 = .ok (.aload_n 0, 1) := by decide +kernel
theorem dX0_put_67 : decode cX0_put 67 = .ok (.getfield 11, 3) := by decide +kernel
theorem dX0_put_70 : decode cX0_put 70 = .ok (.iconst 2, 1) := by decide +kernel
theorem dX0_put_71 : decode cX0_put 71 = .ok (.iaload, 1) := by decide +kernel
theorem dX0_put_72 : decode cX0_put 72 = .ok (.putfield 94, 3) := by decide +kernel
theorem dX0_put_75 : decode cX0_put 75 = .ok (.goto 114, 3) := by decide +kernel
theorem dX0_put_78 : decode cX0_put 78 = .ok (.aload_n 0, 1) := by decide +kernel
theorem dX0_put_79 : decode cX0_put 79 = .ok (.getfield 22, 3) := by decide +kernel
theorem dX0_put_82 : decode cX0_put 82 = .ok (.aload_n 0, 1) := by decide +kernel
theorem dX0_put_83 : decode cX0_put 83 = .ok (.getfield 11, 3) := by decide +kernel
theorem dX0_put_86 : decode cX0_put 86 = .ok (.iconst 0, 1) := by decide +kernel
theorem dX0_put_87 : decode cX0_put 87 = .ok (.iaload, 1) := by decide +kernel
theorem dX0_put_88 : decode cX0_put 88 = .ok (.aload_n 0, 1) := by decide +kernel
theorem dX0_put_89 : decode cX0_put 89 = .ok (.getfield 11, 3) := by decide +kernel
theorem dX0_put_92 : decode cX0_put 92 = .ok (.iconst 1, 1) := by decide +kernel
theorem dX0_put_93 : decode cX0_put 93 = .ok (.iaload, 1) := by decide +kernel
theorem dX0_put_94 : decode cX0_put 94 = .ok (.aload_n 0, 1) := by decide +kernel
theorem dX0_put_95 : decode cX0_put 95 = .ok (.getfield 11, 3) := by decide +kernel
theorem dX0_put_98 : decode cX0_put 98 = .ok (.iconst 2, 1) := by decide +kernel
theorem dX0_put_99 : decode cX0_put 99 = .ok (.iaload, 1) := by decide +kernel
theorem dX0_put_100 : decode cX0_put 100 = .ok (.invokevirtual 97, 3) := by decide +kernel
theorem dX0_put_103 : decode cX0_put 103 = .ok (.goto 86, 3) := by decide +kernel
theorem dX0_put_106 : decode cX0_put 106 = .ok (.aload_n 0, 1) := by decide +kernel
theorem dX0_put_107 : decode cX0_put 107 = .ok (.getfield 22, 3) := by decide +kernel
theorem dX0_put_110 : decode cX0_put 110 = .ok (.aload_n 0, 1) := by decide +kernel
theorem dX0_put_111 : decode cX0_put 111 = .ok (.getfield 11, 3) := by decide +kernel
theorem dX0_put_114 : decode cX0_put 114 = .ok (.iconst 0, 1) := by decide +kernel
theorem dX0_put_115 : decode cX0_put 115 = .ok (.iaload, 1) := by decide +kernel
theorem dX0_put_116 : decode cX0_put 116 = .ok (.aload_n 0, 1) := by decide +kernel
theorem dX0_put_117 : decode cX0_put 117 = .ok (.getfield 11, 3) := by decide +kernel
theorem dX0_put_120 : decode cX0_put 120 = .ok (.iconst 1, 1) := by decide +kernel
theorem dX0_put_121 : decode cX0_put 121 = .ok (.iaload, 1) := by decide +kernel
theorem dX0_put_122 : decode cX0_put 122 = .ok (.invokevirtual 101, 3) := by decide +kernel
theorem dX0_put_125 : decode cX0_put 125 = .ok (.goto 64, 3) := by decide +kernel
theorem dX0_put_128 : decode cX0_put 128 = .ok (.aload_n 0, 1) := by decide +kernel
theorem dX0_put_129 : decode cX0_put 129 = .ok (.getfield 22, 3) := by decide +kernel
theorem dX0_put_132 : decode cX0_put 132 = .ok (.getfield 105, 3) := by decide +kernel
theorem dX0_put_135 : decode cX0_put 135 = .ok (.bipush 16, 2) := by decide +kernel
theorem dX0_put_137 : decode cX0_put 137 = .ok (.aload_n 0, 1) := by decide +kernel
theorem dX0_put_138 : decode cX0_put 138 = .ok (.getfield 11, 3) := by decide +kernel
theorem dX0_put_141 : decode cX0_put 141 = .ok (.iconst 0, 1) := by decide +kernel
theorem dX0_put_142 : decode cX0_put 142 = .ok (.iaload, 1) := by decide +kernel
theorem dX0_put_143 : decode cX0_put 143 = .ok (.iadd, 1) := by decide +kernel
theorem dX0_put_144 : decode cX0_put 144 = .ok (.aload_n 0, 1) := by decide +kernel
theorem dX0_put_145 : decode cX0_put 145 = .ok (.getfield 11, 3) := by decide +kernel
theorem dX0_put_148 : decode cX0_put 148 = .ok (.iconst 1, 1) := by decide +kernel
theorem dX0_put_149 : decode cX0_put 149 = .ok (.iaload, 1) := by decide +kernel
theorem dX0_put_150 : decode cX0_put 150 = .ok (.iastore, 1) := by decide +kernel
theorem dX0_put_151 : decode cX0_put 151 = .ok (.goto 38, 3) := by decide +kernel
theorem dX0_put_154 : decode cX0_put 154 = .ok (.aload_n 0, 1) := by decide +kernel
theorem dX0_put_155 : decode cX0_put 155 = .ok (.getfield 22, 3) := by decide +kernel
theorem dX0_put_158 : decode cX0_put 158 = .ok (.aload_n 0, 1) := by decide +kernel
theorem dX0_put_159 : decode cX0_put 159 = .ok (.getfield 11, 3) := by decide +kernel
theorem dX0_put_162 : decode cX0_put 162 = .ok (.iconst 0, 1) := by decide +kernel
theorem dX0_put_163 : decode cX0_put 163 = .ok (.iaload, 1) := by decide +kernel
theorem dX0_put_164 : decode cX0_put 164 = .ok (.aload_n 0, 1) := by decide +kernel
theorem dX0_put_165 : decode cX0_put 165 = .ok (.getfield 11, 3) := by decide +kernel
theorem dX0_put_168 : decode cX0_put 168 = .ok (.iconst 1, 1) := by decide +kernel
theorem dX0_put_169 : decode cX0_put 169 = .ok (.iaload, 1) := by decide +kernel
theorem dX0_put_170 : decode cX0_put 170 = .ok (.invokevirtual 108, 3) := by decide +kernel
theorem dX0_put_173 : decode cX0_put 173 = .ok (.goto 16, 3) := by decide +kernel
theorem dX0_put_176 : decode cX0_put 176 = .ok (.aload_n 0, 1) := by decide +kernel
theorem dX0_put_177 : decode cX0_put 177 = .ok (.getfield 22, 3) := by decide +kernel
theorem dX0_put_180 : decode cX0_put 180 = .ok (.aload_n 0, 1) := by decide +kernel
theorem dX0_put_181 : decode cX0_put 181 = .ok (.getfield 11, 3) := by decide +kernel
theorem dX0_put_184 : decode cX0_put 184 = .ok (.iconst 0, 1) := by decide +kernel
theorem dX0_put_185 : decode cX0_put 185 = .ok (.iaload, 1) := by decide +kernel
theorem dX0_put_186 : decode cX0_put 186 = .ok (.invokevirtual 111, 3) := by decide +kernel
theorem dX0_put_189 : decode cX0_put 189 = .ok (.return_, 1) := by decide +kernel
theorem dX0_readClause_0 : decode cX0_readClause 0 = .ok (.aload_n 0, 1) := by decide +kernel
theorem dX0_readClause_1 : decode cX0_readClause 1 = .ok (.getfield 26, 3) := by decide +kernel
theorem dX0_readClause_4 : decode cX0_readClause 4 = .ok (.getfield 41, 3) := by decide +kernel
theorem dX0_readClause_7 : decode cX0_readClause 7 = .ok (.invokestatic 52, 3) := by decide +kernel
theorem dX0_readClause_10 : decode cX0_readClause 10 = .ok (.istore_n 2, 1) := by decide +kernel
theorem dX0_readClause_11 : decode cX0_readClause 11 = .ok (.iload_n 2, 1) := by decide +kernel
theorem dX0_readClause_12 : decode cX0_readClause 12 = .ok (.iconst (-1), 1) := by decide +kernel
theorem dX0_readClause_13 : decode cX0_readClause 13 = .ok (.if_icmp .ne 9, 3) := by decide +kernel
theorem dX0_readClause_16 : decode cX0_readClause 16 = .ok (.aload_n 0, 1) := by decide +kernel
theorem dX0_readClause_17 : decode cX0_readClause 17 = .ok (.iconst 0, 1) := by decide +kernel
theorem dX0_readClause_18 : decode cX0_readClause 18 = .ok (.invokevirtual 46, 3) := by decide +kernel
theorem dX0_readClause_21 : decode cX0_readClause 21 = .ok (.ireturn, 1) := by decide +kernel
theorem dX0_readClause_22 : decode cX0_readClause 22 = .ok (.iload_n 2, 1) := by decide +kernel
theorem dX0_readClause_23 : decode cX0_readClause 23 = .ok (.ifCond .ne 7, 3) := by decide +kernel
theorem dX0_readClause_26 : decode cX0_readClause 26 = .ok (.iconst 1, 1) := by decide +kernel
theorem dX0_readClause_27 : decode cX0_readClause 27 = .ok (.goto 4, 3) := by decide +kernel
theorem dX0_readClause_30 : decode cX0_readClause 30 = .ok (.iconst 0, 1) := by decide +kernel
theorem dX0_readClause_31 : decode cX0_readClause 31 = .ok (.iload_n 1, 1) := by decide +kernel
theorem dX0_readClause_32 : decode cX0_readClause 32 = .ok (.ifCond .ne 7, 3) := by decide +kernel
theorem dX0_readClause_35 : decode cX0_readClause 35 = .ok (.iconst 1, 1) := by decide +kernel
theorem dX0_readClause_36 : decode cX0_readClause 36 = .ok (.goto 4, 3) := by decide +kernel
theorem dX0_readClause_39 : decode cX0_readClause 39 = .ok (.iconst 0, 1) := by decide +kernel
theorem dX0_readClause_40 : decode cX0_readClause 40 = .ok (.if_icmp .ne 7, 3) := by decide +kernel
theorem dX0_readClause_43 : decode cX0_readClause 43 = .ok (.iconst 1, 1) := by decide +kernel
theorem dX0_readClause_44 : decode cX0_readClause 44 = .ok (.goto 4, 3) := by decide +kernel
theorem dX0_readClause_47 : decode cX0_readClause 47 = .ok (.iconst 0, 1) := by decide +kernel
theorem dX0_readClause_48 : decode cX0_readClause 48 = .ok (.istore_n 3, 1) := by decide +kernel
theorem dX0_readClause_49 : decode cX0_readClause 49 = .ok (.iload_n 1, 1) := by decide +kernel
theorem dX0_readClause_50 : decode cX0_readClause 50 = .ok (.bipush 40, 2) := by decide +kernel
theorem dX0_readClause_52 : decode cX0_readClause 52 = .ok (.if_icmp .ge 15, 3) := by decide +kernel
theorem dX0_readClause_55 : decode cX0_readClause 55 = .ok (.iload_n 3, 1) := by decide +kernel
theorem dX0_readClause_56 : decode cX0_readClause 56 = .ok (.ifCond .eq 11, 3) := by decide +kernel
theorem dX0_readClause_59 : decode cX0_readClause 59 = .ok (.aload_n 0, 1) := by decide +kernel
theorem dX0_readClause_60 : decode cX0_readClause 60 = .ok (.iload_n 2, 1) := by decide +kernel
theorem dX0_readClause_61 : decode cX0_readClause 61 = .ok (.invokevirtual 56, 3) := by decide +kernel
theorem dX0_readClause_64 : decode cX0_readClause 64 = .ok (.ifCond .eq 9, 3) := by decide +kernel
theorem dX0_readClause_67 : decode cX0_readClause 67 = .ok (.aload_n 0, 1) := by decide +kernel
theorem dX0_readClause_68 : decode cX0_readClause 68 = .ok (.iconst 4, 1) := by decide +kernel
theorem dX0_readClause_69 : decode cX0_readClause 69 = .ok (.invokevirtual 46, 3) := by decide +kernel
theorem dX0_readClause_72 : decode cX0_readClause 72 = .ok (.ireturn, 1) := by decide +kernel
theorem dX0_readClause_73 : decode cX0_readClause 73 = .ok (.aload_n 0, 1) := by decide +kernel
theorem dX0_readClause_74 : decode cX0_readClause 74 = .ok (.getfield 26, 3) := by decide +kernel
theorem dX0_readClause_77 : decode cX0_readClause 77 = .ok (.invokevirtual 49, 3) := by decide +kernel
theorem dX0_readClause_80 : decode cX0_readClause 80 = .ok (.iconst 0, 1) := by decide +kernel
theorem dX0_readClause_81 : decode cX0_readClause 81 = .ok (.istore 4, 2) := by decide +kernel
theorem dX0_readClause_83 : decode cX0_readClause 83 = .ok (.iload 4, 2) := by decide +kernel
theorem dX0_readClause_85 : decode cX0_readClause 85 = .ok (.getstatic 59, 3) := by decide +kernel
theorem dX0_readClause_88 : decode cX0_readClause 88 = .ok (.iload_n 2, 1) := by decide +kernel
theorem dX0_readClause_89 : decode cX0_readClause 89 = .ok (.iaload, 1) := by decide +kernel
theorem dX0_readClause_90 : decode cX0_readClause 90 = .ok (.if_icmp .ge 21, 3) := by decide +kernel
theorem dX0_readClause_93 : decode cX0_readClause 93 = .ok (.aload_n 0, 1) := by decide +kernel
theorem dX0_readClause_94 : decode cX0_readClause 94 = .ok (.iload_n 2, 1) := by decide +kernel
theorem dX0_readClause_95 : decode cX0_readClause 95 = .ok (.iload 4, 2) := by decide +kernel
theorem dX0_readClause_97 : decode cX0_readClause 97 = .ok (.invokevirtual 62, 3) := by decide +kernel
theorem dX0_readClause_100 : decode cX0_readClause 100 = .ok (.ifCond .ne 5, 3) := by decide +kernel
theorem dX0_readClause_103 : decode cX0_readClause 103 = .ok (.iconst 0, 1) := by decide +kernel
theorem dX0_readClause_104 : decode cX0_readClause 104 = .ok (.ireturn, 1) := by decide +kernel
theorem dX0_readClause_105 : decode cX0_readClause 105 = .ok (.iinc 4 1, 3) := by decide +kernel
theorem dX0_readClause_108 : decode cX0_readClause 108 = .ok (.goto (-25), 3) := by decide +kernel
theorem dX0_readClause_111 : decode cX0_readClause 111 = .ok (.aload_n 0, 1) := by decide +kernel
theorem dX0_readClause_112 : decode cX0_readClause 112 = .ok (.iload_n 2, 1) := by decide +kernel
theorem dX0_readClause_113 : decode cX0_readClause 113 = .ok (.invokevirtual 66, 3) := by decide +kernel
theorem dX0_readClause_116 : decode cX0_readClause 116 = .ok (.iconst 1, 1) := by decide +kernel
theorem dX0_readClause_117 : decode cX0_readClause 117 = .ok (.ireturn, 1) := by decide +kernel
theorem dX0_read_0 : decode cX0_read 0 = .ok (.aload_n 0, 1) := by decide +kernel
theorem dX0_read_1 : decode cX0_read 1 = .ok (.getfield 22, 3) := by decide +kernel
theorem dX0_read_4 : decode cX0_read 4 = .ok (.invokevirtual 30, 3) := by decide +kernel
theorem dX0_read_7 : decode cX0_read 7 = .ok (.aload_n 0, 1) := by decide +kernel
theorem dX0_read_8 : decode cX0_read 8 = .ok (.getfield 22, 3) := by decide +kernel
theorem dX0_read_11 : decode cX0_read 11 = .ok (.iconst 1, 1) := by decide +kernel
theorem dX0_read_12 : decode cX0_read 12 = .ok (.putfield 33, 3) := by decide +kernel
theorem dX0_read_15 : decode cX0_read 15 = .ok (.aload_n 0, 1) := by decide +kernel
theorem dX0_read_16 : decode cX0_read 16 = .ok (.iconst 0, 1) := by decide +kernel
theorem dX0_read_17 : decode cX0_read 17 = .ok (.putfield 15, 3) := by decide +kernel
theorem dX0_read_20 : decode cX0_read 20 = .ok (.iconst 0, 1) := by decide +kernel
theorem dX0_read_21 : decode cX0_read 21 = .ok (.istore_n 1, 1) := by decide +kernel
theorem dX0_read_22 : decode cX0_read 22 = .ok (.iload_n 1, 1) := by decide +kernel
theorem dX0_read_23 : decode cX0_read 23 = .ok (.bipush 40, 2) := by decide +kernel
theorem dX0_read_25 : decode cX0_read 25 = .ok (.if_icmp .gt 66, 3) := by decide +kernel
theorem dX0_read_28 : decode cX0_read 28 = .ok (.aload_n 0, 1) := by decide +kernel
theorem dX0_read_29 : decode cX0_read 29 = .ok (.iload_n 1, 1) := by decide +kernel
theorem dX0_read_30 : decode cX0_read 30 = .ok (.invokevirtual 37, 3) := by decide +kernel
theorem dX0_read_33 : decode cX0_read 33 = .ok (.ifCond .ne 8, 3) := by decide +kernel
theorem dX0_read_36 : decode cX0_read 36 = .ok (.aload_n 0, 1) := by decide +kernel
theorem dX0_read_37 : decode cX0_read 37 = .ok (.getfield 15, 3) := by decide +kernel
theorem dX0_read_40 : decode cX0_read 40 = .ok (.ireturn, 1) := by decide +kernel
theorem dX0_read_41 : decode cX0_read 41 = .ok (.aload_n 0, 1) := by decide +kernel
theorem dX0_read_42 : decode cX0_read 42 = .ok (.getfield 26, 3) := by decide +kernel
theorem dX0_read_45 : decode cX0_read 45 = .ok (.getfield 41, 3) := by decide +kernel
theorem dX0_read_48 : decode cX0_read 48 = .ok (.bipush 23, 2) := by decide +kernel
theorem dX0_read_50 : decode cX0_read 50 = .ok (.if_icmp .ne 5, 3) := by decide +kernel
theorem dX0_read_53 : decode cX0_read 53 = .ok (.iconst 0, 1) := by decide +kernel
theorem dX0_read_54 : decode cX0_read 54 = .ok (.ireturn, 1) := by decide +kernel
theorem dX0_read_55 : decode cX0_read 55 = .ok (.aload_n 0, 1) := by decide +kernel
theorem dX0_read_56 : decode cX0_read 56 = .ok (.getfield 26, 3) := by decide +kernel
theorem dX0_read_59 : decode cX0_read 59 = .ok (.getfield 41, 3) := by decide +kernel
theorem dX0_read_62 : decode cX0_read 62 = .ok (.bipush 25, 2) := by decide +kernel
theorem dX0_read_64 : decode cX0_read 64 = .ok (.if_icmp .eq 14, 3) := by decide +kernel
theorem dX0_read_67 : decode cX0_read 67 = .ok (.aload_n 0, 1) := by decide +kernel
theorem dX0_read_68 : decode cX0_read 68 = .ok (.iconst 0, 1) := by decide +kernel
theorem dX0_read_69 : decode cX0_read 69 = .ok (.invokevirtual 46, 3) := by decide +kernel
theorem dX0_read_72 : decode cX0_read 72 = .ok (.pop, 1) := by decide +kernel
theorem dX0_read_73 : decode cX0_read 73 = .ok (.aload_n 0, 1) := by decide +kernel
theorem dX0_read_74 : decode cX0_read 74 = .ok (.getfield 15, 3) := by decide +kernel
theorem dX0_read_77 : decode cX0_read 77 = .ok (.ireturn, 1) := by decide +kernel
theorem dX0_read_78 : decode cX0_read 78 = .ok (.aload_n 0, 1) := by decide +kernel
theorem dX0_read_79 : decode cX0_read 79 = .ok (.getfield 26, 3) := by decide +kernel
theorem dX0_read_82 : decode cX0_read 82 = .ok (.invokevirtual 49, 3) := by decide +kernel
theorem dX0_read_85 : decode cX0_read 85 = .ok (.iinc 1 1, 3) := by decide +kernel
theorem dX0_read_88 : decode cX0_read 88 = .ok (.goto (-66), 3) := by decide +kernel
theorem dX0_read_91 : decode cX0_read 91 = .ok (.aload_n 0, 1) := by decide +kernel
theorem dX0_read_92 : decode cX0_read 92 = .ok (.getfield 15, 3) := by decide +kernel
theorem dX0_read_95 : decode cX0_read 95 = .ok (.ireturn, 1) := by decide +kernel
theorem dX1_copyFrom_0 : decode cX1_copyFrom 0 = .ok (.aload_n 0, 1) := by decide +kernel
theorem dX1_copyFrom_1 : decode cX1_copyFrom 1 = .ok (.aload_n 1, 1) := by decide +kernel
theorem dX1_copyFrom_2 : decode cX1_copyFrom 2 = .ok (.getfield 9, 3) := by decide +kernel
theorem dX1_copyFrom_5 : decode cX1_copyFrom 5 = .ok (.putfield 9, 3) := by decide +kernel
theorem dX1_copyFrom_8 : decode cX1_copyFrom 8 = .ok (.aload_n 0, 1) := by decide +kernel
theorem dX1_copyFrom_9 : decode cX1_copyFrom 9 = .ok (.aload_n 1, 1) := by decide +kernel
theorem dX1_copyFrom_10 : decode cX1_copyFrom 10 = .ok (.getfield 15, 3) := by decide +kernel
theorem dX1_copyFrom_13 : decode cX1_copyFrom 13 = .ok (.putfield 15, 3) := by decide +kernel
theorem dX1_copyFrom_16 : decode cX1_copyFrom 16 = .ok (.aload_n 0, 1) := by decide +kernel
theorem dX1_copyFrom_17 : decode cX1_copyFrom 17 = .ok (.aload_n 1, 1) := by decide +kernel
theorem dX1_copyFrom_18 : decode cX1_copyFrom 18 = .ok (.getfield 19, 3) := by decide +kernel
theorem dX1_copyFrom_21 : decode cX1_copyFrom 21 = .ok (.putfield 19, 3) := by decide +kernel
theorem dX1_copyFrom_24 : decode cX1_copyFrom 24 = .ok (.aload_n 0, 1) := by decide +kernel
theorem dX1_copyFrom_25 : decode cX1_copyFrom 25 = .ok (.aload_n 1, 1) := by decide +kernel
theorem dX1_copyFrom_26 : decode cX1_copyFrom 26 = .ok (.getfield 22, 3) := by decide +kernel
theorem dX1_copyFrom_29 : decode cX1_copyFrom 29 = .ok (.putfield 22, 3) := by decide +kernel
theorem dX1_copyFrom_32 : decode cX1_copyFrom 32 = .ok (.aload_n 0, 1) := by decide +kernel
theorem dX1_copyFrom_33 : decode cX1_copyFrom 33 = .ok (.aload_n 1, 1) := by decide +kernel
theorem dX1_copyFrom_34 : decode cX1_copyFrom 34 = .ok (.getfield 25, 3) := by decide +kernel
theorem dX1_copyFrom_37 : decode cX1_copyFrom 37 = .ok (.putfield 25, 3) := by decide +kernel
theorem dX1_copyFrom_40 : decode cX1_copyFrom 40 = .ok (.aload_n 0, 1) := by decide +kernel
theorem dX1_copyFrom_41 : decode cX1_copyFrom 41 = .ok (.aload_n 1, 1) := by decide +kernel
theorem dX1_copyFrom_42 : decode cX1_copyFrom 42 = .ok (.getfield 28, 3) := by decide +kernel
theorem dX1_copyFrom_45 : decode cX1_copyFrom 45 = .ok (.putfield 28, 3) := by decide +kernel
theorem dX1_copyFrom_48 : decode cX1_copyFrom 48 = .ok (.aload_n 0, 1) := by decide +kernel
theorem dX1_copyFrom_49 : decode cX1_copyFrom 49 = .ok (.aload_n 1, 1) := by decide +kernel
theorem dX1_copyFrom_50 : decode cX1_copyFrom 50 = .ok (.getfield 31, 3) := by decide +kernel
theorem dX1_copyFrom_53 : decode cX1_copyFrom 53 = .ok (.putfield 31, 3) := by decide +kernel
theorem dX1_copyFrom_56 : decode cX1_copyFrom 56 = .ok (.aload_n 0, 1) := by decide +kernel
theorem dX1_copyFrom_57 : decode cX1_copyFrom 57 = .ok (.aload_n 1, 1) := by decide +kernel
theorem dX1_copyFrom_58 : decode cX1_copyFrom 58 = .ok (.getfield 34, 3) := by decide +kernel
theorem dX1_copyFrom_61 : decode cX1_copyFrom 61 = .ok (.putfield 34, 3) := by decide +kernel
theorem dX1_copyFrom_64 : decode cX1_copyFrom 64 = .ok (.aload_n 1, 1) := by decide +kernel
theorem dX1_copyFrom_65 : decode cX1_copyFrom 65 = .ok (.getfield 37, 3) := by decide +kernel
theorem dX1_copyFrom_68 : decode cX1_copyFrom 68 = .ok (.iconst 0, 1) := by decide +kernel
theorem dX1_copyFrom_69 : decode cX1_copyFrom 69 = .ok (.aload_n 0, 1) := by decide +kernel
theorem dX1_copyFrom_70 : decode cX1_copyFrom 70 = .ok (.getfield 37, 3) := by decide +kernel
theorem dX1_copyFrom_73 : decode cX1_copyFrom 73 = .ok (.iconst 0, 1) := by decide +kernel
theorem dX1_copyFrom_74 : decode cX1_copyFrom 74 = .ok (.bipush 8, 2) := by decide +kernel
theorem dX1_copyFrom_76 : decode cX1_copyFrom 76 = .ok (.invokestatic 53, 3) := by decide +kernel
theorem dX1_copyFrom_79 : decode cX1_copyFrom 79 = .ok (.aload_n 1, 1) := by decide +kernel
theorem dX1_copyFrom_80 : decode cX1_copyFrom 80 = .ok (.getfield 41, 3) := by decide +kernel
theorem dX1_copyFrom_83 : decode cX1_copyFrom 83 = .ok (.iconst 0, 1) := by decide +kernel
theorem dX1_copyFrom_84 : decode cX1_copyFrom 84 = .ok (.aload_n 0, 1) := by decide +kernel
theorem dX1_copyFrom_85 : decode cX1_copyFrom 85 = .ok (.getfield 41, 3) := by decide +kernel
theorem dX1_copyFrom_88 : decode cX1_copyFrom 88 = .ok (.iconst 0, 1) := by decide +kernel
theorem dX1_copyFrom_89 : decode cX1_copyFrom 89 = .ok (.bipush 8, 2) := by decide +kernel
theorem dX1_copyFrom_91 : decode cX1_copyFrom 91 = .ok (.invokestatic 53, 3) := by decide +kernel
theorem dX1_copyFrom_94 : decode cX1_copyFrom 94 = .ok (.aload_n 1, 1) := by decide +kernel
theorem dX1_copyFrom_95 : decode cX1_copyFrom 95 = .ok (.getfield 44, 3) := by decide +kernel
theorem dX1_copyFrom_98 : decode cX1_copyFrom 98 = .ok (.iconst 0, 1) := by decide +kernel
theorem dX1_copyFrom_99 : decode cX1_copyFrom 99 = .ok (.aload_n 0, 1) := by decide +kernel
theorem dX1_copyFrom_100 : decode cX1_copyFrom 100 = .ok (.getfield 44, 3) := by decide +kernel
theorem dX1_copyFrom_103 : decode cX1_copyFrom 103 = .ok (.iconst 0, 1) := by decide +kernel
theorem dX1_copyFrom_104 : decode cX1_copyFrom 104 = .ok (.iconst 3, 1) := by decide +kernel
theorem dX1_copyFrom_105 : decode cX1_copyFrom 105 = .ok (.invokestatic 53, 3) := by decide +kernel
theorem dX1_copyFrom_108 : decode cX1_copyFrom 108 = .ok (.aload_n 1, 1) := by decide +kernel
theorem dX1_copyFrom_109 : decode cX1_copyFrom 109 = .ok (.getfield 47, 3) := by decide +kernel
theorem dX1_copyFrom_112 : decode cX1_copyFrom 112 = .ok (.iconst 0, 1) := by decide +kernel
theorem dX1_copyFrom_113 : decode cX1_copyFrom 113 = .ok (.aload_n 0, 1) := by decide +kernel
theorem dX1_copyFrom_114 : decode cX1_copyFrom 114 = .ok (.getfield 47, 3) := by decide +kernel
theorem dX1_copyFrom_117 : decode cX1_copyFrom 117 = .ok (.iconst 0, 1) := by decide +kernel
theorem dX1_copyFrom_118 : decode cX1_copyFrom 118 = .ok (.bipush 6, 2) := by decide +kernel
theorem dX1_copyFrom_120 : decode cX1_copyFrom 120 = .ok (.invokestatic 53, 3) := by decide +kernel
theorem dX1_copyFrom_123 : decode cX1_copyFrom 123 = .ok (.aload_n 1, 1) := by decide +kernel
theorem dX1_copyFrom_124 : decode cX1_copyFrom 124 = .ok (.getfield 50, 3) := by decide +kernel
theorem dX1_copyFrom_127 : decode cX1_copyFrom 127 = .ok (.iconst 0, 1) := by decide +kernel
theorem dX1_copyFrom_128 : decode cX1_copyFrom 128 = .ok (.aload_n 0, 1) := by decide +kernel
theorem dX1_copyFrom_129 : decode cX1_copyFrom 129 = .ok (.getfield 50, 3) := by decide +kernel
theorem dX1_copyFrom_132 : decode cX1_copyFrom 132 = .ok (.iconst 0, 1) := by decide +kernel
theorem dX1_copyFrom_133 : decode cX1_copyFrom 133 = .ok (.bipush 41, 2) := by decide +kernel
theorem dX1_copyFrom_135 : decode cX1_copyFrom 135 = .ok (.invokestatic 53, 3) := by decide +kernel
theorem dX1_copyFrom_138 : decode cX1_copyFrom 138 = .ok (.return_, 1) := by decide +kernel
theorem dX1_hasSnow_0 : decode cX1_hasSnow 0 = .ok (.iconst 0, 1) := by decide +kernel
theorem dX1_hasSnow_1 : decode cX1_hasSnow 1 = .ok (.istore_n 2, 1) := by decide +kernel
theorem dX1_hasSnow_2 : decode cX1_hasSnow 2 = .ok (.iload_n 2, 1) := by decide +kernel
theorem dX1_hasSnow_3 : decode cX1_hasSnow 3 = .ok (.aload_n 0, 1) := by decide +kernel
theorem dX1_hasSnow_4 : decode cX1_hasSnow 4 = .ok (.getfield 34, 3) := by decide +kernel
theorem dX1_hasSnow_7 : decode cX1_hasSnow 7 = .ok (.if_icmp .ge 21, 3) := by decide +kernel
theorem dX1_hasSnow_10 : decode cX1_hasSnow 10 = .ok (.aload_n 0, 1) := by decide +kernel
theorem dX1_hasSnow_11 : decode cX1_hasSnow 11 = .ok (.getfield 47, 3) := by decide +kernel
theorem dX1_hasSnow_14 : decode cX1_hasSnow 14 = .ok (.iload_n 2, 1) := by decide +kernel
theorem dX1_hasSnow_15 : decode cX1_hasSnow 15 = .ok (.iaload, 1) := by decide +kernel
theorem dX1_hasSnow_16 : decode cX1_hasSnow 16 = .ok (.iload_n 1, 1) := by decide +kernel
theorem dX1_hasSnow_17 : decode cX1_hasSnow 17 = .ok (.if_icmp .ne 5, 3) := by decide +kernel
theorem dX1_hasSnow_20 : decode cX1_hasSnow 20 = .ok (.iconst 1, 1) := by decide +kernel
theorem dX1_hasSnow_21 : decode cX1_hasSnow 21 = .ok (.ireturn, 1) := by decide +kernel
theorem dX1_hasSnow_22 : decode cX1_hasSnow 22 = .ok (.iinc 2 1, 3) := by decide +kernel
theorem dX1_hasSnow_25 : decode cX1_hasSnow 25 = .ok (.goto (-23), 3) := by decide +kernel
theorem dX1_hasSnow_28 : decode cX1_hasSnow 28 = .ok (.iconst 0, 1) := by decide +kernel
theorem dX1_hasSnow_29 : decode cX1_hasSnow 29 = .ok (.ireturn, 1) := by decide +kernel
theorem dX2_settle_0 : decode cX2_settle 0 = .ok (.aload_n 0, 1) := by decide +kernel
theorem dX2_settle_1 : decode cX2_settle 1 = .ok (.getfield 12, 3) := by decide +kernel
theorem dX2_settle_4 : decode cX2_settle 4 = .ok (.aload_n 1, 1) := by decide +kernel
theorem dX2_settle_5 : decode cX2_settle 5 = .ok (.invokevirtual 47, 3) := by decide +kernel
theorem dX2_settle_8 : decode cX2_settle 8 = .ok (.aload_n 1, 1) := by decide +kernel
theorem dX2_settle_9 : decode cX2_settle 9 = .ok (.getfield 51, 3) := by decide +kernel
theorem dX2_settle_12 : decode cX2_settle 12 = .ok (.iconst 0, 1) := by decide +kernel
theorem dX2_settle_13 : decode cX2_settle 13 = .ok (.aload_n 0, 1) := by decide +kernel
theorem dX2_settle_14 : decode cX2_settle 14 = .ok (.getfield 18, 3) := by decide +kernel
theorem dX2_settle_17 : decode cX2_settle 17 = .ok (.iconst 0, 1) := by decide +kernel
theorem dX2_settle_18 : decode cX2_settle 18 = .ok (.bipush 41, 2) := by decide +kernel
theorem dX2_settle_20 : decode cX2_settle 20 = .ok (.invokestatic 54, 3) := by decide +kernel
theorem dX2_settle_23 : decode cX2_settle 23 = .ok (.aload_n 0, 1) := by decide +kernel
theorem dX2_settle_24 : decode cX2_settle 24 = .ok (.iconst 0, 1) := by decide +kernel
theorem dX2_settle_25 : decode cX2_settle 25 = .ok (.putfield 25, 3) := by decide +kernel
theorem dX2_settle_28 : decode cX2_settle 28 = .ok (.aload_n 0, 1) := by decide +kernel
theorem dX2_settle_29 : decode cX2_settle 29 = .ok (.iconst 0, 1) := by decide +kernel
theorem dX2_settle_30 : decode cX2_settle 30 = .ok (.putfield 38, 3) := by decide +kernel
theorem dX2_settle_33 : decode cX2_settle 33 = .ok (.return_, 1) := by decide +kernel
def fX1_clear_L63 (b : Nat) : Nat → Int32 → St → Option St
  | 0, _, _ => none
  | n + 1, y1, st => if (41 : Int32) ≤ y1 then (some st) else (gd (ix y1 41) (nm (ui st (b + 13) y1.toNatClampNeg (0 : Int32)) (fun s3 => nm (y1 + (1 : Int32)) (fun x4 => (fX1_clear_L63 b n) x4 s3))))
set_option maxRecDepth 100000 in
theorem wX1_clear_L63 {p : Program} {l : Launch} {e : Env} {s : State} {m : MethodId} {args : Array Value} {below : List Frame} {meth : Method} {c : Code} {E : Ev} (hL : ∀ k, fxC k = true → k ∈ eL E) {b : Nat} (hbs : okL E b) {sz : Nat} {res : St} (X : CX p s m args c E RX1 cX1_clear 2 (Af E sz)) (hr : meth.sig.returnType = none) (hlk : meth.locks = false) : ∀ (n : Nat) (y1 : Int32) (st : St) (H : Heap) (locs : List Loc), fX1_clear_L63 b  n y1 st = some res → Gd E st (Af E sz) s H locs → ∀ ls : Array Slot, lv_has ls 2 [(0, .ref (eq E b)), (1, .int y1)] → W p l e (rmk 0) s m args below meth c H locs 0 0 (MQ below (QWv E res sz) args s 0 0 (Af E sz)) (F0 m 63 ls []) := by
  have hx := X.1.1
  have hb := X.1.2.1
  intro n
  induction n with
  | zero =>
    intro y1 st H locs hf G ls hl
    cases (show (none : Option St) = some res from hf)
  | succ n ih =>
    intro y1 st H locs hf G ls hl
    rw [fX1_clear_L63] at hf
    refine lv_iload_n hx hb dX1_clear_63 rfl (lv_at hl 1 rfl) ?_
    refine lv_bipush (v := (41 : Int32)) hx hb dX1_clear_64 (by decide) ?_
    refine lv_icmp_ge (tgt := 82) hx hb dX1_clear_66 (by decide) (fun c1 => ?_) (fun c1 => ?_)
    · have hf := it_t hf c1
      exact rtWv X hlk G hr (so_i hf) dX1_clear_82
    · have hf := it_f hf c1
      refine lv_aload_n hx hb dX1_clear_69 rfl (lv_at hl 0 rfl) ?_
      refine gf1 X G ((hbs 0 (by decide)).2 (by decide)) (hbs 0 (by decide)).1 12 (by decide) rfl kf_X1_50 iwX1 dX1_clear_70 ?_
      refine lv_iload_n hx hb dX1_clear_73 rfl (lv_at hl 1 rfl) ?_
      refine lv_iconst (v := (0 : Int32)) hx hb dX1_clear_74 (by decide) ?_
      obtain ⟨h2, hf⟩ := gd_s hf
      refine ia_st (k := (b + 13)) (n := 41) X G ((hbs 13 (by decide)).2 (by decide)) (hbs 13 (by decide)).1 (by decide) (ix_in h2) dX1_clear_75 (fun s3 es3 H locs G => ?_)
      have hf := nm_s hf s3 es3
      obtain ⟨x4, ex4⟩ : ∃ y : Int32, y = (y1 + (1 : Int32)) := ⟨_, rfl⟩
      have hf := nm_s hf x4 ex4
      refine lv_iinc (k := 1) (v := x4) (lv' := [(1, .int x4), (0, .ref (eq E b))]) hx hb dX1_clear_76 hl rfl (by rw [ex4]; rfl) (by decide) rfl (fun ls hl => ?_)
      refine lv_goto (tgt := 63) hx hb dX1_clear_79 (by decide) ?_
      exact ih x4 s3 _ _ hf G _ (lv_sub hl [1, 0] rfl)
def fX1_clear_L42 (b : Nat) : Nat → Int32 → St → Option St
  | 0, _, _ => none
  | n + 1, y1, st => if (8 : Int32) ≤ y1 then (fX1_clear_L63 b 10000 (0 : Int32) st) else (gd (ix y1 8) (nm (ui st (b + 10) y1.toNatClampNeg (0 : Int32)) (fun s3 => nm (y1 + (1 : Int32)) (fun x4 => (fX1_clear_L42 b n) x4 s3))))
set_option maxRecDepth 100000 in
theorem wX1_clear_L42 {p : Program} {l : Launch} {e : Env} {s : State} {m : MethodId} {args : Array Value} {below : List Frame} {meth : Method} {c : Code} {E : Ev} (hL : ∀ k, fxC k = true → k ∈ eL E) {b : Nat} (hbs : okL E b) {sz : Nat} {res : St} (X : CX p s m args c E RX1 cX1_clear 2 (Af E sz)) (hr : meth.sig.returnType = none) (hlk : meth.locks = false) : ∀ (n : Nat) (y1 : Int32) (st : St) (H : Heap) (locs : List Loc), fX1_clear_L42 b  n y1 st = some res → Gd E st (Af E sz) s H locs → ∀ ls : Array Slot, lv_has ls 2 [(0, .ref (eq E b)), (1, .int y1)] → W p l e (rmk 0) s m args below meth c H locs 0 0 (MQ below (QWv E res sz) args s 0 0 (Af E sz)) (F0 m 42 ls []) := by
  have hx := X.1.1
  have hb := X.1.2.1
  intro n
  induction n with
  | zero =>
    intro y1 st H locs hf G ls hl
    cases (show (none : Option St) = some res from hf)
  | succ n ih =>
    intro y1 st H locs hf G ls hl
    rw [fX1_clear_L42] at hf
    refine lv_iload_n hx hb dX1_clear_42 rfl (lv_at hl 1 rfl) ?_
    refine lv_bipush (v := (8 : Int32)) hx hb dX1_clear_43 (by decide) ?_
    refine lv_icmp_ge (tgt := 61) hx hb dX1_clear_45 (by decide) (fun c1 => ?_) (fun c1 => ?_)
    · have hf := it_t hf c1
      refine lv_iconst (v := (0 : Int32)) hx hb dX1_clear_61 (by decide) ?_
      refine lv_istore_n (lv' := [(1, .int (0 : Int32)), (0, .ref (eq E b))]) hx hb dX1_clear_62 rfl hl (by decide) rfl (fun ls hl => ?_)
      exact wX1_clear_L63 hL hbs X hr hlk 10000 (0 : Int32) st _ _ hf G _ (lv_sub hl [1, 0] rfl)
    · have hf := it_f hf c1
      refine lv_aload_n hx hb dX1_clear_48 rfl (lv_at hl 0 rfl) ?_
      refine gf1 X G ((hbs 0 (by decide)).2 (by decide)) (hbs 0 (by decide)).1 9 (by decide) rfl kf_X1_41 iwX1 dX1_clear_49 ?_
      refine lv_iload_n hx hb dX1_clear_52 rfl (lv_at hl 1 rfl) ?_
      refine lv_iconst (v := (0 : Int32)) hx hb dX1_clear_53 (by decide) ?_
      obtain ⟨h2, hf⟩ := gd_s hf
      refine ia_st (k := (b + 10)) (n := 8) X G ((hbs 10 (by decide)).2 (by decide)) (hbs 10 (by decide)).1 (by decide) (ix_in h2) dX1_clear_54 (fun s3 es3 H locs G => ?_)
      have hf := nm_s hf s3 es3
      obtain ⟨x4, ex4⟩ : ∃ y : Int32, y = (y1 + (1 : Int32)) := ⟨_, rfl⟩
      have hf := nm_s hf x4 ex4
      refine lv_iinc (k := 1) (v := x4) (lv' := [(1, .int x4), (0, .ref (eq E b))]) hx hb dX1_clear_55 hl rfl (by rw [ex4]; rfl) (by decide) rfl (fun ls hl => ?_)
      refine lv_goto (tgt := 42) hx hb dX1_clear_58 (by decide) ?_
      exact ih x4 s3 _ _ hf G _ (lv_sub hl [1, 0] rfl)
def fX1_clear (b : Nat) (st : St) : Option St := nm (ui st b 0 (0 : Int32)) (fun s1 => nm (ui s1 b 1 (0 : Int32)) (fun s2 => nm (ui s2 b 2 (0 : Int32)) (fun s3 => nm (ui s3 b 3 (0 : Int32)) (fun s4 => nm (ui s4 b 4 (0 : Int32)) (fun s5 => nm (ui s5 b 5 (0 : Int32)) (fun s6 => nm (ui s6 b 6 (0 : Int32)) (fun s7 => nm (ui s7 b 7 (0 : Int32)) (fun s8 => fX1_clear_L42 b 10000 (0 : Int32) s8))))))))
set_option maxRecDepth 100000 in
theorem tX1_clear (l : Launch) (E : Ev) (st : St) (sz : Nat) (hL : ∀ k, fxC k = true → k ∈ eL E) {b : Nat} (hbs : okL E b)  {res : St} (hf : fX1_clear b  st = some res) : Met l yX1_clear (.code yX1_clear cX1_clear 2 none :: uW) (rmk 0) (va_Pc [.ref (eq E b)] (Pre E st sz)) (QWv E res sz) 0 0 (Af E sz) := by
  refine Met_in (by decide) (Nat.le_of_ble_eq_true rfl) ?_
  intro p e s m below meth c X hr hlk hz G ls hl
  have hx := X.1.1
  have hb := X.1.2.1
  have hl : lv_has ls 2 [(0, .ref (eq E b))] := hl
  unfold fX1_clear at hf
  refine lv_aload_n hx hb dX1_clear_0 rfl (lv_at hl 0 rfl) ?_
  refine lv_iconst (v := (0 : Int32)) hx hb dX1_clear_1 (by decide) ?_
  refine pf1 X G ((hbs 0 (by decide)).2 (by decide)) (hbs 0 (by decide)).1 0 (by decide) ps1_0 uio kf_X1_9 iwX1 rfl (ty := .boolean) (by decide +kernel) rfl rfl dX1_clear_2 (fun s1 es1 H locs G => ?_)
  have hf := nm_s hf s1 es1
  refine lv_aload_n hx hb dX1_clear_5 rfl (lv_at hl 0 rfl) ?_
  refine lv_iconst (v := (0 : Int32)) hx hb dX1_clear_6 (by decide) ?_
  refine pf1 X G ((hbs 0 (by decide)).2 (by decide)) (hbs 0 (by decide)).1 1 (by decide) ps1_1 uio kf_X1_15 iwX1 rfl (ty := .int) (by decide +kernel) rfl rfl dX1_clear_7 (fun s2 es2 H locs G => ?_)
  have hf := nm_s hf s2 es2
  refine lv_aload_n hx hb dX1_clear_10 rfl (lv_at hl 0 rfl) ?_
  refine lv_iconst (v := (0 : Int32)) hx hb dX1_clear_11 (by decide) ?_
  refine pf1 X G ((hbs 0 (by decide)).2 (by decide)) (hbs 0 (by decide)).1 2 (by decide) ps1_2 uio kf_X1_19 iwX1 rfl (ty := .int) (by decide +kernel) rfl rfl dX1_clear_12 (fun s3 es3 H locs G => ?_)
  have hf := nm_s hf s3 es3
  refine lv_aload_n hx hb dX1_clear_15 rfl (lv_at hl 0 rfl) ?_
  refine lv_iconst (v := (0 : Int32)) hx hb dX1_clear_16 (by decide) ?_
  refine pf1 X G ((hbs 0 (by decide)).2 (by decide)) (hbs 0 (by decide)).1 3 (by decide) ps1_3 uio kf_X1_22 iwX1 rfl (ty := .int) (by decide +kernel) rfl rfl dX1_clear_17 (fun s4 es4 H locs G => ?_)
  have hf := nm_s hf s4 es4
  refine lv_aload_n hx hb dX1_clear_20 rfl (lv_at hl 0 rfl) ?_
  refine lv_iconst (v := (0 : Int32)) hx hb dX1_clear_21 (by decide) ?_
  refine pf1 X G ((hbs 0 (by decide)).2 (by decide)) (hbs 0 (by decide)).1 4 (by decide) ps1_4 uio kf_X1_25 iwX1 rfl (ty := .int) (by decide +kernel) rfl rfl dX1_clear_22 (fun s5 es5 H locs G => ?_)
  have hf := nm_s hf s5 es5
  refine lv_aload_n hx hb dX1_clear_25 rfl (lv_at hl 0 rfl) ?_
  refine lv_iconst (v := (0 : Int32)) hx hb dX1_clear_26 (by decide) ?_
  refine pf1 X G ((hbs 0 (by decide)).2 (by decide)) (hbs 0 (by decide)).1 5 (by decide) ps1_5 uio kf_X1_28 iwX1 rfl (ty := .int) (by decide +kernel) rfl rfl dX1_clear_27 (fun s6 es6 H locs G => ?_)
  have hf := nm_s hf s6 es6
  refine lv_aload_n hx hb dX1_clear_30 rfl (lv_at hl 0 rfl) ?_
  refine lv_iconst (v := (0 : Int32)) hx hb dX1_clear_31 (by decide) ?_
  refine pf1 X G ((hbs 0 (by decide)).2 (by decide)) (hbs 0 (by decide)).1 6 (by decide) ps1_6 uio kf_X1_31 iwX1 rfl (ty := .int) (by decide +kernel) rfl rfl dX1_clear_32 (fun s7 es7 H locs G => ?_)
  have hf := nm_s hf s7 es7
  refine lv_aload_n hx hb dX1_clear_35 rfl (lv_at hl 0 rfl) ?_
  refine lv_iconst (v := (0 : Int32)) hx hb dX1_clear_36 (by decide) ?_
  refine pf1 X G ((hbs 0 (by decide)).2 (by decide)) (hbs 0 (by decide)).1 7 (by decide) ps1_7 uio kf_X1_34 iwX1 rfl (ty := .int) (by decide +kernel) rfl rfl dX1_clear_37 (fun s8 es8 H locs G => ?_)
  have hf := nm_s hf s8 es8
  refine lv_iconst (v := (0 : Int32)) hx hb dX1_clear_40 (by decide) ?_
  refine lv_istore_n (lv' := [(1, .int (0 : Int32)), (0, .ref (eq E b))]) hx hb dX1_clear_41 rfl hl (by decide) rfl (fun ls hl => ?_)
  exact wX1_clear_L42 hL hbs X hr hlk 10000 (0 : Int32) s8 _ _ hf G _ (lv_sub hl [1, 0] rfl)
def fX0_formOf (p1 : Int32) : Option Int32 := if p1 = (0 : Int32) then (some (4 : Int32)) else (if p1 = (1 : Int32) then (some (1 : Int32)) else (if p1 = (12 : Int32) then (some (0 : Int32)) else (if p1 = (13 : Int32) then (some (2 : Int32)) else (if p1 = (14 : Int32) then (some (3 : Int32)) else (if p1 = (15 : Int32) then (some (5 : Int32)) else (some (-1 : Int32)))))))
set_option maxRecDepth 100000 in
theorem tX0_formOf (l : Launch) (E : Ev) (st : St) (sz : Nat) (p1 : Int32) {res : Int32} (hf : fX0_formOf  p1 = some res) : Met l yX0_formOf (.code yX0_formOf cX0_formOf 1 (some .int) :: uW) (rmk 0) (va_Pc [.int p1] (Pre E st sz)) (QRi res) 0 0 (NoF) := by
  refine Met_in (by decide) (Nat.le_of_ble_eq_true rfl) ?_
  intro p e s m below meth c X hr hlk hz G ls hl
  have hx := X.1.1
  have hb := X.1.2.1
  have hl : lv_has ls 1 [(0, .int p1)] := hl
  unfold fX0_formOf at hf
  refine lv_iload_n hx hb dX0_formOf_0 rfl (lv_at hl 0 rfl) ?_
  by_cases cs0 : p1 = (0 : Int32)
  · have hf := it_t hf cs0
    refine tbl_in hx hb dX0_formOf_1 cs0 (by decide) (by decide) rfl (tgt := 88) (by decide) ?_
    refine lv_iconst (v := (4 : Int32)) hx hb dX0_formOf_88 (by decide) ?_
    exact rtRi X hlk hr (so_i hf) dX0_formOf_89
  have hf := it_f hf cs0
  by_cases cs1 : p1 = (1 : Int32)
  · have hf := it_t hf cs1
    refine tbl_in hx hb dX0_formOf_1 cs1 (by decide) (by decide) rfl (tgt := 82) (by decide) ?_
    refine lv_iconst (v := (1 : Int32)) hx hb dX0_formOf_82 (by decide) ?_
    exact rtRi X hlk hr (so_i hf) dX0_formOf_83
  have hf := it_f hf cs1
  by_cases cs12 : p1 = (12 : Int32)
  · have hf := it_t hf cs12
    refine tbl_in hx hb dX0_formOf_1 cs12 (by decide) (by decide) rfl (tgt := 80) (by decide) ?_
    refine lv_iconst (v := (0 : Int32)) hx hb dX0_formOf_80 (by decide) ?_
    exact rtRi X hlk hr (so_i hf) dX0_formOf_81
  have hf := it_f hf cs12
  by_cases cs13 : p1 = (13 : Int32)
  · have hf := it_t hf cs13
    refine tbl_in hx hb dX0_formOf_1 cs13 (by decide) (by decide) rfl (tgt := 84) (by decide) ?_
    refine lv_iconst (v := (2 : Int32)) hx hb dX0_formOf_84 (by decide) ?_
    exact rtRi X hlk hr (so_i hf) dX0_formOf_85
  have hf := it_f hf cs13
  by_cases cs14 : p1 = (14 : Int32)
  · have hf := it_t hf cs14
    refine tbl_in hx hb dX0_formOf_1 cs14 (by decide) (by decide) rfl (tgt := 86) (by decide) ?_
    refine lv_iconst (v := (3 : Int32)) hx hb dX0_formOf_86 (by decide) ?_
    exact rtRi X hlk hr (so_i hf) dX0_formOf_87
  have hf := it_f hf cs14
  by_cases cs15 : p1 = (15 : Int32)
  · have hf := it_t hf cs15
    refine tbl_in hx hb dX0_formOf_1 cs15 (by decide) (by decide) rfl (tgt := 90) (by decide) ?_
    refine lv_iconst (v := (5 : Int32)) hx hb dX0_formOf_90 (by decide) ?_
    exact rtRi X hlk hr (so_i hf) dX0_formOf_91
  have hf := it_f hf cs15
  have kd : W p l e (rmk 0) s m [.int p1].toArray below meth c s.heap [] 0 0 (MQ below (QRi res) [.int p1].toArray s 0 0 (NoF)) (F0 m 92 ls []) := by
    refine lv_iconst (v := (-1 : Int32)) hx hb dX0_formOf_92 (by decide) ?_
    exact rtRi X hlk hr (so_i hf) dX0_formOf_93
  by_cases cs2 : p1 = (2 : Int32)
  · exact tbl_in hx hb dX0_formOf_1 cs2 (by decide) (by decide) rfl (tgt := 92) (by decide) kd
  by_cases cs3 : p1 = (3 : Int32)
  · exact tbl_in hx hb dX0_formOf_1 cs3 (by decide) (by decide) rfl (tgt := 92) (by decide) kd
  by_cases cs4 : p1 = (4 : Int32)
  · exact tbl_in hx hb dX0_formOf_1 cs4 (by decide) (by decide) rfl (tgt := 92) (by decide) kd
  by_cases cs5 : p1 = (5 : Int32)
  · exact tbl_in hx hb dX0_formOf_1 cs5 (by decide) (by decide) rfl (tgt := 92) (by decide) kd
  by_cases cs6 : p1 = (6 : Int32)
  · exact tbl_in hx hb dX0_formOf_1 cs6 (by decide) (by decide) rfl (tgt := 92) (by decide) kd
  by_cases cs7 : p1 = (7 : Int32)
  · exact tbl_in hx hb dX0_formOf_1 cs7 (by decide) (by decide) rfl (tgt := 92) (by decide) kd
  by_cases cs8 : p1 = (8 : Int32)
  · exact tbl_in hx hb dX0_formOf_1 cs8 (by decide) (by decide) rfl (tgt := 92) (by decide) kd
  by_cases cs9 : p1 = (9 : Int32)
  · exact tbl_in hx hb dX0_formOf_1 cs9 (by decide) (by decide) rfl (tgt := 92) (by decide) kd
  by_cases cs10 : p1 = (10 : Int32)
  · exact tbl_in hx hb dX0_formOf_1 cs10 (by decide) (by decide) rfl (tgt := 92) (by decide) kd
  by_cases cs11 : p1 = (11 : Int32)
  · exact tbl_in hx hb dX0_formOf_1 cs11 (by decide) (by decide) rfl (tgt := 92) (by decide) kd
  refine lv_tableOut (tgt := 92) hx hb dX0_formOf_1 (sw_out (fun v h1 h2 => ?_)) (by decide) kd
  rcases (show v = 0 ∨ v = 1 ∨ v = 2 ∨ v = 3 ∨ v = 4 ∨ v = 5 ∨ v = 6 ∨ v = 7 ∨ v = 8 ∨ v = 9 ∨ v = 10 ∨ v = 11 ∨ v = 12 ∨ v = 13 ∨ v = 14 ∨ v = 15 by omega) with rfl | rfl | rfl | rfl | rfl | rfl | rfl | rfl | rfl | rfl | rfl | rfl | rfl | rfl | rfl | rfl
  · exact cs0
  · exact cs1
  · exact cs2
  · exact cs3
  · exact cs4
  · exact cs5
  · exact cs6
  · exact cs7
  · exact cs8
  · exact cs9
  · exact cs10
  · exact cs11
  · exact cs12
  · exact cs13
  · exact cs14
  · exact cs15
def fX0_fail (p1 : Int32) (st : St) : Option (Int32 × St) := nm (ui st 30 2 (((1 : Int32) + ((8 : Int32) * (st.1 20 6))) + p1)) (fun s1 => some ((0 : Int32), s1))
set_option maxRecDepth 100000 in
theorem tX0_fail (l : Launch) (E : Ev) (st : St) (sz : Nat) (hL : ∀ k, fxC k = true → k ∈ eL E) (p1 : Int32) {res : (Int32 × St)} (hf : fX0_fail  p1 st = some res) : Met l yX0_fail (.code yX0_fail cX0_fail 2 (some .boolean) :: uW) (rmk 0) (va_Pc [.ref (eq E 30), .int p1] (Pre E st sz)) (QWi E res.2 sz res.1) 0 0 (Af E sz) := by
  refine Met_in (by decide) (Nat.le_of_ble_eq_true rfl) ?_
  intro p e s m below meth c X hr hlk hz G ls hl
  have hx := X.1.1
  have hb := X.1.2.1
  have hl : lv_has ls 2 [(0, .ref (eq E 30)), (1, .int p1)] := hl
  unfold fX0_fail at hf
  refine lv_aload_n hx hb dX0_fail_0 rfl (lv_at hl 0 rfl) ?_
  refine lv_iconst (v := (1 : Int32)) hx hb dX0_fail_1 (by decide) ?_
  refine lv_bipush (v := (8 : Int32)) hx hb dX0_fail_2 (by decide) ?_
  refine lv_aload_n hx hb dX0_fail_4 rfl (lv_at hl 0 rfl) ?_
  refine gf0 X G (hL 30 rfl) rfl 0 (by decide) rfl kf_X0_26 iwX0 dX0_fail_5 ?_
  refine gf7 X G (hL 20 rfl) rfl 6 (by decide) rfl kf_X0_114 iwX7 dX0_fail_8 ?_
  refine lv_imul hx hb dX0_fail_11 ?_
  refine lv_iadd hx hb dX0_fail_12 ?_
  refine lv_iload_n hx hb dX0_fail_13 rfl (lv_at hl 1 rfl) ?_
  refine lv_iadd hx hb dX0_fail_14 ?_
  refine pf0 X G (hL 30 rfl) rfl 2 (by decide) ps0_2 uio kf_X0_15 iwX0 rfl (ty := .int) (by decide +kernel) rfl rfl dX0_fail_15 (fun s1 es1 H locs G => ?_)
  have hf := nm_s hf s1 es1
  refine lv_iconst (v := (0 : Int32)) hx hb dX0_fail_18 (by decide) ?_
  exact rtWz X hlk G hr rfl (so_i hf) dX0_fail_19
def fX0_isFull (st : St) (p1 : Int32) : Option Int32 := if p1 = (1 : Int32) then (if (st.1 100 4) < (8 : Int32) then (some (0 : Int32)) else (some (1 : Int32))) else (if p1 = (2 : Int32) then (if (st.1 100 5) < (12 : Int32) then (some (0 : Int32)) else (some (1 : Int32))) else (if p1 = (4 : Int32) then (if (st.1 100 6) < (3 : Int32) then (some (0 : Int32)) else (some (1 : Int32))) else (if p1 = (5 : Int32) then (if (st.1 100 7) < (6 : Int32) then (some (0 : Int32)) else (some (1 : Int32))) else (some (0 : Int32)))))
set_option maxRecDepth 100000 in
theorem tX0_isFull (l : Launch) (E : Ev) (st : St) (sz : Nat) (hL : ∀ k, fxC k = true → k ∈ eL E) (p1 : Int32) {res : Int32} (hf : fX0_isFull st p1 = some res) : Met l yX0_isFull (.code yX0_isFull cX0_isFull 2 (some .boolean) :: uW) (rmk 0) (va_Pc [.ref (eq E 30), .int p1] (Pre E st sz)) (QRi res) 0 0 (NoF) := by
  refine Met_in (by decide) (Nat.le_of_ble_eq_true rfl) ?_
  intro p e s m below meth c X hr hlk hz G ls hl
  have hx := X.1.1
  have hb := X.1.2.1
  have hl : lv_has ls 2 [(0, .ref (eq E 30)), (1, .int p1)] := hl
  unfold fX0_isFull at hf
  refine lv_iload_n hx hb dX0_isFull_0 rfl (lv_at hl 1 rfl) ?_
  by_cases cs1 : p1 = (1 : Int32)
  · have hf := it_t hf cs1
    refine tbl_in hx hb dX0_isFull_1 cs1 (by decide) (by decide) rfl (tgt := 36) (by decide) ?_
    refine lv_aload_n hx hb dX0_isFull_36 rfl (lv_at hl 0 rfl) ?_
    refine gf0 X G (hL 30 rfl) rfl 3 (by decide) rfl kf_X0_22 iwX0 dX0_isFull_37 ?_
    refine gf1 X G (hL 100 rfl) rfl 4 (by decide) rfl kf_X0_70 iwX1 dX0_isFull_40 ?_
    refine lv_bipush (v := (8 : Int32)) hx hb dX0_isFull_43 (by decide) ?_
    refine lv_icmp_lt (tgt := 52) hx hb dX0_isFull_45 (by decide) (fun c1 => ?_) (fun c1 => ?_)
    · have hf := it_t hf c1
      refine lv_iconst (v := (0 : Int32)) hx hb dX0_isFull_52 (by decide) ?_
      exact rtRz X hlk hr rfl (so_i hf) dX0_isFull_53
    · have hf := it_f hf c1
      refine lv_iconst (v := (1 : Int32)) hx hb dX0_isFull_48 (by decide) ?_
      refine lv_goto (tgt := 53) hx hb dX0_isFull_49 (by decide) ?_
      exact rtRz X hlk hr rfl (so_i hf) dX0_isFull_53
  have hf := it_f hf cs1
  by_cases cs2 : p1 = (2 : Int32)
  · have hf := it_t hf cs2
    refine tbl_in hx hb dX0_isFull_1 cs2 (by decide) (by decide) rfl (tgt := 54) (by decide) ?_
    refine lv_aload_n hx hb dX0_isFull_54 rfl (lv_at hl 0 rfl) ?_
    refine gf0 X G (hL 30 rfl) rfl 3 (by decide) rfl kf_X0_22 iwX0 dX0_isFull_55 ?_
    refine gf1 X G (hL 100 rfl) rfl 5 (by decide) rfl kf_X0_73 iwX1 dX0_isFull_58 ?_
    refine lv_bipush (v := (12 : Int32)) hx hb dX0_isFull_61 (by decide) ?_
    refine lv_icmp_lt (tgt := 70) hx hb dX0_isFull_63 (by decide) (fun c1 => ?_) (fun c1 => ?_)
    · have hf := it_t hf c1
      refine lv_iconst (v := (0 : Int32)) hx hb dX0_isFull_70 (by decide) ?_
      exact rtRz X hlk hr rfl (so_i hf) dX0_isFull_71
    · have hf := it_f hf c1
      refine lv_iconst (v := (1 : Int32)) hx hb dX0_isFull_66 (by decide) ?_
      refine lv_goto (tgt := 71) hx hb dX0_isFull_67 (by decide) ?_
      exact rtRz X hlk hr rfl (so_i hf) dX0_isFull_71
  have hf := it_f hf cs2
  by_cases cs4 : p1 = (4 : Int32)
  · have hf := it_t hf cs4
    refine tbl_in hx hb dX0_isFull_1 cs4 (by decide) (by decide) rfl (tgt := 72) (by decide) ?_
    refine lv_aload_n hx hb dX0_isFull_72 rfl (lv_at hl 0 rfl) ?_
    refine gf0 X G (hL 30 rfl) rfl 3 (by decide) rfl kf_X0_22 iwX0 dX0_isFull_73 ?_
    refine gf1 X G (hL 100 rfl) rfl 6 (by decide) rfl kf_X0_76 iwX1 dX0_isFull_76 ?_
    refine lv_iconst (v := (3 : Int32)) hx hb dX0_isFull_79 (by decide) ?_
    refine lv_icmp_lt (tgt := 87) hx hb dX0_isFull_80 (by decide) (fun c1 => ?_) (fun c1 => ?_)
    · have hf := it_t hf c1
      refine lv_iconst (v := (0 : Int32)) hx hb dX0_isFull_87 (by decide) ?_
      exact rtRz X hlk hr rfl (so_i hf) dX0_isFull_88
    · have hf := it_f hf c1
      refine lv_iconst (v := (1 : Int32)) hx hb dX0_isFull_83 (by decide) ?_
      refine lv_goto (tgt := 88) hx hb dX0_isFull_84 (by decide) ?_
      exact rtRz X hlk hr rfl (so_i hf) dX0_isFull_88
  have hf := it_f hf cs4
  by_cases cs5 : p1 = (5 : Int32)
  · have hf := it_t hf cs5
    refine tbl_in hx hb dX0_isFull_1 cs5 (by decide) (by decide) rfl (tgt := 89) (by decide) ?_
    refine lv_aload_n hx hb dX0_isFull_89 rfl (lv_at hl 0 rfl) ?_
    refine gf0 X G (hL 30 rfl) rfl 3 (by decide) rfl kf_X0_22 iwX0 dX0_isFull_90 ?_
    refine gf1 X G (hL 100 rfl) rfl 7 (by decide) rfl kf_X0_79 iwX1 dX0_isFull_93 ?_
    refine lv_bipush (v := (6 : Int32)) hx hb dX0_isFull_96 (by decide) ?_
    refine lv_icmp_lt (tgt := 105) hx hb dX0_isFull_98 (by decide) (fun c1 => ?_) (fun c1 => ?_)
    · have hf := it_t hf c1
      refine lv_iconst (v := (0 : Int32)) hx hb dX0_isFull_105 (by decide) ?_
      exact rtRz X hlk hr rfl (so_i hf) dX0_isFull_106
    · have hf := it_f hf c1
      refine lv_iconst (v := (1 : Int32)) hx hb dX0_isFull_101 (by decide) ?_
      refine lv_goto (tgt := 106) hx hb dX0_isFull_102 (by decide) ?_
      exact rtRz X hlk hr rfl (so_i hf) dX0_isFull_106
  have hf := it_f hf cs5
  have kd : W p l e (rmk 0) s m [.ref (eq E 30), .int p1].toArray below meth c s.heap [] 0 0 (MQ below (QRi res) [.ref (eq E 30), .int p1].toArray s 0 0 (NoF)) (F0 m 107 ls []) := by
    refine lv_iconst (v := (0 : Int32)) hx hb dX0_isFull_107 (by decide) ?_
    exact rtRz X hlk hr rfl (so_i hf) dX0_isFull_108
  by_cases cs3 : p1 = (3 : Int32)
  · exact tbl_in hx hb dX0_isFull_1 cs3 (by decide) (by decide) rfl (tgt := 107) (by decide) kd
  refine lv_tableOut (tgt := 107) hx hb dX0_isFull_1 (sw_out (fun v h1 h2 => ?_)) (by decide) kd
  rcases (show v = 1 ∨ v = 2 ∨ v = 3 ∨ v = 4 ∨ v = 5 by omega) with rfl | rfl | rfl | rfl | rfl
  · exact cs1
  · exact cs2
  · exact cs3
  · exact cs4
  · exact cs5
def fX7_step (st : St) : Option St := if (st.1 20 3) ≤ ((st.1 20 4) + (1 : Int32)) then (some st) else (nm (ui st 20 4 ((st.1 20 4) + (1 : Int32))) (fun s2 => gd (ix (s2.1 20 4) 401) (nm (ui s2 20 5 (s2.1 21 (s2.1 20 4).toNatClampNeg)) (fun s4 => gd (ix (s4.1 20 4) 401) (nm (ui s4 20 6 (s4.1 22 (s4.1 20 4).toNatClampNeg)) (fun s6 => gd (ix (s6.1 20 4) 401) (nm (ui s6 20 7 (s6.1 23 (s6.1 20 4).toNatClampNeg)) (fun s8 => some s8))))))))
set_option maxRecDepth 100000 in
theorem tX7_step (l : Launch) (E : Ev) (st : St) (sz : Nat) (hL : ∀ k, fxC k = true → k ∈ eL E)  {res : St} (hf : fX7_step   st = some res) : Met l yX7_step (.code yX7_step cX7_step 1 none :: uW) (rmk 0) (va_Pc [.ref (eq E 20)] (Pre E st sz)) (QWv E res sz) 0 0 (Af E sz) := by
  refine Met_in (by decide) (Nat.le_of_ble_eq_true rfl) ?_
  intro p e s m below meth c X hr hlk hz G ls hl
  have hx := X.1.1
  have hb := X.1.2.1
  have hl : lv_has ls 1 [(0, .ref (eq E 20))] := hl
  unfold fX7_step at hf
  refine lv_aload_n hx hb dX7_step_0 rfl (lv_at hl 0 rfl) ?_
  refine gf7 X G (hL 20 rfl) rfl 4 (by decide) rfl kf_X7_25 iwX7 dX7_step_1 ?_
  refine lv_iconst (v := (1 : Int32)) hx hb dX7_step_4 (by decide) ?_
  refine lv_iadd hx hb dX7_step_5 ?_
  refine lv_aload_n hx hb dX7_step_6 rfl (lv_at hl 0 rfl) ?_
  refine gf7 X G (hL 20 rfl) rfl 3 (by decide) rfl kf_X7_21 iwX7 dX7_step_7 ?_
  refine lv_icmp_ge (tgt := 62) hx hb dX7_step_10 (by decide) (fun c1 => ?_) (fun c1 => ?_)
  · have hf := it_t hf c1
    exact rtWv X hlk G hr (so_i hf) dX7_step_62
  · have hf := it_f hf c1
    refine lv_aload_n hx hb dX7_step_13 rfl (lv_at hl 0 rfl) ?_
    refine lv_dup hx hb dX7_step_14 rfl ?_
    refine gf7 X G (hL 20 rfl) rfl 4 (by decide) rfl kf_X7_25 iwX7 dX7_step_15 ?_
    refine lv_iconst (v := (1 : Int32)) hx hb dX7_step_18 (by decide) ?_
    refine lv_iadd hx hb dX7_step_19 ?_
    refine pf7 X G (hL 20 rfl) rfl 4 (by decide) ps7_4 uio kf_X7_25 iwX7 rfl (ty := .int) (by decide +kernel) rfl rfl dX7_step_20 (fun s2 es2 H locs G => ?_)
    have hf := nm_s hf s2 es2
    refine lv_aload_n hx hb dX7_step_23 rfl (lv_at hl 0 rfl) ?_
    refine lv_aload_n hx hb dX7_step_24 rfl (lv_at hl 0 rfl) ?_
    refine gf7 X G (hL 20 rfl) rfl 0 (by decide) rfl kf_X7_9 iwX7 dX7_step_25 ?_
    refine lv_aload_n hx hb dX7_step_28 rfl (lv_at hl 0 rfl) ?_
    refine gf7 X G (hL 20 rfl) rfl 4 (by decide) rfl kf_X7_25 iwX7 dX7_step_29 ?_
    obtain ⟨h3, hf⟩ := gd_s hf
    refine ia_ld (k := 21) (n := 401) X G (hL 21 rfl) rfl (by decide) (ix_in h3) dX7_step_32 ?_
    refine pf7 X G (hL 20 rfl) rfl 5 (by decide) ps7_5 uio kf_X7_28 iwX7 rfl (ty := .int) (by decide +kernel) rfl rfl dX7_step_33 (fun s4 es4 H locs G => ?_)
    have hf := nm_s hf s4 es4
    refine lv_aload_n hx hb dX7_step_36 rfl (lv_at hl 0 rfl) ?_
    refine lv_aload_n hx hb dX7_step_37 rfl (lv_at hl 0 rfl) ?_
    refine gf7 X G (hL 20 rfl) rfl 1 (by decide) rfl kf_X7_15 iwX7 dX7_step_38 ?_
    refine lv_aload_n hx hb dX7_step_41 rfl (lv_at hl 0 rfl) ?_
    refine gf7 X G (hL 20 rfl) rfl 4 (by decide) rfl kf_X7_25 iwX7 dX7_step_42 ?_
    obtain ⟨h5, hf⟩ := gd_s hf
    refine ia_ld (k := 22) (n := 401) X G (hL 22 rfl) rfl (by decide) (ix_in h5) dX7_step_45 ?_
    refine pf7 X G (hL 20 rfl) rfl 6 (by decide) ps7_6 uio kf_X7_31 iwX7 rfl (ty := .int) (by decide +kernel) rfl rfl dX7_step_46 (fun s6 es6 H locs G => ?_)
    have hf := nm_s hf s6 es6
    refine lv_aload_n hx hb dX7_step_49 rfl (lv_at hl 0 rfl) ?_
    refine lv_aload_n hx hb dX7_step_50 rfl (lv_at hl 0 rfl) ?_
    refine gf7 X G (hL 20 rfl) rfl 2 (by decide) rfl kf_X7_18 iwX7 dX7_step_51 ?_
    refine lv_aload_n hx hb dX7_step_54 rfl (lv_at hl 0 rfl) ?_
    refine gf7 X G (hL 20 rfl) rfl 4 (by decide) rfl kf_X7_25 iwX7 dX7_step_55 ?_
    obtain ⟨h7, hf⟩ := gd_s hf
    refine ia_ld (k := 23) (n := 401) X G (hL 23 rfl) rfl (by decide) (ix_in h7) dX7_step_58 ?_
    refine pf7 X G (hL 20 rfl) rfl 7 (by decide) ps7_7 uio kf_X7_34 iwX7 rfl (ty := .int) (by decide +kernel) rfl rfl dX7_step_59 (fun s8 es8 H locs G => ?_)
    have hf := nm_s hf s8 es8
    exact rtWv X hlk G hr (so_i hf) dX7_step_62
def fX0_readNumber_B118 (p1 : Int32) (p2 : Int32) (y3 : Int32) (y5 : Int32) (y6 : Int32) (z0 : Int32) (st : St) : Option (Int32 × St) := if (st.1 20 5) = (22 : Int32) then (bw (fX0_fail (1 : Int32) st) (fun x4 s3 => gd (bz x4) (some (x4, s3)))) else (if y5 < y3 then (bw (fX0_fail (1 : Int32) st) (fun x5 s4 => gd (bz x5) (some (x5, s4)))) else (if y6 = 0 then (if z0 = 0 then (gd (ix p2 3) (nm (ui st 32 p2.toNatClampNeg y3) (fun s6 => br (fX7_step s6) (fun s8 => some ((1 : Int32), s8))))) else (bw (fX0_fail (1 : Int32) st) (fun x7 s6 => gd (bz x7) (some (x7, s6))))) else (bw (fX0_fail (1 : Int32) st) (fun x6 s5 => gd (bz x6) (some (x6, s5))))))
set_option maxRecDepth 100000 in
theorem wX0_readNumber_B118 {p : Program} {l : Launch} {e : Env} {s : State} {m : MethodId} {args : Array Value} {below : List Frame} {meth : Method} {c : Code} {E : Ev} (hL : ∀ k, fxC k = true → k ∈ eL E) {p1 : Int32} {p2 : Int32} {sz : Nat} {res : (Int32 × St)} (X : CX p s m args c E RX0 cX0_readNumber 8 (Af E sz)) (hr : meth.sig.returnType = (some .boolean)) (hlk : meth.locks = false) : ∀ (y3 : Int32) (y5 : Int32) (y6 : Int32) (z0 : Int32) (st : St) (H : Heap) (locs : List Loc), fX0_readNumber_B118 p1 p2  y3 y5 y6 z0 st = some res → Gd E st (Af E sz) s H locs → ∀ ls : Array Slot, lv_has ls 8 [(0, .ref (eq E 30)), (2, .int p2), (3, .int y3), (5, .int y5), (6, .int y6)] → W p l e (rmk 1) s m args below meth c H locs 0 0 (MQ below (QWi E res.2 sz res.1) args s 0 0 (Af E sz)) (F0 m 118 ls [.int z0]) := by
  have hx := X.1.1
  have hb := X.1.2.1
  intro y3 y5 y6 z0 st H locs hf G ls hl
  unfold fX0_readNumber_B118 at hf
  refine lv_istore (lv' := [(7, .int z0), (0, .ref (eq E 30)), (2, .int p2), (3, .int y3), (5, .int y5), (6, .int y6)]) hx hb dX0_readNumber_118 hl (by decide) rfl (fun ls hl => ?_)
  refine lv_aload_n hx hb dX0_readNumber_120 rfl (lv_at hl 1 rfl) ?_
  refine gf0 X G (hL 30 rfl) rfl 0 (by decide) rfl kf_X0_26 iwX0 dX0_readNumber_121 ?_
  refine gf7 X G (hL 20 rfl) rfl 5 (by decide) rfl kf_X0_41 iwX7 dX0_readNumber_124 ?_
  refine lv_bipush (v := (22 : Int32)) hx hb dX0_readNumber_127 (by decide) ?_
  refine lv_icmp_eq (tgt := 148) hx hb dX0_readNumber_129 (by decide) (fun c1 => ?_) (fun c1 => ?_)
  · have hf := it_t hf c1
    refine lv_aload_n hx hb dX0_readNumber_148 rfl (lv_at hl 1 rfl) ?_
    refine lv_iconst (v := (1 : Int32)) hx hb dX0_readNumber_149 (by decide) ?_
    obtain ⟨x4, s3, h2, hf⟩ := bw_s hf
    refine cVWi (As := [.int (1 : Int32)]) (rest := []) X G kc_X0_46 (tX0_fail l E st _ hL  (1 : Int32) h2) (rcv X G (hL 30 rfl) (cO0 rfl) rfl) rfl rfl (rmk_le (by omega) (by decide)) rfl hl.1 rfl (Nat.le_of_ble_eq_true rfl) dX0_readNumber_150 ⟨Nat.zero_le _, Nat.zero_le _⟩ (fun H locs G => ?_)
    obtain ⟨h5, hf⟩ := gd_s hf
    exact rtWz X hlk G hr (bz_n h5) (so_i hf) dX0_readNumber_153
  · have hf := it_f hf c1
    refine lv_iload_n hx hb dX0_readNumber_132 rfl (lv_at hl 3 rfl) ?_
    refine lv_iload hx hb dX0_readNumber_133 (lv_at hl 4 rfl) ?_
    refine lv_icmp_gt (tgt := 148) hx hb dX0_readNumber_135 (by decide) (fun c2 => ?_) (fun c2 => ?_)
    · have hf := it_t hf c2
      refine lv_aload_n hx hb dX0_readNumber_148 rfl (lv_at hl 1 rfl) ?_
      refine lv_iconst (v := (1 : Int32)) hx hb dX0_readNumber_149 (by decide) ?_
      obtain ⟨x5, s4, h3, hf⟩ := bw_s hf
      refine cVWi (As := [.int (1 : Int32)]) (rest := []) X G kc_X0_46 (tX0_fail l E st _ hL  (1 : Int32) h3) (rcv X G (hL 30 rfl) (cO0 rfl) rfl) rfl rfl (rmk_le (by omega) (by decide)) rfl hl.1 rfl (Nat.le_of_ble_eq_true rfl) dX0_readNumber_150 ⟨Nat.zero_le _, Nat.zero_le _⟩ (fun H locs G => ?_)
      obtain ⟨h6, hf⟩ := gd_s hf
      exact rtWz X hlk G hr (bz_n h6) (so_i hf) dX0_readNumber_153
    · have hf := it_f hf c2
      refine lv_iload hx hb dX0_readNumber_138 (lv_at hl 5 rfl) ?_
      refine lv_if_ne (tgt := 148) hx hb dX0_readNumber_140 (by decide) (fun c3 => ?_) (fun c3 => ?_)
      · have hf := it_f hf c3
        refine lv_aload_n hx hb dX0_readNumber_148 rfl (lv_at hl 1 rfl) ?_
        refine lv_iconst (v := (1 : Int32)) hx hb dX0_readNumber_149 (by decide) ?_
        obtain ⟨x6, s5, h4, hf⟩ := bw_s hf
        refine cVWi (As := [.int (1 : Int32)]) (rest := []) X G kc_X0_46 (tX0_fail l E st _ hL  (1 : Int32) h4) (rcv X G (hL 30 rfl) (cO0 rfl) rfl) rfl rfl (rmk_le (by omega) (by decide)) rfl hl.1 rfl (Nat.le_of_ble_eq_true rfl) dX0_readNumber_150 ⟨Nat.zero_le _, Nat.zero_le _⟩ (fun H locs G => ?_)
        obtain ⟨h7, hf⟩ := gd_s hf
        exact rtWz X hlk G hr (bz_n h7) (so_i hf) dX0_readNumber_153
      · have hf := it_t hf c3
        refine lv_iload hx hb dX0_readNumber_143 (lv_at hl 0 rfl) ?_
        refine lv_if_eq (tgt := 154) hx hb dX0_readNumber_145 (by decide) (fun c4 => ?_) (fun c4 => ?_)
        · have hf := it_t hf c4
          refine lv_aload_n hx hb dX0_readNumber_154 rfl (lv_at hl 1 rfl) ?_
          refine gf0 X G (hL 30 rfl) rfl 1 (by decide) rfl kf_X0_11 iwX0 dX0_readNumber_155 ?_
          refine lv_iload_n hx hb dX0_readNumber_158 rfl (lv_at hl 2 rfl) ?_
          refine lv_iload_n hx hb dX0_readNumber_159 rfl (lv_at hl 3 rfl) ?_
          obtain ⟨h5, hf⟩ := gd_s hf
          refine ia_st (k := 32) (n := 3) X G (hL 32 rfl) rfl (by decide) (ix_in h5) dX0_readNumber_160 (fun s6 es6 H locs G => ?_)
          have hf := nm_s hf s6 es6
          refine lv_aload_n hx hb dX0_readNumber_161 rfl (lv_at hl 1 rfl) ?_
          refine gf0 X G (hL 30 rfl) rfl 0 (by decide) rfl kf_X0_26 iwX0 dX0_readNumber_162 ?_
          obtain ⟨s8, h7, hf⟩ := br_s hf
          refine cVWv (As := []) (rest := []) X G kc_X0_49 (tX7_step l E s6 _ hL   h7) (rcv X G (hL 20 rfl) (cO7 rfl) rfl) rfl rfl (rmk_le (by omega) (by decide)) rfl hl.1 rfl (Nat.le_of_ble_eq_true rfl) dX0_readNumber_165 ⟨Nat.zero_le _, Nat.zero_le _⟩ (fun H locs G => ?_)
          refine lv_iconst (v := (1 : Int32)) hx hb dX0_readNumber_168 (by decide) ?_
          exact rtWz X hlk G hr rfl (so_i hf) dX0_readNumber_169
        · have hf := it_f hf c4
          refine lv_aload_n hx hb dX0_readNumber_148 rfl (lv_at hl 1 rfl) ?_
          refine lv_iconst (v := (1 : Int32)) hx hb dX0_readNumber_149 (by decide) ?_
          obtain ⟨x7, s6, h5, hf⟩ := bw_s hf
          refine cVWi (As := [.int (1 : Int32)]) (rest := []) X G kc_X0_46 (tX0_fail l E st _ hL  (1 : Int32) h5) (rcv X G (hL 30 rfl) (cO0 rfl) rfl) rfl rfl (rmk_le (by omega) (by decide)) rfl hl.1 rfl (Nat.le_of_ble_eq_true rfl) dX0_readNumber_150 ⟨Nat.zero_le _, Nat.zero_le _⟩ (fun H locs G => ?_)
          obtain ⟨h8, hf⟩ := gd_s hf
          exact rtWz X hlk G hr (bz_n h8) (so_i hf) dX0_readNumber_153
def fX0_readNumber_B117 (p1 : Int32) (p2 : Int32) (y3 : Int32) (y5 : Int32) (y6 : Int32) (st : St) : Option (Int32 × St) := fX0_readNumber_B118 p1 p2 y3 y5 y6 (0 : Int32) st
set_option maxRecDepth 100000 in
theorem wX0_readNumber_B117 {p : Program} {l : Launch} {e : Env} {s : State} {m : MethodId} {args : Array Value} {below : List Frame} {meth : Method} {c : Code} {E : Ev} (hL : ∀ k, fxC k = true → k ∈ eL E) {p1 : Int32} {p2 : Int32} {sz : Nat} {res : (Int32 × St)} (X : CX p s m args c E RX0 cX0_readNumber 8 (Af E sz)) (hr : meth.sig.returnType = (some .boolean)) (hlk : meth.locks = false) : ∀ (y3 : Int32) (y5 : Int32) (y6 : Int32) (st : St) (H : Heap) (locs : List Loc), fX0_readNumber_B117 p1 p2  y3 y5 y6 st = some res → Gd E st (Af E sz) s H locs → ∀ ls : Array Slot, lv_has ls 8 [(0, .ref (eq E 30)), (2, .int p2), (3, .int y3), (5, .int y5), (6, .int y6)] → W p l e (rmk 1) s m args below meth c H locs 0 0 (MQ below (QWi E res.2 sz res.1) args s 0 0 (Af E sz)) (F0 m 117 ls []) := by
  have hx := X.1.1
  have hb := X.1.2.1
  intro y3 y5 y6 st H locs hf G ls hl
  unfold fX0_readNumber_B117 at hf
  refine lv_iconst (v := (0 : Int32)) hx hb dX0_readNumber_117 (by decide) ?_
  exact wX0_readNumber_B118 hL X hr hlk y3 y5 y6 (0 : Int32) st _ _ hf G _ (lv_sub hl [0, 1, 2, 3, 4] rfl)
def fX0_readNumber_B91 (p1 : Int32) (p2 : Int32) (y3 : Int32) (y5 : Int32) (z0 : Int32) (st : St) : Option (Int32 × St) := if p1 = (2 : Int32) then (if p2 = (1 : Int32) then (if y3 = (st.1 32 0) then (fX0_readNumber_B118 p1 p2 y3 y5 z0 (1 : Int32) st) else (fX0_readNumber_B117 p1 p2 y3 y5 z0 st)) else (fX0_readNumber_B117 p1 p2 y3 y5 z0 st)) else (fX0_readNumber_B117 p1 p2 y3 y5 z0 st)
set_option maxRecDepth 100000 in
theorem wX0_readNumber_B91 {p : Program} {l : Launch} {e : Env} {s : State} {m : MethodId} {args : Array Value} {below : List Frame} {meth : Method} {c : Code} {E : Ev} (hL : ∀ k, fxC k = true → k ∈ eL E) {p1 : Int32} {p2 : Int32} {sz : Nat} {res : (Int32 × St)} (X : CX p s m args c E RX0 cX0_readNumber 8 (Af E sz)) (hr : meth.sig.returnType = (some .boolean)) (hlk : meth.locks = false) : ∀ (y3 : Int32) (y5 : Int32) (z0 : Int32) (st : St) (H : Heap) (locs : List Loc), fX0_readNumber_B91 p1 p2  y3 y5 z0 st = some res → Gd E st (Af E sz) s H locs → ∀ ls : Array Slot, lv_has ls 8 [(0, .ref (eq E 30)), (1, .int p1), (2, .int p2), (3, .int y3), (5, .int y5)] → W p l e (rmk 1) s m args below meth c H locs 0 0 (MQ below (QWi E res.2 sz res.1) args s 0 0 (Af E sz)) (F0 m 91 ls [.int z0]) := by
  have hx := X.1.1
  have hb := X.1.2.1
  intro y3 y5 z0 st H locs hf G ls hl
  unfold fX0_readNumber_B91 at hf
  refine lv_istore (lv' := [(6, .int z0), (0, .ref (eq E 30)), (1, .int p1), (2, .int p2), (3, .int y3), (5, .int y5)]) hx hb dX0_readNumber_91 hl (by decide) rfl (fun ls hl => ?_)
  refine lv_iload_n hx hb dX0_readNumber_93 rfl (lv_at hl 2 rfl) ?_
  refine lv_iconst (v := (2 : Int32)) hx hb dX0_readNumber_94 (by decide) ?_
  refine lv_icmp_ne (tgt := 117) hx hb dX0_readNumber_95 (by decide) (fun c1 => ?_) (fun c1 => ?_)
  · have hf := it_f hf c1
    exact wX0_readNumber_B117 hL X hr hlk y3 y5 z0 st _ _ hf G _ (lv_sub hl [1, 3, 4, 5, 0] rfl)
  · have hf := it_t hf c1
    refine lv_iload_n hx hb dX0_readNumber_98 rfl (lv_at hl 3 rfl) ?_
    refine lv_iconst (v := (1 : Int32)) hx hb dX0_readNumber_99 (by decide) ?_
    refine lv_icmp_ne (tgt := 117) hx hb dX0_readNumber_100 (by decide) (fun c2 => ?_) (fun c2 => ?_)
    · have hf := it_f hf c2
      exact wX0_readNumber_B117 hL X hr hlk y3 y5 z0 st _ _ hf G _ (lv_sub hl [1, 3, 4, 5, 0] rfl)
    · have hf := it_t hf c2
      refine lv_iload_n hx hb dX0_readNumber_103 rfl (lv_at hl 4 rfl) ?_
      refine lv_aload_n hx hb dX0_readNumber_104 rfl (lv_at hl 1 rfl) ?_
      refine gf0 X G (hL 30 rfl) rfl 1 (by decide) rfl kf_X0_11 iwX0 dX0_readNumber_105 ?_
      refine lv_iconst (v := (0 : Int32)) hx hb dX0_readNumber_108 (by decide) ?_
      refine ia_ldc (k := 32) (n := 3) X G (hL 32 rfl) rfl (by decide) 0 (by decide) dX0_readNumber_109 ?_
      refine lv_icmp_ne (tgt := 117) hx hb dX0_readNumber_110 (by decide) (fun c4 => ?_) (fun c4 => ?_)
      · have hf := it_f hf c4
        exact wX0_readNumber_B117 hL X hr hlk y3 y5 z0 st _ _ hf G _ (lv_sub hl [1, 3, 4, 5, 0] rfl)
      · have hf := it_t hf c4
        refine lv_iconst (v := (1 : Int32)) hx hb dX0_readNumber_113 (by decide) ?_
        refine lv_goto (tgt := 118) hx hb dX0_readNumber_114 (by decide) ?_
        exact wX0_readNumber_B118 hL X hr hlk y3 y5 z0 (1 : Int32) st _ _ hf G _ (lv_sub hl [1, 3, 4, 5, 0] rfl)
def fX0_readNumber_B90 (p1 : Int32) (p2 : Int32) (y3 : Int32) (y5 : Int32) (st : St) : Option (Int32 × St) := fX0_readNumber_B91 p1 p2 y3 y5 (0 : Int32) st
set_option maxRecDepth 100000 in
theorem wX0_readNumber_B90 {p : Program} {l : Launch} {e : Env} {s : State} {m : MethodId} {args : Array Value} {below : List Frame} {meth : Method} {c : Code} {E : Ev} (hL : ∀ k, fxC k = true → k ∈ eL E) {p1 : Int32} {p2 : Int32} {sz : Nat} {res : (Int32 × St)} (X : CX p s m args c E RX0 cX0_readNumber 8 (Af E sz)) (hr : meth.sig.returnType = (some .boolean)) (hlk : meth.locks = false) : ∀ (y3 : Int32) (y5 : Int32) (st : St) (H : Heap) (locs : List Loc), fX0_readNumber_B90 p1 p2  y3 y5 st = some res → Gd E st (Af E sz) s H locs → ∀ ls : Array Slot, lv_has ls 8 [(0, .ref (eq E 30)), (1, .int p1), (2, .int p2), (3, .int y3), (5, .int y5)] → W p l e (rmk 1) s m args below meth c H locs 0 0 (MQ below (QWi E res.2 sz res.1) args s 0 0 (Af E sz)) (F0 m 90 ls []) := by
  have hx := X.1.1
  have hb := X.1.2.1
  intro y3 y5 st H locs hf G ls hl
  unfold fX0_readNumber_B90 at hf
  refine lv_iconst (v := (0 : Int32)) hx hb dX0_readNumber_90 (by decide) ?_
  exact wX0_readNumber_B91 hL X hr hlk y3 y5 (0 : Int32) st _ _ hf G _ (lv_sub hl [0, 1, 2, 3, 4] rfl)
def fX0_readNumber_B69 (p1 : Int32) (p2 : Int32) (y3 : Int32) (z0 : Int32) (st : St) : Option (Int32 × St) := if p1 = (4 : Int32) then (if p2 = (1 : Int32) then (if (1 : Int32) ≤ y3 then (fX0_readNumber_B90 p1 p2 y3 z0 st) else (fX0_readNumber_B91 p1 p2 y3 z0 (1 : Int32) st)) else (fX0_readNumber_B90 p1 p2 y3 z0 st)) else (fX0_readNumber_B90 p1 p2 y3 z0 st)
set_option maxRecDepth 100000 in
theorem wX0_readNumber_B69 {p : Program} {l : Launch} {e : Env} {s : State} {m : MethodId} {args : Array Value} {below : List Frame} {meth : Method} {c : Code} {E : Ev} (hL : ∀ k, fxC k = true → k ∈ eL E) {p1 : Int32} {p2 : Int32} {sz : Nat} {res : (Int32 × St)} (X : CX p s m args c E RX0 cX0_readNumber 8 (Af E sz)) (hr : meth.sig.returnType = (some .boolean)) (hlk : meth.locks = false) : ∀ (y3 : Int32) (z0 : Int32) (st : St) (H : Heap) (locs : List Loc), fX0_readNumber_B69 p1 p2  y3 z0 st = some res → Gd E st (Af E sz) s H locs → ∀ ls : Array Slot, lv_has ls 8 [(0, .ref (eq E 30)), (1, .int p1), (2, .int p2), (3, .int y3)] → W p l e (rmk 1) s m args below meth c H locs 0 0 (MQ below (QWi E res.2 sz res.1) args s 0 0 (Af E sz)) (F0 m 69 ls [.int z0]) := by
  have hx := X.1.1
  have hb := X.1.2.1
  intro y3 z0 st H locs hf G ls hl
  unfold fX0_readNumber_B69 at hf
  refine lv_istore (lv' := [(5, .int z0), (0, .ref (eq E 30)), (1, .int p1), (2, .int p2), (3, .int y3)]) hx hb dX0_readNumber_69 hl (by decide) rfl (fun ls hl => ?_)
  refine lv_iload_n hx hb dX0_readNumber_71 rfl (lv_at hl 2 rfl) ?_
  refine lv_iconst (v := (4 : Int32)) hx hb dX0_readNumber_72 (by decide) ?_
  refine lv_icmp_ne (tgt := 90) hx hb dX0_readNumber_73 (by decide) (fun c1 => ?_) (fun c1 => ?_)
  · have hf := it_f hf c1
    exact wX0_readNumber_B90 hL X hr hlk y3 z0 st _ _ hf G _ (lv_sub hl [1, 2, 3, 4, 0] rfl)
  · have hf := it_t hf c1
    refine lv_iload_n hx hb dX0_readNumber_76 rfl (lv_at hl 3 rfl) ?_
    refine lv_iconst (v := (1 : Int32)) hx hb dX0_readNumber_77 (by decide) ?_
    refine lv_icmp_ne (tgt := 90) hx hb dX0_readNumber_78 (by decide) (fun c2 => ?_) (fun c2 => ?_)
    · have hf := it_f hf c2
      exact wX0_readNumber_B90 hL X hr hlk y3 z0 st _ _ hf G _ (lv_sub hl [1, 2, 3, 4, 0] rfl)
    · have hf := it_t hf c2
      refine lv_iload_n hx hb dX0_readNumber_81 rfl (lv_at hl 4 rfl) ?_
      refine lv_iconst (v := (1 : Int32)) hx hb dX0_readNumber_82 (by decide) ?_
      refine lv_icmp_ge (tgt := 90) hx hb dX0_readNumber_83 (by decide) (fun c3 => ?_) (fun c3 => ?_)
      · have hf := it_t hf c3
        exact wX0_readNumber_B90 hL X hr hlk y3 z0 st _ _ hf G _ (lv_sub hl [1, 2, 3, 4, 0] rfl)
      · have hf := it_f hf c3
        refine lv_iconst (v := (1 : Int32)) hx hb dX0_readNumber_86 (by decide) ?_
        refine lv_goto (tgt := 91) hx hb dX0_readNumber_87 (by decide) ?_
        exact wX0_readNumber_B91 hL X hr hlk y3 z0 (1 : Int32) st _ _ hf G _ (lv_sub hl [1, 2, 3, 4, 0] rfl)
def fX0_readNumber_B30 (p1 : Int32) (p2 : Int32) (st : St) : Option (Int32 × St) := nm (st.1 20 7) (fun x1 => gd (ix ((p1 * (3 : Int32)) + p2) 18) (nm (mostT.getD ((p1 * (3 : Int32)) + p2).toNatClampNeg 0) (fun x3 => if x3 = (-1 : Int32) then (fX0_readNumber_B69 p1 p2 x1 ((st.1 100 4) - (1 : Int32)) st) else (fX0_readNumber_B69 p1 p2 x1 x3 st))))
set_option maxRecDepth 100000 in
theorem wX0_readNumber_B30 {p : Program} {l : Launch} {e : Env} {s : State} {m : MethodId} {args : Array Value} {below : List Frame} {meth : Method} {c : Code} {E : Ev} (hL : ∀ k, fxC k = true → k ∈ eL E) {p1 : Int32} {p2 : Int32} {sz : Nat} {res : (Int32 × St)} (X : CX p s m args c E RX0 cX0_readNumber 8 (Af E sz)) (hr : meth.sig.returnType = (some .boolean)) (hlk : meth.locks = false) : ∀  (st : St) (H : Heap) (locs : List Loc), fX0_readNumber_B30 p1 p2   st = some res → Gd E st (Af E sz) s H locs → ∀ ls : Array Slot, lv_has ls 8 [(0, .ref (eq E 30)), (1, .int p1), (2, .int p2)] → W p l e (rmk 1) s m args below meth c H locs 0 0 (MQ below (QWi E res.2 sz res.1) args s 0 0 (Af E sz)) (F0 m 30 ls []) := by
  have hx := X.1.1
  have hb := X.1.2.1
  intro  st H locs hf G ls hl
  unfold fX0_readNumber_B30 at hf
  refine lv_aload_n hx hb dX0_readNumber_30 rfl (lv_at hl 0 rfl) ?_
  refine gf0 X G (hL 30 rfl) rfl 0 (by decide) rfl kf_X0_26 iwX0 dX0_readNumber_31 ?_
  refine gf7 X G (hL 20 rfl) rfl 7 (by decide) rfl kf_X0_82 iwX7 dX0_readNumber_34 ?_
  refine lv_topi (fun x1 ex1 => ?_)
  have hf := nm_s hf x1 ex1
  refine lv_istore_n (lv' := [(3, .int x1), (0, .ref (eq E 30)), (1, .int p1), (2, .int p2)]) hx hb dX0_readNumber_37 rfl hl (by decide) rfl (fun ls hl => ?_)
  refine va_gets hx hb X.2.2.2.1.2.2.2.2.1 G.2.2 X.1.2.2.2.1 (X.1.2.2.2.2 _ kf_X0_85) (fun _ h9 => h9) dX0_readNumber_38 ?_
  refine lv_iload_n hx hb dX0_readNumber_41 rfl (lv_at hl 2 rfl) ?_
  refine lv_iconst (v := (3 : Int32)) hx hb dX0_readNumber_42 (by decide) ?_
  refine lv_imul hx hb dX0_readNumber_43 ?_
  refine lv_iload_n hx hb dX0_readNumber_44 rfl (lv_at hl 3 rfl) ?_
  refine lv_iadd hx hb dX0_readNumber_45 ?_
  obtain ⟨h2, hf⟩ := gd_s hf
  refine va_ti hx hb X.2.2.2.1.2.2.2.2.2.1 G.2.2 (ix_in h2) rfl dX0_readNumber_46 ?_
  refine lv_topi (fun x3 ex3 => ?_)
  have hf := nm_s hf x3 ex3
  refine lv_istore (lv' := [(4, .int x3), (3, .int x1), (0, .ref (eq E 30)), (1, .int p1), (2, .int p2)]) hx hb dX0_readNumber_47 hl (by decide) rfl (fun ls hl => ?_)
  refine lv_iload hx hb dX0_readNumber_49 (lv_at hl 0 rfl) ?_
  refine lv_iconst (v := (-1 : Int32)) hx hb dX0_readNumber_51 (by decide) ?_
  refine lv_icmp_ne (tgt := 67) hx hb dX0_readNumber_52 (by decide) (fun c4 => ?_) (fun c4 => ?_)
  · have hf := it_f hf c4
    refine lv_iload hx hb dX0_readNumber_67 (lv_at hl 0 rfl) ?_
    exact wX0_readNumber_B69 hL X hr hlk x1 x3 st _ _ hf G _ (lv_sub hl [2, 3, 4, 1] rfl)
  · have hf := it_t hf c4
    refine lv_aload_n hx hb dX0_readNumber_55 rfl (lv_at hl 2 rfl) ?_
    refine gf0 X G (hL 30 rfl) rfl 3 (by decide) rfl kf_X0_22 iwX0 dX0_readNumber_56 ?_
    refine gf1 X G (hL 100 rfl) rfl 4 (by decide) rfl kf_X0_70 iwX1 dX0_readNumber_59 ?_
    refine lv_iconst (v := (1 : Int32)) hx hb dX0_readNumber_62 (by decide) ?_
    refine lv_isub hx hb dX0_readNumber_63 ?_
    refine lv_goto (tgt := 69) hx hb dX0_readNumber_64 (by decide) ?_
    exact wX0_readNumber_B69 hL X hr hlk x1 ((st.1 100 4) - (1 : Int32)) st _ _ hf G _ (lv_sub hl [2, 3, 4, 1] rfl)
def fX0_readNumber (p1 : Int32) (p2 : Int32) (st : St) : Option (Int32 × St) := if (st.1 20 5) = (21 : Int32) then (fX0_readNumber_B30 p1 p2 st) else (if (st.1 20 5) = (22 : Int32) then (fX0_readNumber_B30 p1 p2 st) else (bw (fX0_fail (0 : Int32) st) (fun x5 s4 => gd (bz x5) (some (x5, s4)))))
set_option maxRecDepth 100000 in
theorem tX0_readNumber (l : Launch) (E : Ev) (st : St) (sz : Nat) (hL : ∀ k, fxC k = true → k ∈ eL E) (p1 : Int32) (p2 : Int32) {res : (Int32 × St)} (hf : fX0_readNumber  p1 p2 st = some res) : Met l yX0_readNumber (.code yX0_readNumber cX0_readNumber 8 (some .boolean) :: uW) (rmk 1) (va_Pc [.ref (eq E 30), .int p1, .int p2] (Pre E st sz)) (QWi E res.2 sz res.1) 0 0 (Af E sz) := by
  refine Met_in (by decide) (Nat.le_of_ble_eq_true rfl) ?_
  intro p e s m below meth c X hr hlk hz G ls hl
  have hx := X.1.1
  have hb := X.1.2.1
  have hl : lv_has ls 8 [(0, .ref (eq E 30)), (1, .int p1), (2, .int p2)] := hl
  unfold fX0_readNumber at hf
  refine lv_aload_n hx hb dX0_readNumber_0 rfl (lv_at hl 0 rfl) ?_
  refine gf0 X G (hL 30 rfl) rfl 0 (by decide) rfl kf_X0_26 iwX0 dX0_readNumber_1 ?_
  refine gf7 X G (hL 20 rfl) rfl 5 (by decide) rfl kf_X0_41 iwX7 dX0_readNumber_4 ?_
  refine lv_bipush (v := (21 : Int32)) hx hb dX0_readNumber_7 (by decide) ?_
  refine lv_icmp_eq (tgt := 30) hx hb dX0_readNumber_9 (by decide) (fun c1 => ?_) (fun c1 => ?_)
  · have hf := it_t hf c1
    exact wX0_readNumber_B30 hL X hr hlk st _ _ hf G _ (lv_sub hl [0, 1, 2] rfl)
  · have hf := it_f hf c1
    refine lv_aload_n hx hb dX0_readNumber_12 rfl (lv_at hl 0 rfl) ?_
    refine gf0 X G (hL 30 rfl) rfl 0 (by decide) rfl kf_X0_26 iwX0 dX0_readNumber_13 ?_
    refine gf7 X G (hL 20 rfl) rfl 5 (by decide) rfl kf_X0_41 iwX7 dX0_readNumber_16 ?_
    refine lv_bipush (v := (22 : Int32)) hx hb dX0_readNumber_19 (by decide) ?_
    refine lv_icmp_eq (tgt := 30) hx hb dX0_readNumber_21 (by decide) (fun c2 => ?_) (fun c2 => ?_)
    · have hf := it_t hf c2
      exact wX0_readNumber_B30 hL X hr hlk st _ _ hf G _ (lv_sub hl [0, 1, 2] rfl)
    · have hf := it_f hf c2
      refine lv_aload_n hx hb dX0_readNumber_24 rfl (lv_at hl 0 rfl) ?_
      refine lv_iconst (v := (0 : Int32)) hx hb dX0_readNumber_25 (by decide) ?_
      obtain ⟨x5, s4, h3, hf⟩ := bw_s hf
      refine cVWi (As := [.int (0 : Int32)]) (rest := []) X G kc_X0_46 (tX0_fail l E st _ hL  (0 : Int32) h3) (rcv X G (hL 30 rfl) (cO0 rfl) rfl) rfl rfl (rmk_le (by omega) (by decide)) rfl hl.1 rfl (Nat.le_of_ble_eq_true rfl) dX0_readNumber_26 ⟨Nat.zero_le _, Nat.zero_le _⟩ (fun H locs G => ?_)
      obtain ⟨h6, hf⟩ := gd_s hf
      exact rtWz X hlk G hr (bz_n h6) (so_i hf) dX0_readNumber_29
def fX1_addHouse (b : Nat) (p1 : Int32) (p2 : Int32) (p3 : Int32) (st : St) : Option St := if (8 : Int32) ≤ (st.1 b 4) then (some st) else (gd (ix ((0 : Int32) + (st.1 b 4)) 41) (nm (ui st (b + 13) ((0 : Int32) + (st.1 b 4)).toNatClampNeg p1) (fun s3 => gd (ix ((8 : Int32) + (s3.1 b 4)) 41) (nm (ui s3 (b + 13) ((8 : Int32) + (s3.1 b 4)).toNatClampNeg p2) (fun s5 => gd (ix ((24 : Int32) + (s5.1 b 4)) 41) (nm (ui s5 (b + 13) ((24 : Int32) + (s5.1 b 4)).toNatClampNeg (-1 : Int32)) (fun s7 => gd (ix (s7.1 b 4) 8) (nm (ui s7 (b + 9) (s7.1 b 4).toNatClampNeg p3) (fun s9 => nm (ui s9 b 4 ((s9.1 b 4) + (1 : Int32))) (fun s10 => some s10))))))))))
set_option maxRecDepth 100000 in
theorem tX1_addHouse (l : Launch) (E : Ev) (st : St) (sz : Nat) (hL : ∀ k, fxC k = true → k ∈ eL E) {b : Nat} (hbs : okL E b) (p1 : Int32) (p2 : Int32) (p3 : Int32) {res : St} (hf : fX1_addHouse b p1 p2 p3 st = some res) : Met l yX1_addHouse (.code yX1_addHouse cX1_addHouse 4 none :: uW) (rmk 0) (va_Pc [.ref (eq E b), .int p1, .int p2, .int p3] (Pre E st sz)) (QWv E res sz) 0 0 (Af E sz) := by
  refine Met_in (by decide) (Nat.le_of_ble_eq_true rfl) ?_
  intro p e s m below meth c X hr hlk hz G ls hl
  have hx := X.1.1
  have hb := X.1.2.1
  have hl : lv_has ls 4 [(0, .ref (eq E b)), (1, .int p1), (2, .int p2), (3, .int p3)] := hl
  unfold fX1_addHouse at hf
  refine lv_aload_n hx hb dX1_addHouse_0 rfl (lv_at hl 0 rfl) ?_
  refine gf1 X G ((hbs 0 (by decide)).2 (by decide)) (hbs 0 (by decide)).1 4 (by decide) rfl kf_X1_25 iwX1 dX1_addHouse_1 ?_
  refine lv_bipush (v := (8 : Int32)) hx hb dX1_addHouse_4 (by decide) ?_
  refine lv_icmp_ge (tgt := 67) hx hb dX1_addHouse_6 (by decide) (fun c1 => ?_) (fun c1 => ?_)
  · have hf := it_t hf c1
    exact rtWv X hlk G hr (so_i hf) dX1_addHouse_67
  · have hf := it_f hf c1
    refine lv_aload_n hx hb dX1_addHouse_9 rfl (lv_at hl 0 rfl) ?_
    refine gf1 X G ((hbs 0 (by decide)).2 (by decide)) (hbs 0 (by decide)).1 12 (by decide) rfl kf_X1_50 iwX1 dX1_addHouse_10 ?_
    refine lv_iconst (v := (0 : Int32)) hx hb dX1_addHouse_13 (by decide) ?_
    refine lv_aload_n hx hb dX1_addHouse_14 rfl (lv_at hl 0 rfl) ?_
    refine gf1 X G ((hbs 0 (by decide)).2 (by decide)) (hbs 0 (by decide)).1 4 (by decide) rfl kf_X1_25 iwX1 dX1_addHouse_15 ?_
    refine lv_iadd hx hb dX1_addHouse_18 ?_
    refine lv_iload_n hx hb dX1_addHouse_19 rfl (lv_at hl 1 rfl) ?_
    obtain ⟨h2, hf⟩ := gd_s hf
    refine ia_st (k := (b + 13)) (n := 41) X G ((hbs 13 (by decide)).2 (by decide)) (hbs 13 (by decide)).1 (by decide) (ix_in h2) dX1_addHouse_20 (fun s3 es3 H locs G => ?_)
    have hf := nm_s hf s3 es3
    refine lv_aload_n hx hb dX1_addHouse_21 rfl (lv_at hl 0 rfl) ?_
    refine gf1 X G ((hbs 0 (by decide)).2 (by decide)) (hbs 0 (by decide)).1 12 (by decide) rfl kf_X1_50 iwX1 dX1_addHouse_22 ?_
    refine lv_bipush (v := (8 : Int32)) hx hb dX1_addHouse_25 (by decide) ?_
    refine lv_aload_n hx hb dX1_addHouse_27 rfl (lv_at hl 0 rfl) ?_
    refine gf1 X G ((hbs 0 (by decide)).2 (by decide)) (hbs 0 (by decide)).1 4 (by decide) rfl kf_X1_25 iwX1 dX1_addHouse_28 ?_
    refine lv_iadd hx hb dX1_addHouse_31 ?_
    refine lv_iload_n hx hb dX1_addHouse_32 rfl (lv_at hl 2 rfl) ?_
    obtain ⟨h4, hf⟩ := gd_s hf
    refine ia_st (k := (b + 13)) (n := 41) X G ((hbs 13 (by decide)).2 (by decide)) (hbs 13 (by decide)).1 (by decide) (ix_in h4) dX1_addHouse_33 (fun s5 es5 H locs G => ?_)
    have hf := nm_s hf s5 es5
    refine lv_aload_n hx hb dX1_addHouse_34 rfl (lv_at hl 0 rfl) ?_
    refine gf1 X G ((hbs 0 (by decide)).2 (by decide)) (hbs 0 (by decide)).1 12 (by decide) rfl kf_X1_50 iwX1 dX1_addHouse_35 ?_
    refine lv_bipush (v := (24 : Int32)) hx hb dX1_addHouse_38 (by decide) ?_
    refine lv_aload_n hx hb dX1_addHouse_40 rfl (lv_at hl 0 rfl) ?_
    refine gf1 X G ((hbs 0 (by decide)).2 (by decide)) (hbs 0 (by decide)).1 4 (by decide) rfl kf_X1_25 iwX1 dX1_addHouse_41 ?_
    refine lv_iadd hx hb dX1_addHouse_44 ?_
    refine lv_iconst (v := (-1 : Int32)) hx hb dX1_addHouse_45 (by decide) ?_
    obtain ⟨h6, hf⟩ := gd_s hf
    refine ia_st (k := (b + 13)) (n := 41) X G ((hbs 13 (by decide)).2 (by decide)) (hbs 13 (by decide)).1 (by decide) (ix_in h6) dX1_addHouse_46 (fun s7 es7 H locs G => ?_)
    have hf := nm_s hf s7 es7
    refine lv_aload_n hx hb dX1_addHouse_47 rfl (lv_at hl 0 rfl) ?_
    refine gf1 X G ((hbs 0 (by decide)).2 (by decide)) (hbs 0 (by decide)).1 8 (by decide) rfl kf_X1_37 iwX1 dX1_addHouse_48 ?_
    refine lv_aload_n hx hb dX1_addHouse_51 rfl (lv_at hl 0 rfl) ?_
    refine gf1 X G ((hbs 0 (by decide)).2 (by decide)) (hbs 0 (by decide)).1 4 (by decide) rfl kf_X1_25 iwX1 dX1_addHouse_52 ?_
    refine lv_iload_n hx hb dX1_addHouse_55 rfl (lv_at hl 3 rfl) ?_
    obtain ⟨h8, hf⟩ := gd_s hf
    refine ia_st (k := (b + 9)) (n := 8) X G ((hbs 9 (by decide)).2 (by decide)) (hbs 9 (by decide)).1 (by decide) (ix_in h8) dX1_addHouse_56 (fun s9 es9 H locs G => ?_)
    have hf := nm_s hf s9 es9
    refine lv_aload_n hx hb dX1_addHouse_57 rfl (lv_at hl 0 rfl) ?_
    refine lv_dup hx hb dX1_addHouse_58 rfl ?_
    refine gf1 X G ((hbs 0 (by decide)).2 (by decide)) (hbs 0 (by decide)).1 4 (by decide) rfl kf_X1_25 iwX1 dX1_addHouse_59 ?_
    refine lv_iconst (v := (1 : Int32)) hx hb dX1_addHouse_62 (by decide) ?_
    refine lv_iadd hx hb dX1_addHouse_63 ?_
    refine pf1 X G ((hbs 0 (by decide)).2 (by decide)) (hbs 0 (by decide)).1 4 (by decide) ps1_4 uio kf_X1_25 iwX1 rfl (ty := .int) (by decide +kernel) rfl rfl dX1_addHouse_64 (fun s10 es10 H locs G => ?_)
    have hf := nm_s hf s10 es10
    exact rtWv X hlk G hr (so_i hf) dX1_addHouse_67
def fX1_addLane (b : Nat) (p1 : Int32) (p2 : Int32) (st : St) : Option St := gd (ix p1 8) (if (((st.1 (b + 10) p1.toNatClampNeg) >>> (p2 &&& 31)) &&& (1 : Int32)) = 0 then (gd (ix p1 8) (gd (ix p1 8) (nm (ui st (b + 10) p1.toNatClampNeg ((st.1 (b + 10) p1.toNatClampNeg) ||| ((1 : Int32) <<< (p2 &&& 31)))) (fun s5 => gd (ix p2 8) (gd (ix p2 8) (nm (ui s5 (b + 10) p2.toNatClampNeg ((s5.1 (b + 10) p2.toNatClampNeg) ||| ((1 : Int32) <<< (p1 &&& 31)))) (fun s8 => nm (ui s8 b 5 ((s8.1 b 5) + (1 : Int32))) (fun s9 => some s9)))))))) else (some st))
set_option maxRecDepth 100000 in
theorem tX1_addLane (l : Launch) (E : Ev) (st : St) (sz : Nat) (hL : ∀ k, fxC k = true → k ∈ eL E) {b : Nat} (hbs : okL E b) (p1 : Int32) (p2 : Int32) {res : St} (hf : fX1_addLane b p1 p2 st = some res) : Met l yX1_addLane (.code yX1_addLane cX1_addLane 3 none :: uW) (rmk 0) (va_Pc [.ref (eq E b), .int p1, .int p2] (Pre E st sz)) (QWv E res sz) 0 0 (Af E sz) := by
  refine Met_in (by decide) (Nat.le_of_ble_eq_true rfl) ?_
  intro p e s m below meth c X hr hlk hz G ls hl
  have hx := X.1.1
  have hb := X.1.2.1
  have hl : lv_has ls 3 [(0, .ref (eq E b)), (1, .int p1), (2, .int p2)] := hl
  unfold fX1_addLane at hf
  refine lv_aload_n hx hb dX1_addLane_0 rfl (lv_at hl 0 rfl) ?_
  refine gf1 X G ((hbs 0 (by decide)).2 (by decide)) (hbs 0 (by decide)).1 9 (by decide) rfl kf_X1_41 iwX1 dX1_addLane_1 ?_
  refine lv_iload_n hx hb dX1_addLane_4 rfl (lv_at hl 1 rfl) ?_
  obtain ⟨h1, hf⟩ := gd_s hf
  refine ia_ld (k := (b + 10)) (n := 8) X G ((hbs 10 (by decide)).2 (by decide)) (hbs 10 (by decide)).1 (by decide) (ix_in h1) dX1_addLane_5 ?_
  refine lv_iload_n hx hb dX1_addLane_6 rfl (lv_at hl 2 rfl) ?_
  refine lv_ishr hx hb dX1_addLane_7 ?_
  refine lv_iconst (v := (1 : Int32)) hx hb dX1_addLane_8 (by decide) ?_
  refine lv_iand hx hb dX1_addLane_9 ?_
  refine lv_if_ne (tgt := 47) hx hb dX1_addLane_10 (by decide) (fun c2 => ?_) (fun c2 => ?_)
  · have hf := it_f hf c2
    exact rtWv X hlk G hr (so_i hf) dX1_addLane_47
  · have hf := it_t hf c2
    refine lv_aload_n hx hb dX1_addLane_13 rfl (lv_at hl 0 rfl) ?_
    refine gf1 X G ((hbs 0 (by decide)).2 (by decide)) (hbs 0 (by decide)).1 9 (by decide) rfl kf_X1_41 iwX1 dX1_addLane_14 ?_
    refine lv_iload_n hx hb dX1_addLane_17 rfl (lv_at hl 1 rfl) ?_
    refine lv_dup2_11 hx hb dX1_addLane_18 rfl rfl ?_
    obtain ⟨h3, hf⟩ := gd_s hf
    refine ia_ld (k := (b + 10)) (n := 8) X G ((hbs 10 (by decide)).2 (by decide)) (hbs 10 (by decide)).1 (by decide) (ix_in h3) dX1_addLane_19 ?_
    refine lv_iconst (v := (1 : Int32)) hx hb dX1_addLane_20 (by decide) ?_
    refine lv_iload_n hx hb dX1_addLane_21 rfl (lv_at hl 2 rfl) ?_
    refine lv_ishl hx hb dX1_addLane_22 ?_
    refine lv_ior hx hb dX1_addLane_23 ?_
    obtain ⟨h4, hf⟩ := gd_s hf
    refine ia_st (k := (b + 10)) (n := 8) X G ((hbs 10 (by decide)).2 (by decide)) (hbs 10 (by decide)).1 (by decide) (ix_in h4) dX1_addLane_24 (fun s5 es5 H locs G => ?_)
    have hf := nm_s hf s5 es5
    refine lv_aload_n hx hb dX1_addLane_25 rfl (lv_at hl 0 rfl) ?_
    refine gf1 X G ((hbs 0 (by decide)).2 (by decide)) (hbs 0 (by decide)).1 9 (by decide) rfl kf_X1_41 iwX1 dX1_addLane_26 ?_
    refine lv_iload_n hx hb dX1_addLane_29 rfl (lv_at hl 2 rfl) ?_
    refine lv_dup2_11 hx hb dX1_addLane_30 rfl rfl ?_
    obtain ⟨h6, hf⟩ := gd_s hf
    refine ia_ld (k := (b + 10)) (n := 8) X G ((hbs 10 (by decide)).2 (by decide)) (hbs 10 (by decide)).1 (by decide) (ix_in h6) dX1_addLane_31 ?_
    refine lv_iconst (v := (1 : Int32)) hx hb dX1_addLane_32 (by decide) ?_
    refine lv_iload_n hx hb dX1_addLane_33 rfl (lv_at hl 1 rfl) ?_
    refine lv_ishl hx hb dX1_addLane_34 ?_
    refine lv_ior hx hb dX1_addLane_35 ?_
    obtain ⟨h7, hf⟩ := gd_s hf
    refine ia_st (k := (b + 10)) (n := 8) X G ((hbs 10 (by decide)).2 (by decide)) (hbs 10 (by decide)).1 (by decide) (ix_in h7) dX1_addLane_36 (fun s8 es8 H locs G => ?_)
    have hf := nm_s hf s8 es8
    refine lv_aload_n hx hb dX1_addLane_37 rfl (lv_at hl 0 rfl) ?_
    refine lv_dup hx hb dX1_addLane_38 rfl ?_
    refine gf1 X G ((hbs 0 (by decide)).2 (by decide)) (hbs 0 (by decide)).1 5 (by decide) rfl kf_X1_28 iwX1 dX1_addLane_39 ?_
    refine lv_iconst (v := (1 : Int32)) hx hb dX1_addLane_42 (by decide) ?_
    refine lv_iadd hx hb dX1_addLane_43 ?_
    refine pf1 X G ((hbs 0 (by decide)).2 (by decide)) (hbs 0 (by decide)).1 5 (by decide) ps1_5 uio kf_X1_28 iwX1 rfl (ty := .int) (by decide +kernel) rfl rfl dX1_addLane_44 (fun s9 es9 H locs G => ?_)
    have hf := nm_s hf s9 es9
    exact rtWv X hlk G hr (so_i hf) dX1_addLane_47
def fX1_addOfficer (b : Nat) (p1 : Int32) (p2 : Int32) (st : St) : Option St := if (3 : Int32) ≤ (st.1 b 6) then (some st) else (gd (ix ((32 : Int32) + (st.1 b 6)) 41) (nm (ui st (b + 13) ((32 : Int32) + (st.1 b 6)).toNatClampNeg p1) (fun s3 => gd (ix (s3.1 b 6) 3) (nm (ui s3 (b + 11) (s3.1 b 6).toNatClampNeg p2) (fun s5 => nm (ui s5 b 6 ((s5.1 b 6) + (1 : Int32))) (fun s6 => some s6))))))
set_option maxRecDepth 100000 in
theorem tX1_addOfficer (l : Launch) (E : Ev) (st : St) (sz : Nat) (hL : ∀ k, fxC k = true → k ∈ eL E) {b : Nat} (hbs : okL E b) (p1 : Int32) (p2 : Int32) {res : St} (hf : fX1_addOfficer b p1 p2 st = some res) : Met l yX1_addOfficer (.code yX1_addOfficer cX1_addOfficer 3 none :: uW) (rmk 0) (va_Pc [.ref (eq E b), .int p1, .int p2] (Pre E st sz)) (QWv E res sz) 0 0 (Af E sz) := by
  refine Met_in (by decide) (Nat.le_of_ble_eq_true rfl) ?_
  intro p e s m below meth c X hr hlk hz G ls hl
  have hx := X.1.1
  have hb := X.1.2.1
  have hl : lv_has ls 3 [(0, .ref (eq E b)), (1, .int p1), (2, .int p2)] := hl
  unfold fX1_addOfficer at hf
  refine lv_aload_n hx hb dX1_addOfficer_0 rfl (lv_at hl 0 rfl) ?_
  refine gf1 X G ((hbs 0 (by decide)).2 (by decide)) (hbs 0 (by decide)).1 6 (by decide) rfl kf_X1_31 iwX1 dX1_addOfficer_1 ?_
  refine lv_iconst (v := (3 : Int32)) hx hb dX1_addOfficer_4 (by decide) ?_
  refine lv_icmp_ge (tgt := 41) hx hb dX1_addOfficer_5 (by decide) (fun c1 => ?_) (fun c1 => ?_)
  · have hf := it_t hf c1
    exact rtWv X hlk G hr (so_i hf) dX1_addOfficer_41
  · have hf := it_f hf c1
    refine lv_aload_n hx hb dX1_addOfficer_8 rfl (lv_at hl 0 rfl) ?_
    refine gf1 X G ((hbs 0 (by decide)).2 (by decide)) (hbs 0 (by decide)).1 12 (by decide) rfl kf_X1_50 iwX1 dX1_addOfficer_9 ?_
    refine lv_bipush (v := (32 : Int32)) hx hb dX1_addOfficer_12 (by decide) ?_
    refine lv_aload_n hx hb dX1_addOfficer_14 rfl (lv_at hl 0 rfl) ?_
    refine gf1 X G ((hbs 0 (by decide)).2 (by decide)) (hbs 0 (by decide)).1 6 (by decide) rfl kf_X1_31 iwX1 dX1_addOfficer_15 ?_
    refine lv_iadd hx hb dX1_addOfficer_18 ?_
    refine lv_iload_n hx hb dX1_addOfficer_19 rfl (lv_at hl 1 rfl) ?_
    obtain ⟨h2, hf⟩ := gd_s hf
    refine ia_st (k := (b + 13)) (n := 41) X G ((hbs 13 (by decide)).2 (by decide)) (hbs 13 (by decide)).1 (by decide) (ix_in h2) dX1_addOfficer_20 (fun s3 es3 H locs G => ?_)
    have hf := nm_s hf s3 es3
    refine lv_aload_n hx hb dX1_addOfficer_21 rfl (lv_at hl 0 rfl) ?_
    refine gf1 X G ((hbs 0 (by decide)).2 (by decide)) (hbs 0 (by decide)).1 10 (by decide) rfl kf_X1_44 iwX1 dX1_addOfficer_22 ?_
    refine lv_aload_n hx hb dX1_addOfficer_25 rfl (lv_at hl 0 rfl) ?_
    refine gf1 X G ((hbs 0 (by decide)).2 (by decide)) (hbs 0 (by decide)).1 6 (by decide) rfl kf_X1_31 iwX1 dX1_addOfficer_26 ?_
    refine lv_iload_n hx hb dX1_addOfficer_29 rfl (lv_at hl 2 rfl) ?_
    obtain ⟨h4, hf⟩ := gd_s hf
    refine ia_st (k := (b + 11)) (n := 3) X G ((hbs 11 (by decide)).2 (by decide)) (hbs 11 (by decide)).1 (by decide) (ix_in h4) dX1_addOfficer_30 (fun s5 es5 H locs G => ?_)
    have hf := nm_s hf s5 es5
    refine lv_aload_n hx hb dX1_addOfficer_31 rfl (lv_at hl 0 rfl) ?_
    refine lv_dup hx hb dX1_addOfficer_32 rfl ?_
    refine gf1 X G ((hbs 0 (by decide)).2 (by decide)) (hbs 0 (by decide)).1 6 (by decide) rfl kf_X1_31 iwX1 dX1_addOfficer_33 ?_
    refine lv_iconst (v := (1 : Int32)) hx hb dX1_addOfficer_36 (by decide) ?_
    refine lv_iadd hx hb dX1_addOfficer_37 ?_
    refine pf1 X G ((hbs 0 (by decide)).2 (by decide)) (hbs 0 (by decide)).1 6 (by decide) ps1_6 uio kf_X1_31 iwX1 rfl (ty := .int) (by decide +kernel) rfl rfl dX1_addOfficer_38 (fun s6 es6 H locs G => ?_)
    have hf := nm_s hf s6 es6
    exact rtWv X hlk G hr (so_i hf) dX1_addOfficer_41
def fX1_addSnow (b : Nat) (p1 : Int32) (st : St) : Option St := if (6 : Int32) ≤ (st.1 b 7) then (some st) else (gd (ix (st.1 b 7) 6) (nm (ui st (b + 12) (st.1 b 7).toNatClampNeg p1) (fun s3 => nm (ui s3 b 7 ((s3.1 b 7) + (1 : Int32))) (fun s4 => some s4))))
set_option maxRecDepth 100000 in
theorem tX1_addSnow (l : Launch) (E : Ev) (st : St) (sz : Nat) (hL : ∀ k, fxC k = true → k ∈ eL E) {b : Nat} (hbs : okL E b) (p1 : Int32) {res : St} (hf : fX1_addSnow b p1 st = some res) : Met l yX1_addSnow (.code yX1_addSnow cX1_addSnow 2 none :: uW) (rmk 0) (va_Pc [.ref (eq E b), .int p1] (Pre E st sz)) (QWv E res sz) 0 0 (Af E sz) := by
  refine Met_in (by decide) (Nat.le_of_ble_eq_true rfl) ?_
  intro p e s m below meth c X hr hlk hz G ls hl
  have hx := X.1.1
  have hb := X.1.2.1
  have hl : lv_has ls 2 [(0, .ref (eq E b)), (1, .int p1)] := hl
  unfold fX1_addSnow at hf
  refine lv_aload_n hx hb dX1_addSnow_0 rfl (lv_at hl 0 rfl) ?_
  refine gf1 X G ((hbs 0 (by decide)).2 (by decide)) (hbs 0 (by decide)).1 7 (by decide) rfl kf_X1_34 iwX1 dX1_addSnow_1 ?_
  refine lv_bipush (v := (6 : Int32)) hx hb dX1_addSnow_4 (by decide) ?_
  refine lv_icmp_ge (tgt := 29) hx hb dX1_addSnow_6 (by decide) (fun c1 => ?_) (fun c1 => ?_)
  · have hf := it_t hf c1
    exact rtWv X hlk G hr (so_i hf) dX1_addSnow_29
  · have hf := it_f hf c1
    refine lv_aload_n hx hb dX1_addSnow_9 rfl (lv_at hl 0 rfl) ?_
    refine gf1 X G ((hbs 0 (by decide)).2 (by decide)) (hbs 0 (by decide)).1 11 (by decide) rfl kf_X1_47 iwX1 dX1_addSnow_10 ?_
    refine lv_aload_n hx hb dX1_addSnow_13 rfl (lv_at hl 0 rfl) ?_
    refine gf1 X G ((hbs 0 (by decide)).2 (by decide)) (hbs 0 (by decide)).1 7 (by decide) rfl kf_X1_34 iwX1 dX1_addSnow_14 ?_
    refine lv_iload_n hx hb dX1_addSnow_17 rfl (lv_at hl 1 rfl) ?_
    obtain ⟨h2, hf⟩ := gd_s hf
    refine ia_st (k := (b + 12)) (n := 6) X G ((hbs 12 (by decide)).2 (by decide)) (hbs 12 (by decide)).1 (by decide) (ix_in h2) dX1_addSnow_18 (fun s3 es3 H locs G => ?_)
    have hf := nm_s hf s3 es3
    refine lv_aload_n hx hb dX1_addSnow_19 rfl (lv_at hl 0 rfl) ?_
    refine lv_dup hx hb dX1_addSnow_20 rfl ?_
    refine gf1 X G ((hbs 0 (by decide)).2 (by decide)) (hbs 0 (by decide)).1 7 (by decide) rfl kf_X1_34 iwX1 dX1_addSnow_21 ?_
    refine lv_iconst (v := (1 : Int32)) hx hb dX1_addSnow_24 (by decide) ?_
    refine lv_iadd hx hb dX1_addSnow_25 ?_
    refine pf1 X G ((hbs 0 (by decide)).2 (by decide)) (hbs 0 (by decide)).1 7 (by decide) ps1_7 uio kf_X1_34 iwX1 rfl (ty := .int) (by decide +kernel) rfl rfl dX1_addSnow_26 (fun s4 es4 H locs G => ?_)
    have hf := nm_s hf s4 es4
    exact rtWv X hlk G hr (so_i hf) dX1_addSnow_29
def fX0_put (p1 : Int32) (st : St) : Option St := if p1 = (0 : Int32) then (nm (ui st 100 1 (st.1 32 0)) (fun s2 => nm (ui s2 100 2 (s2.1 32 1)) (fun s4 => nm (ui s4 100 3 (s4.1 32 2)) (fun s6 => some s6)))) else (if p1 = (1 : Int32) then (br (fX1_addHouse 100 (st.1 32 0) (st.1 32 1) (st.1 32 2) st) (fun s5 => some s5)) else (if p1 = (2 : Int32) then (br (fX1_addLane 100 (st.1 32 0) (st.1 32 1) st) (fun s4 => some s4)) else (if p1 = (3 : Int32) then (gd (ix ((16 : Int32) + (st.1 32 0)) 41) (nm (ui st 113 ((16 : Int32) + (st.1 32 0)).toNatClampNeg (st.1 32 1)) (fun s4 => some s4))) else (if p1 = (4 : Int32) then (br (fX1_addOfficer 100 (st.1 32 0) (st.1 32 1) st) (fun s4 => some s4)) else (br (fX1_addSnow 100 (st.1 32 0) st) (fun s3 => some s3))))))
set_option maxRecDepth 100000 in
theorem tX0_put (l : Launch) (E : Ev) (st : St) (sz : Nat) (hL : ∀ k, fxC k = true → k ∈ eL E) (p1 : Int32) {res : St} (hf : fX0_put  p1 st = some res) : Met l yX0_put (.code yX0_put cX0_put 2 none :: uW) (rmk 1) (va_Pc [.ref (eq E 30), .int p1] (Pre E st sz)) (QWv E res sz) 0 0 (Af E sz) := by
  refine Met_in (by decide) (Nat.le_of_ble_eq_true rfl) ?_
  intro p e s m below meth c X hr hlk hz G ls hl
  have hx := X.1.1
  have hb := X.1.2.1
  have hl : lv_has ls 2 [(0, .ref (eq E 30)), (1, .int p1)] := hl
  unfold fX0_put at hf
  refine lv_iload_n hx hb dX0_put_0 rfl (lv_at hl 1 rfl) ?_
  by_cases cs0 : p1 = (0 : Int32)
  · have hf := it_t hf cs0
    refine tbl_in hx hb dX0_put_1 cs0 (by decide) (by decide) rfl (tgt := 36) (by decide) ?_
    refine lv_aload_n hx hb dX0_put_36 rfl (lv_at hl 0 rfl) ?_
    refine gf0 X G (hL 30 rfl) rfl 3 (by decide) rfl kf_X0_22 iwX0 dX0_put_37 ?_
    refine lv_aload_n hx hb dX0_put_40 rfl (lv_at hl 0 rfl) ?_
    refine gf0 X G (hL 30 rfl) rfl 1 (by decide) rfl kf_X0_11 iwX0 dX0_put_41 ?_
    refine lv_iconst (v := (0 : Int32)) hx hb dX0_put_44 (by decide) ?_
    refine ia_ldc (k := 32) (n := 3) X G (hL 32 rfl) rfl (by decide) 0 (by decide) dX0_put_45 ?_
    refine pf1 X G (hL 100 rfl) rfl 1 (by decide) ps1_1 uio kf_X0_88 iwX1 rfl (ty := .int) (by decide +kernel) rfl rfl dX0_put_46 (fun s2 es2 H locs G => ?_)
    have hf := nm_s hf s2 es2
    refine lv_aload_n hx hb dX0_put_49 rfl (lv_at hl 0 rfl) ?_
    refine gf0 X G (hL 30 rfl) rfl 3 (by decide) rfl kf_X0_22 iwX0 dX0_put_50 ?_
    refine lv_aload_n hx hb dX0_put_53 rfl (lv_at hl 0 rfl) ?_
    refine gf0 X G (hL 30 rfl) rfl 1 (by decide) rfl kf_X0_11 iwX0 dX0_put_54 ?_
    refine lv_iconst (v := (1 : Int32)) hx hb dX0_put_57 (by decide) ?_
    refine ia_ldc (k := 32) (n := 3) X G (hL 32 rfl) rfl (by decide) 1 (by decide) dX0_put_58 ?_
    refine pf1 X G (hL 100 rfl) rfl 2 (by decide) ps1_2 uio kf_X0_91 iwX1 rfl (ty := .int) (by decide +kernel) rfl rfl dX0_put_59 (fun s4 es4 H locs G => ?_)
    have hf := nm_s hf s4 es4
    refine lv_aload_n hx hb dX0_put_62 rfl (lv_at hl 0 rfl) ?_
    refine gf0 X G (hL 30 rfl) rfl 3 (by decide) rfl kf_X0_22 iwX0 dX0_put_63 ?_
    refine lv_aload_n hx hb dX0_put_66 rfl (lv_at hl 0 rfl) ?_
    refine gf0 X G (hL 30 rfl) rfl 1 (by decide) rfl kf_X0_11 iwX0 dX0_put_67 ?_
    refine lv_iconst (v := (2 : Int32)) hx hb dX0_put_70 (by decide) ?_
    refine ia_ldc (k := 32) (n := 3) X G (hL 32 rfl) rfl (by decide) 2 (by decide) dX0_put_71 ?_
    refine pf1 X G (hL 100 rfl) rfl 3 (by decide) ps1_3 uio kf_X0_94 iwX1 rfl (ty := .int) (by decide +kernel) rfl rfl dX0_put_72 (fun s6 es6 H locs G => ?_)
    have hf := nm_s hf s6 es6
    refine lv_goto (tgt := 189) hx hb dX0_put_75 (by decide) ?_
    exact rtWv X hlk G hr (so_i hf) dX0_put_189
  have hf := it_f hf cs0
  by_cases cs1 : p1 = (1 : Int32)
  · have hf := it_t hf cs1
    refine tbl_in hx hb dX0_put_1 cs1 (by decide) (by decide) rfl (tgt := 78) (by decide) ?_
    refine lv_aload_n hx hb dX0_put_78 rfl (lv_at hl 0 rfl) ?_
    refine gf0 X G (hL 30 rfl) rfl 3 (by decide) rfl kf_X0_22 iwX0 dX0_put_79 ?_
    refine lv_aload_n hx hb dX0_put_82 rfl (lv_at hl 0 rfl) ?_
    refine gf0 X G (hL 30 rfl) rfl 1 (by decide) rfl kf_X0_11 iwX0 dX0_put_83 ?_
    refine lv_iconst (v := (0 : Int32)) hx hb dX0_put_86 (by decide) ?_
    refine ia_ldc (k := 32) (n := 3) X G (hL 32 rfl) rfl (by decide) 0 (by decide) dX0_put_87 ?_
    refine lv_aload_n hx hb dX0_put_88 rfl (lv_at hl 0 rfl) ?_
    refine gf0 X G (hL 30 rfl) rfl 1 (by decide) rfl kf_X0_11 iwX0 dX0_put_89 ?_
    refine lv_iconst (v := (1 : Int32)) hx hb dX0_put_92 (by decide) ?_
    refine ia_ldc (k := 32) (n := 3) X G (hL 32 rfl) rfl (by decide) 1 (by decide) dX0_put_93 ?_
    refine lv_aload_n hx hb dX0_put_94 rfl (lv_at hl 0 rfl) ?_
    refine gf0 X G (hL 30 rfl) rfl 1 (by decide) rfl kf_X0_11 iwX0 dX0_put_95 ?_
    refine lv_iconst (v := (2 : Int32)) hx hb dX0_put_98 (by decide) ?_
    refine ia_ldc (k := 32) (n := 3) X G (hL 32 rfl) rfl (by decide) 2 (by decide) dX0_put_99 ?_
    obtain ⟨s5, h4, hf⟩ := br_s hf
    refine cVWv (As := [.int (st.1 32 0), .int (st.1 32 1), .int (st.1 32 2)]) (rest := []) X G kc_X0_97 (tX1_addHouse l E st _ hL (ok_100 hL) (st.1 32 0) (st.1 32 1) (st.1 32 2) h4) (rcv X G (hL 100 rfl) (cO1 rfl) rfl) rfl rfl (rmk_le (by omega) (by decide)) rfl hl.1 rfl (Nat.le_of_ble_eq_true rfl) dX0_put_100 ⟨Nat.zero_le _, Nat.zero_le _⟩ (fun H locs G => ?_)
    refine lv_goto (tgt := 189) hx hb dX0_put_103 (by decide) ?_
    exact rtWv X hlk G hr (so_i hf) dX0_put_189
  have hf := it_f hf cs1
  by_cases cs2 : p1 = (2 : Int32)
  · have hf := it_t hf cs2
    refine tbl_in hx hb dX0_put_1 cs2 (by decide) (by decide) rfl (tgt := 106) (by decide) ?_
    refine lv_aload_n hx hb dX0_put_106 rfl (lv_at hl 0 rfl) ?_
    refine gf0 X G (hL 30 rfl) rfl 3 (by decide) rfl kf_X0_22 iwX0 dX0_put_107 ?_
    refine lv_aload_n hx hb dX0_put_110 rfl (lv_at hl 0 rfl) ?_
    refine gf0 X G (hL 30 rfl) rfl 1 (by decide) rfl kf_X0_11 iwX0 dX0_put_111 ?_
    refine lv_iconst (v := (0 : Int32)) hx hb dX0_put_114 (by decide) ?_
    refine ia_ldc (k := 32) (n := 3) X G (hL 32 rfl) rfl (by decide) 0 (by decide) dX0_put_115 ?_
    refine lv_aload_n hx hb dX0_put_116 rfl (lv_at hl 0 rfl) ?_
    refine gf0 X G (hL 30 rfl) rfl 1 (by decide) rfl kf_X0_11 iwX0 dX0_put_117 ?_
    refine lv_iconst (v := (1 : Int32)) hx hb dX0_put_120 (by decide) ?_
    refine ia_ldc (k := 32) (n := 3) X G (hL 32 rfl) rfl (by decide) 1 (by decide) dX0_put_121 ?_
    obtain ⟨s4, h3, hf⟩ := br_s hf
    refine cVWv (As := [.int (st.1 32 0), .int (st.1 32 1)]) (rest := []) X G kc_X0_101 (tX1_addLane l E st _ hL (ok_100 hL) (st.1 32 0) (st.1 32 1) h3) (rcv X G (hL 100 rfl) (cO1 rfl) rfl) rfl rfl (rmk_le (by omega) (by decide)) rfl hl.1 rfl (Nat.le_of_ble_eq_true rfl) dX0_put_122 ⟨Nat.zero_le _, Nat.zero_le _⟩ (fun H locs G => ?_)
    refine lv_goto (tgt := 189) hx hb dX0_put_125 (by decide) ?_
    exact rtWv X hlk G hr (so_i hf) dX0_put_189
  have hf := it_f hf cs2
  by_cases cs3 : p1 = (3 : Int32)
  · have hf := it_t hf cs3
    refine tbl_in hx hb dX0_put_1 cs3 (by decide) (by decide) rfl (tgt := 128) (by decide) ?_
    refine lv_aload_n hx hb dX0_put_128 rfl (lv_at hl 0 rfl) ?_
    refine gf0 X G (hL 30 rfl) rfl 3 (by decide) rfl kf_X0_22 iwX0 dX0_put_129 ?_
    refine gf1 X G (hL 100 rfl) rfl 12 (by decide) rfl kf_X0_105 iwX1 dX0_put_132 ?_
    refine lv_bipush (v := (16 : Int32)) hx hb dX0_put_135 (by decide) ?_
    refine lv_aload_n hx hb dX0_put_137 rfl (lv_at hl 0 rfl) ?_
    refine gf0 X G (hL 30 rfl) rfl 1 (by decide) rfl kf_X0_11 iwX0 dX0_put_138 ?_
    refine lv_iconst (v := (0 : Int32)) hx hb dX0_put_141 (by decide) ?_
    refine ia_ldc (k := 32) (n := 3) X G (hL 32 rfl) rfl (by decide) 0 (by decide) dX0_put_142 ?_
    refine lv_iadd hx hb dX0_put_143 ?_
    refine lv_aload_n hx hb dX0_put_144 rfl (lv_at hl 0 rfl) ?_
    refine gf0 X G (hL 30 rfl) rfl 1 (by decide) rfl kf_X0_11 iwX0 dX0_put_145 ?_
    refine lv_iconst (v := (1 : Int32)) hx hb dX0_put_148 (by decide) ?_
    refine ia_ldc (k := 32) (n := 3) X G (hL 32 rfl) rfl (by decide) 1 (by decide) dX0_put_149 ?_
    obtain ⟨h3, hf⟩ := gd_s hf
    refine ia_st (k := 113) (n := 41) X G (hL 113 rfl) rfl (by decide) (ix_in h3) dX0_put_150 (fun s4 es4 H locs G => ?_)
    have hf := nm_s hf s4 es4
    refine lv_goto (tgt := 189) hx hb dX0_put_151 (by decide) ?_
    exact rtWv X hlk G hr (so_i hf) dX0_put_189
  have hf := it_f hf cs3
  by_cases cs4 : p1 = (4 : Int32)
  · have hf := it_t hf cs4
    refine tbl_in hx hb dX0_put_1 cs4 (by decide) (by decide) rfl (tgt := 154) (by decide) ?_
    refine lv_aload_n hx hb dX0_put_154 rfl (lv_at hl 0 rfl) ?_
    refine gf0 X G (hL 30 rfl) rfl 3 (by decide) rfl kf_X0_22 iwX0 dX0_put_155 ?_
    refine lv_aload_n hx hb dX0_put_158 rfl (lv_at hl 0 rfl) ?_
    refine gf0 X G (hL 30 rfl) rfl 1 (by decide) rfl kf_X0_11 iwX0 dX0_put_159 ?_
    refine lv_iconst (v := (0 : Int32)) hx hb dX0_put_162 (by decide) ?_
    refine ia_ldc (k := 32) (n := 3) X G (hL 32 rfl) rfl (by decide) 0 (by decide) dX0_put_163 ?_
    refine lv_aload_n hx hb dX0_put_164 rfl (lv_at hl 0 rfl) ?_
    refine gf0 X G (hL 30 rfl) rfl 1 (by decide) rfl kf_X0_11 iwX0 dX0_put_165 ?_
    refine lv_iconst (v := (1 : Int32)) hx hb dX0_put_168 (by decide) ?_
    refine ia_ldc (k := 32) (n := 3) X G (hL 32 rfl) rfl (by decide) 1 (by decide) dX0_put_169 ?_
    obtain ⟨s4, h3, hf⟩ := br_s hf
    refine cVWv (As := [.int (st.1 32 0), .int (st.1 32 1)]) (rest := []) X G kc_X0_108 (tX1_addOfficer l E st _ hL (ok_100 hL) (st.1 32 0) (st.1 32 1) h3) (rcv X G (hL 100 rfl) (cO1 rfl) rfl) rfl rfl (rmk_le (by omega) (by decide)) rfl hl.1 rfl (Nat.le_of_ble_eq_true rfl) dX0_put_170 ⟨Nat.zero_le _, Nat.zero_le _⟩ (fun H locs G => ?_)
    refine lv_goto (tgt := 189) hx hb dX0_put_173 (by decide) ?_
    exact rtWv X hlk G hr (so_i hf) dX0_put_189
  have hf := it_f hf cs4
  have kd : W p l e (rmk 1) s m [.ref (eq E 30), .int p1].toArray below meth c s.heap [] 0 0 (MQ below (QWv E res sz) [.ref (eq E 30), .int p1].toArray s 0 0 (Af E sz)) (F0 m 176 ls []) := by
    refine lv_aload_n hx hb dX0_put_176 rfl (lv_at hl 0 rfl) ?_
    refine gf0 X G (hL 30 rfl) rfl 3 (by decide) rfl kf_X0_22 iwX0 dX0_put_177 ?_
    refine lv_aload_n hx hb dX0_put_180 rfl (lv_at hl 0 rfl) ?_
    refine gf0 X G (hL 30 rfl) rfl 1 (by decide) rfl kf_X0_11 iwX0 dX0_put_181 ?_
    refine lv_iconst (v := (0 : Int32)) hx hb dX0_put_184 (by decide) ?_
    refine ia_ldc (k := 32) (n := 3) X G (hL 32 rfl) rfl (by decide) 0 (by decide) dX0_put_185 ?_
    obtain ⟨s3, h2, hf⟩ := br_s hf
    refine cVWv (As := [.int (st.1 32 0)]) (rest := []) X G kc_X0_111 (tX1_addSnow l E st _ hL (ok_100 hL) (st.1 32 0) h2) (rcv X G (hL 100 rfl) (cO1 rfl) rfl) rfl rfl (rmk_le (by omega) (by decide)) rfl hl.1 rfl (Nat.le_of_ble_eq_true rfl) dX0_put_186 ⟨Nat.zero_le _, Nat.zero_le _⟩ (fun H locs G => ?_)
    exact rtWv X hlk G hr (so_i hf) dX0_put_189
  refine lv_tableOut (tgt := 176) hx hb dX0_put_1 (sw_out (fun v h1 h2 => ?_)) (by decide) kd
  rcases (show v = 0 ∨ v = 1 ∨ v = 2 ∨ v = 3 ∨ v = 4 by omega) with rfl | rfl | rfl | rfl | rfl
  · exact cs0
  · exact cs1
  · exact cs2
  · exact cs3
  · exact cs4
def fX0_readClause_L83 (p1 : Int32) : Nat → Int32 → Int32 → St → Option (Int32 × St)
  | 0, _, _, _ => none
  | n + 1, y2, y4, st => gd (ix y2 6) (if (numT.getD y2.toNatClampNeg 0) ≤ y4 then (br (fX0_put y2 st) (fun s4 => some ((1 : Int32), s4))) else (bw (fX0_readNumber y2 y4 st) (fun x5 s4 => if x5 = 0 then (some ((0 : Int32), s4)) else (nm (y4 + (1 : Int32)) (fun x7 => (fX0_readClause_L83 p1 n) y2 x7 s4)))))
set_option maxRecDepth 100000 in
theorem wX0_readClause_L83 {p : Program} {l : Launch} {e : Env} {s : State} {m : MethodId} {args : Array Value} {below : List Frame} {meth : Method} {c : Code} {E : Ev} (hL : ∀ k, fxC k = true → k ∈ eL E) {p1 : Int32} {sz : Nat} {res : (Int32 × St)} (X : CX p s m args c E RX0 cX0_readClause 5 (Af E sz)) (hr : meth.sig.returnType = (some .boolean)) (hlk : meth.locks = false) : ∀ (n : Nat) (y2 : Int32) (y4 : Int32) (st : St) (H : Heap) (locs : List Loc), fX0_readClause_L83 p1  n y2 y4 st = some res → Gd E st (Af E sz) s H locs → ∀ ls : Array Slot, lv_has ls 5 [(0, .ref (eq E 30)), (2, .int y2), (4, .int y4)] → W p l e (rmk 2) s m args below meth c H locs 0 0 (MQ below (QWi E res.2 sz res.1) args s 0 0 (Af E sz)) (F0 m 83 ls []) := by
  have hx := X.1.1
  have hb := X.1.2.1
  intro n
  induction n with
  | zero =>
    intro y2 y4 st H locs hf G ls hl
    cases (show (none : Option (Int32 × St)) = some res from hf)
  | succ n ih =>
    intro y2 y4 st H locs hf G ls hl
    rw [fX0_readClause_L83] at hf
    refine lv_iload hx hb dX0_readClause_83 (lv_at hl 2 rfl) ?_
    refine va_gets hx hb X.2.2.2.1.2.2.1 G.2.2 X.1.2.2.2.1 (X.1.2.2.2.2 _ kf_X0_59) (fun _ h9 => h9) dX0_readClause_85 ?_
    refine lv_iload_n hx hb dX0_readClause_88 rfl (lv_at hl 1 rfl) ?_
    obtain ⟨h1, hf⟩ := gd_s hf
    refine va_ti hx hb X.2.2.2.1.2.2.2.1 G.2.2 (ix_in h1) rfl dX0_readClause_89 ?_
    refine lv_icmp_ge (tgt := 111) hx hb dX0_readClause_90 (by decide) (fun c2 => ?_) (fun c2 => ?_)
    · have hf := it_t hf c2
      refine lv_aload_n hx hb dX0_readClause_111 rfl (lv_at hl 0 rfl) ?_
      refine lv_iload_n hx hb dX0_readClause_112 rfl (lv_at hl 1 rfl) ?_
      obtain ⟨s4, h3, hf⟩ := br_s hf
      refine cVWv (As := [.int y2]) (rest := []) X G kc_X0_66 (tX0_put l E st _ hL  y2 h3) (rcv X G (hL 30 rfl) (cO0 rfl) rfl) rfl rfl (rmk_le (by omega) (by decide)) rfl hl.1 rfl (Nat.le_of_ble_eq_true rfl) dX0_readClause_113 ⟨Nat.zero_le _, Nat.zero_le _⟩ (fun H locs G => ?_)
      refine lv_iconst (v := (1 : Int32)) hx hb dX0_readClause_116 (by decide) ?_
      exact rtWz X hlk G hr rfl (so_i hf) dX0_readClause_117
    · have hf := it_f hf c2
      refine lv_aload_n hx hb dX0_readClause_93 rfl (lv_at hl 0 rfl) ?_
      refine lv_iload_n hx hb dX0_readClause_94 rfl (lv_at hl 1 rfl) ?_
      refine lv_iload hx hb dX0_readClause_95 (lv_at hl 2 rfl) ?_
      obtain ⟨x5, s4, h3, hf⟩ := bw_s hf
      refine cVWi (As := [.int y2, .int y4]) (rest := []) X G kc_X0_62 (tX0_readNumber l E st _ hL  y2 y4 h3) (rcv X G (hL 30 rfl) (cO0 rfl) rfl) rfl rfl (rmk_le (by omega) (by decide)) rfl hl.1 rfl (Nat.le_of_ble_eq_true rfl) dX0_readClause_97 ⟨Nat.zero_le _, Nat.zero_le _⟩ (fun H locs G => ?_)
      refine lv_if_ne (tgt := 105) hx hb dX0_readClause_100 (by decide) (fun c6 => ?_) (fun c6 => ?_)
      · have hf := it_f hf c6
        obtain ⟨x7, ex7⟩ : ∃ y : Int32, y = (y4 + (1 : Int32)) := ⟨_, rfl⟩
        have hf := nm_s hf x7 ex7
        refine lv_iinc (k := 2) (v := x7) (lv' := [(4, .int x7), (0, .ref (eq E 30)), (2, .int y2)]) hx hb dX0_readClause_105 hl rfl (by rw [ex7]; rfl) (by decide) rfl (fun ls hl => ?_)
        refine lv_goto (tgt := 83) hx hb dX0_readClause_108 (by decide) ?_
        exact ih y2 x7 s4 _ _ hf G _ (lv_sub hl [1, 2, 0] rfl)
      · have hf := it_t hf c6
        refine lv_iconst (v := (0 : Int32)) hx hb dX0_readClause_103 (by decide) ?_
        exact rtWz X hlk G hr rfl (so_i hf) dX0_readClause_104
def fX0_readClause_B48 (p1 : Int32) (y2 : Int32) (z0 : Int32) (st : St) : Option (Int32 × St) := if (40 : Int32) ≤ p1 then (bw (fX0_fail (4 : Int32) st) (fun x4 s3 => gd (bz x4) (some (x4, s3)))) else (if z0 = 0 then (bw (fX0_fail (4 : Int32) st) (fun x5 s4 => gd (bz x5) (some (x5, s4)))) else (br (fX0_isFull st y2) (fun x4 => if x4 = 0 then (br (fX7_step st) (fun s7 => fX0_readClause_L83 p1 10000 y2 (0 : Int32) s7)) else (bw (fX0_fail (4 : Int32) st) (fun x8 s7 => gd (bz x8) (some (x8, s7)))))))
set_option maxRecDepth 100000 in
theorem wX0_readClause_B48 {p : Program} {l : Launch} {e : Env} {s : State} {m : MethodId} {args : Array Value} {below : List Frame} {meth : Method} {c : Code} {E : Ev} (hL : ∀ k, fxC k = true → k ∈ eL E) {p1 : Int32} {sz : Nat} {res : (Int32 × St)} (X : CX p s m args c E RX0 cX0_readClause 5 (Af E sz)) (hr : meth.sig.returnType = (some .boolean)) (hlk : meth.locks = false) : ∀ (y2 : Int32) (z0 : Int32) (st : St) (H : Heap) (locs : List Loc), fX0_readClause_B48 p1  y2 z0 st = some res → Gd E st (Af E sz) s H locs → ∀ ls : Array Slot, lv_has ls 5 [(0, .ref (eq E 30)), (1, .int p1), (2, .int y2)] → W p l e (rmk 2) s m args below meth c H locs 0 0 (MQ below (QWi E res.2 sz res.1) args s 0 0 (Af E sz)) (F0 m 48 ls [.int z0]) := by
  have hx := X.1.1
  have hb := X.1.2.1
  intro y2 z0 st H locs hf G ls hl
  unfold fX0_readClause_B48 at hf
  refine lv_istore_n (lv' := [(3, .int z0), (0, .ref (eq E 30)), (1, .int p1), (2, .int y2)]) hx hb dX0_readClause_48 rfl hl (by decide) rfl (fun ls hl => ?_)
  refine lv_iload_n hx hb dX0_readClause_49 rfl (lv_at hl 2 rfl) ?_
  refine lv_bipush (v := (40 : Int32)) hx hb dX0_readClause_50 (by decide) ?_
  refine lv_icmp_ge (tgt := 67) hx hb dX0_readClause_52 (by decide) (fun c1 => ?_) (fun c1 => ?_)
  · have hf := it_t hf c1
    refine lv_aload_n hx hb dX0_readClause_67 rfl (lv_at hl 1 rfl) ?_
    refine lv_iconst (v := (4 : Int32)) hx hb dX0_readClause_68 (by decide) ?_
    obtain ⟨x4, s3, h2, hf⟩ := bw_s hf
    refine cVWi (As := [.int (4 : Int32)]) (rest := []) X G kc_X0_46 (tX0_fail l E st _ hL  (4 : Int32) h2) (rcv X G (hL 30 rfl) (cO0 rfl) rfl) rfl rfl (rmk_le (by omega) (by decide)) rfl hl.1 rfl (Nat.le_of_ble_eq_true rfl) dX0_readClause_69 ⟨Nat.zero_le _, Nat.zero_le _⟩ (fun H locs G => ?_)
    obtain ⟨h5, hf⟩ := gd_s hf
    exact rtWz X hlk G hr (bz_n h5) (so_i hf) dX0_readClause_72
  · have hf := it_f hf c1
    refine lv_iload_n hx hb dX0_readClause_55 rfl (lv_at hl 0 rfl) ?_
    refine lv_if_eq (tgt := 67) hx hb dX0_readClause_56 (by decide) (fun c2 => ?_) (fun c2 => ?_)
    · have hf := it_t hf c2
      refine lv_aload_n hx hb dX0_readClause_67 rfl (lv_at hl 1 rfl) ?_
      refine lv_iconst (v := (4 : Int32)) hx hb dX0_readClause_68 (by decide) ?_
      obtain ⟨x5, s4, h3, hf⟩ := bw_s hf
      refine cVWi (As := [.int (4 : Int32)]) (rest := []) X G kc_X0_46 (tX0_fail l E st _ hL  (4 : Int32) h3) (rcv X G (hL 30 rfl) (cO0 rfl) rfl) rfl rfl (rmk_le (by omega) (by decide)) rfl hl.1 rfl (Nat.le_of_ble_eq_true rfl) dX0_readClause_69 ⟨Nat.zero_le _, Nat.zero_le _⟩ (fun H locs G => ?_)
      obtain ⟨h6, hf⟩ := gd_s hf
      exact rtWz X hlk G hr (bz_n h6) (so_i hf) dX0_readClause_72
    · have hf := it_f hf c2
      refine lv_aload_n hx hb dX0_readClause_59 rfl (lv_at hl 1 rfl) ?_
      refine lv_iload_n hx hb dX0_readClause_60 rfl (lv_at hl 3 rfl) ?_
      obtain ⟨x4, h3, hf⟩ := br_s hf
      refine cVRi (As := [.int y2]) (rest := []) X G kc_X0_56 (tX0_isFull l E st _ hL  y2 h3) (rcv X G (hL 30 rfl) (cO0 rfl) rfl) rfl rfl (rmk_le (by omega) (by decide)) rfl hl.1 rfl (Nat.le_of_ble_eq_true rfl) dX0_readClause_61 ⟨Nat.zero_le _, Nat.zero_le _⟩ ?_
      refine lv_if_eq (tgt := 73) hx hb dX0_readClause_64 (by decide) (fun c5 => ?_) (fun c5 => ?_)
      · have hf := it_t hf c5
        refine lv_aload_n hx hb dX0_readClause_73 rfl (lv_at hl 1 rfl) ?_
        refine gf0 X G (hL 30 rfl) rfl 0 (by decide) rfl kf_X0_26 iwX0 dX0_readClause_74 ?_
        obtain ⟨s7, h6, hf⟩ := br_s hf
        refine cVWv (As := []) (rest := []) X G kc_X0_49 (tX7_step l E st _ hL   h6) (rcv X G (hL 20 rfl) (cO7 rfl) rfl) rfl rfl (rmk_le (by omega) (by decide)) rfl hl.1 rfl (Nat.le_of_ble_eq_true rfl) dX0_readClause_77 ⟨Nat.zero_le _, Nat.zero_le _⟩ (fun H locs G => ?_)
        refine lv_iconst (v := (0 : Int32)) hx hb dX0_readClause_80 (by decide) ?_
        refine lv_istore (lv' := [(4, .int (0 : Int32)), (3, .int z0), (0, .ref (eq E 30)), (1, .int p1), (2, .int y2)]) hx hb dX0_readClause_81 hl (by decide) rfl (fun ls hl => ?_)
        exact wX0_readClause_L83 hL X hr hlk 10000 y2 (0 : Int32) s7 _ _ hf G _ (lv_sub hl [2, 4, 0] rfl)
      · have hf := it_f hf c5
        refine lv_aload_n hx hb dX0_readClause_67 rfl (lv_at hl 1 rfl) ?_
        refine lv_iconst (v := (4 : Int32)) hx hb dX0_readClause_68 (by decide) ?_
        obtain ⟨x8, s7, h6, hf⟩ := bw_s hf
        refine cVWi (As := [.int (4 : Int32)]) (rest := []) X G kc_X0_46 (tX0_fail l E st _ hL  (4 : Int32) h6) (rcv X G (hL 30 rfl) (cO0 rfl) rfl) rfl rfl (rmk_le (by omega) (by decide)) rfl hl.1 rfl (Nat.le_of_ble_eq_true rfl) dX0_readClause_69 ⟨Nat.zero_le _, Nat.zero_le _⟩ (fun H locs G => ?_)
        obtain ⟨h9, hf⟩ := gd_s hf
        exact rtWz X hlk G hr (bz_n h9) (so_i hf) dX0_readClause_72
def fX0_readClause_B40 (p1 : Int32) (y2 : Int32) (z0 : Int32) (z1 : Int32) (st : St) : Option (Int32 × St) := if z1 = z0 then (fX0_readClause_B48 p1 y2 (1 : Int32) st) else (fX0_readClause_B48 p1 y2 (0 : Int32) st)
set_option maxRecDepth 100000 in
theorem wX0_readClause_B40 {p : Program} {l : Launch} {e : Env} {s : State} {m : MethodId} {args : Array Value} {below : List Frame} {meth : Method} {c : Code} {E : Ev} (hL : ∀ k, fxC k = true → k ∈ eL E) {p1 : Int32} {sz : Nat} {res : (Int32 × St)} (X : CX p s m args c E RX0 cX0_readClause 5 (Af E sz)) (hr : meth.sig.returnType = (some .boolean)) (hlk : meth.locks = false) : ∀ (y2 : Int32) (z0 : Int32) (z1 : Int32) (st : St) (H : Heap) (locs : List Loc), fX0_readClause_B40 p1  y2 z0 z1 st = some res → Gd E st (Af E sz) s H locs → ∀ ls : Array Slot, lv_has ls 5 [(0, .ref (eq E 30)), (1, .int p1), (2, .int y2)] → W p l e (rmk 2) s m args below meth c H locs 0 0 (MQ below (QWi E res.2 sz res.1) args s 0 0 (Af E sz)) (F0 m 40 ls [.int z0, .int z1]) := by
  have hx := X.1.1
  have hb := X.1.2.1
  intro y2 z0 z1 st H locs hf G ls hl
  unfold fX0_readClause_B40 at hf
  refine lv_icmp_ne (tgt := 47) hx hb dX0_readClause_40 (by decide) (fun c1 => ?_) (fun c1 => ?_)
  · have hf := it_f hf c1
    refine lv_iconst (v := (0 : Int32)) hx hb dX0_readClause_47 (by decide) ?_
    exact wX0_readClause_B48 hL X hr hlk y2 (0 : Int32) st _ _ hf G _ (lv_sub hl [0, 1, 2] rfl)
  · have hf := it_t hf c1
    refine lv_iconst (v := (1 : Int32)) hx hb dX0_readClause_43 (by decide) ?_
    refine lv_goto (tgt := 48) hx hb dX0_readClause_44 (by decide) ?_
    exact wX0_readClause_B48 hL X hr hlk y2 (1 : Int32) st _ _ hf G _ (lv_sub hl [0, 1, 2] rfl)
def fX0_readClause_B31 (p1 : Int32) (y2 : Int32) (z0 : Int32) (st : St) : Option (Int32 × St) := if p1 = 0 then (fX0_readClause_B40 p1 y2 (1 : Int32) z0 st) else (fX0_readClause_B40 p1 y2 (0 : Int32) z0 st)
set_option maxRecDepth 100000 in
theorem wX0_readClause_B31 {p : Program} {l : Launch} {e : Env} {s : State} {m : MethodId} {args : Array Value} {below : List Frame} {meth : Method} {c : Code} {E : Ev} (hL : ∀ k, fxC k = true → k ∈ eL E) {p1 : Int32} {sz : Nat} {res : (Int32 × St)} (X : CX p s m args c E RX0 cX0_readClause 5 (Af E sz)) (hr : meth.sig.returnType = (some .boolean)) (hlk : meth.locks = false) : ∀ (y2 : Int32) (z0 : Int32) (st : St) (H : Heap) (locs : List Loc), fX0_readClause_B31 p1  y2 z0 st = some res → Gd E st (Af E sz) s H locs → ∀ ls : Array Slot, lv_has ls 5 [(0, .ref (eq E 30)), (1, .int p1), (2, .int y2)] → W p l e (rmk 2) s m args below meth c H locs 0 0 (MQ below (QWi E res.2 sz res.1) args s 0 0 (Af E sz)) (F0 m 31 ls [.int z0]) := by
  have hx := X.1.1
  have hb := X.1.2.1
  intro y2 z0 st H locs hf G ls hl
  unfold fX0_readClause_B31 at hf
  refine lv_iload_n hx hb dX0_readClause_31 rfl (lv_at hl 1 rfl) ?_
  refine lv_if_ne (tgt := 39) hx hb dX0_readClause_32 (by decide) (fun c1 => ?_) (fun c1 => ?_)
  · have hf := it_f hf c1
    refine lv_iconst (v := (0 : Int32)) hx hb dX0_readClause_39 (by decide) ?_
    exact wX0_readClause_B40 hL X hr hlk y2 (0 : Int32) z0 st _ _ hf G _ (lv_sub hl [0, 1, 2] rfl)
  · have hf := it_t hf c1
    refine lv_iconst (v := (1 : Int32)) hx hb dX0_readClause_35 (by decide) ?_
    refine lv_goto (tgt := 40) hx hb dX0_readClause_36 (by decide) ?_
    exact wX0_readClause_B40 hL X hr hlk y2 (1 : Int32) z0 st _ _ hf G _ (lv_sub hl [0, 1, 2] rfl)
def fX0_readClause (p1 : Int32) (st : St) : Option (Int32 × St) := br (fX0_formOf (st.1 20 5)) (fun x2 => if x2 = (-1 : Int32) then (bw (fX0_fail (0 : Int32) st) (fun x6 s5 => gd (bz x6) (some (x6, s5)))) else (if x2 = 0 then (fX0_readClause_B31 p1 x2 (1 : Int32) st) else (fX0_readClause_B31 p1 x2 (0 : Int32) st)))
set_option maxRecDepth 100000 in
theorem tX0_readClause (l : Launch) (E : Ev) (st : St) (sz : Nat) (hL : ∀ k, fxC k = true → k ∈ eL E) (p1 : Int32) {res : (Int32 × St)} (hf : fX0_readClause  p1 st = some res) : Met l yX0_readClause (.code yX0_readClause cX0_readClause 5 (some .boolean) :: uW) (rmk 2) (va_Pc [.ref (eq E 30), .int p1] (Pre E st sz)) (QWi E res.2 sz res.1) 0 0 (Af E sz) := by
  refine Met_in (by decide) (Nat.le_of_ble_eq_true rfl) ?_
  intro p e s m below meth c X hr hlk hz G ls hl
  have hx := X.1.1
  have hb := X.1.2.1
  have hl : lv_has ls 5 [(0, .ref (eq E 30)), (1, .int p1)] := hl
  unfold fX0_readClause at hf
  refine lv_aload_n hx hb dX0_readClause_0 rfl (lv_at hl 0 rfl) ?_
  refine gf0 X G (hL 30 rfl) rfl 0 (by decide) rfl kf_X0_26 iwX0 dX0_readClause_1 ?_
  refine gf7 X G (hL 20 rfl) rfl 5 (by decide) rfl kf_X0_41 iwX7 dX0_readClause_4 ?_
  obtain ⟨x2, h1, hf⟩ := br_s hf
  refine cSRi (As := [.int (st.1 20 5)]) (rest := []) X G kc_X0_52 (tX0_formOf l E st _  (st.1 20 5) h1) rfl rfl (rmk_le (by omega) (by decide)) rfl hl.1 rfl (Nat.le_of_ble_eq_true rfl) dX0_readClause_7 ⟨Nat.zero_le _, Nat.zero_le _⟩ ?_
  refine lv_istore_n (lv' := [(2, .int x2), (0, .ref (eq E 30)), (1, .int p1)]) hx hb dX0_readClause_10 rfl hl (by decide) rfl (fun ls hl => ?_)
  refine lv_iload_n hx hb dX0_readClause_11 rfl (lv_at hl 0 rfl) ?_
  refine lv_iconst (v := (-1 : Int32)) hx hb dX0_readClause_12 (by decide) ?_
  refine lv_icmp_ne (tgt := 22) hx hb dX0_readClause_13 (by decide) (fun c3 => ?_) (fun c3 => ?_)
  · have hf := it_f hf c3
    refine lv_iload_n hx hb dX0_readClause_22 rfl (lv_at hl 0 rfl) ?_
    refine lv_if_ne (tgt := 30) hx hb dX0_readClause_23 (by decide) (fun c4 => ?_) (fun c4 => ?_)
    · have hf := it_f hf c4
      refine lv_iconst (v := (0 : Int32)) hx hb dX0_readClause_30 (by decide) ?_
      exact wX0_readClause_B31 hL X hr hlk x2 (0 : Int32) st _ _ hf G _ (lv_sub hl [1, 2, 0] rfl)
    · have hf := it_t hf c4
      refine lv_iconst (v := (1 : Int32)) hx hb dX0_readClause_26 (by decide) ?_
      refine lv_goto (tgt := 31) hx hb dX0_readClause_27 (by decide) ?_
      exact wX0_readClause_B31 hL X hr hlk x2 (1 : Int32) st _ _ hf G _ (lv_sub hl [1, 2, 0] rfl)
  · have hf := it_t hf c3
    refine lv_aload_n hx hb dX0_readClause_16 rfl (lv_at hl 1 rfl) ?_
    refine lv_iconst (v := (0 : Int32)) hx hb dX0_readClause_17 (by decide) ?_
    obtain ⟨x6, s5, h4, hf⟩ := bw_s hf
    refine cVWi (As := [.int (0 : Int32)]) (rest := []) X G kc_X0_46 (tX0_fail l E st _ hL  (0 : Int32) h4) (rcv X G (hL 30 rfl) (cO0 rfl) rfl) rfl rfl (rmk_le (by omega) (by decide)) rfl hl.1 rfl (Nat.le_of_ble_eq_true rfl) dX0_readClause_18 ⟨Nat.zero_le _, Nat.zero_le _⟩ (fun H locs G => ?_)
    obtain ⟨h7, hf⟩ := gd_s hf
    exact rtWz X hlk G hr (bz_n h7) (so_i hf) dX0_readClause_21
def fX0_read_L22 : Nat → Int32 → St → Option (Int32 × St)
  | 0, _, _ => none
  | n + 1, y1, st => if (40 : Int32) < y1 then (some ((st.1 30 2), st)) else (bw (fX0_readClause y1 st) (fun x4 s3 => if x4 = 0 then (some ((s3.1 30 2), s3)) else (if (s3.1 20 5) = (23 : Int32) then (some ((0 : Int32), s3)) else (if (s3.1 20 5) = (25 : Int32) then (br (fX7_step s3) (fun s9 => nm (y1 + (1 : Int32)) (fun x10 => (fX0_read_L22 n) x10 s9))) else (bw (fX0_fail (0 : Int32) s3) (fun x10 s9 => some ((s9.1 30 2), s9)))))))
set_option maxRecDepth 100000 in
theorem wX0_read_L22 {p : Program} {l : Launch} {e : Env} {s : State} {m : MethodId} {args : Array Value} {below : List Frame} {meth : Method} {c : Code} {E : Ev} (hL : ∀ k, fxC k = true → k ∈ eL E) {sz : Nat} {res : (Int32 × St)} (X : CX p s m args c E RX0 cX0_read 2 (Af E sz)) (hr : meth.sig.returnType = (some .int)) (hlk : meth.locks = false) : ∀ (n : Nat) (y1 : Int32) (st : St) (H : Heap) (locs : List Loc), fX0_read_L22   n y1 st = some res → Gd E st (Af E sz) s H locs → ∀ ls : Array Slot, lv_has ls 2 [(0, .ref (eq E 30)), (1, .int y1)] → W p l e (rmk 3) s m args below meth c H locs 0 0 (MQ below (QWi E res.2 sz res.1) args s 0 0 (Af E sz)) (F0 m 22 ls []) := by
  have hx := X.1.1
  have hb := X.1.2.1
  intro n
  induction n with
  | zero =>
    intro y1 st H locs hf G ls hl
    cases (show (none : Option (Int32 × St)) = some res from hf)
  | succ n ih =>
    intro y1 st H locs hf G ls hl
    rw [fX0_read_L22] at hf
    refine lv_iload_n hx hb dX0_read_22 rfl (lv_at hl 1 rfl) ?_
    refine lv_bipush (v := (40 : Int32)) hx hb dX0_read_23 (by decide) ?_
    refine lv_icmp_gt (tgt := 91) hx hb dX0_read_25 (by decide) (fun c1 => ?_) (fun c1 => ?_)
    · have hf := it_t hf c1
      refine lv_aload_n hx hb dX0_read_91 rfl (lv_at hl 0 rfl) ?_
      refine gf0 X G (hL 30 rfl) rfl 2 (by decide) rfl kf_X0_15 iwX0 dX0_read_92 ?_
      exact rtWi X hlk G hr (so_i hf) dX0_read_95
    · have hf := it_f hf c1
      refine lv_aload_n hx hb dX0_read_28 rfl (lv_at hl 0 rfl) ?_
      refine lv_iload_n hx hb dX0_read_29 rfl (lv_at hl 1 rfl) ?_
      obtain ⟨x4, s3, h2, hf⟩ := bw_s hf
      refine cVWi (As := [.int y1]) (rest := []) X G kc_X0_37 (tX0_readClause l E st _ hL  y1 h2) (rcv X G (hL 30 rfl) (cO0 rfl) rfl) rfl rfl (rmk_le (by omega) (by decide)) rfl hl.1 rfl (Nat.le_of_ble_eq_true rfl) dX0_read_30 ⟨Nat.zero_le _, Nat.zero_le _⟩ (fun H locs G => ?_)
      refine lv_if_ne (tgt := 41) hx hb dX0_read_33 (by decide) (fun c5 => ?_) (fun c5 => ?_)
      · have hf := it_f hf c5
        refine lv_aload_n hx hb dX0_read_41 rfl (lv_at hl 0 rfl) ?_
        refine gf0 X G (hL 30 rfl) rfl 0 (by decide) rfl kf_X0_26 iwX0 dX0_read_42 ?_
        refine gf7 X G (hL 20 rfl) rfl 5 (by decide) rfl kf_X0_41 iwX7 dX0_read_45 ?_
        refine lv_bipush (v := (23 : Int32)) hx hb dX0_read_48 (by decide) ?_
        refine lv_icmp_ne (tgt := 55) hx hb dX0_read_50 (by decide) (fun c6 => ?_) (fun c6 => ?_)
        · have hf := it_f hf c6
          refine lv_aload_n hx hb dX0_read_55 rfl (lv_at hl 0 rfl) ?_
          refine gf0 X G (hL 30 rfl) rfl 0 (by decide) rfl kf_X0_26 iwX0 dX0_read_56 ?_
          refine gf7 X G (hL 20 rfl) rfl 5 (by decide) rfl kf_X0_41 iwX7 dX0_read_59 ?_
          refine lv_bipush (v := (25 : Int32)) hx hb dX0_read_62 (by decide) ?_
          refine lv_icmp_eq (tgt := 78) hx hb dX0_read_64 (by decide) (fun c7 => ?_) (fun c7 => ?_)
          · have hf := it_t hf c7
            refine lv_aload_n hx hb dX0_read_78 rfl (lv_at hl 0 rfl) ?_
            refine gf0 X G (hL 30 rfl) rfl 0 (by decide) rfl kf_X0_26 iwX0 dX0_read_79 ?_
            obtain ⟨s9, h8, hf⟩ := br_s hf
            refine cVWv (As := []) (rest := []) X G kc_X0_49 (tX7_step l E s3 _ hL   h8) (rcv X G (hL 20 rfl) (cO7 rfl) rfl) rfl rfl (rmk_le (by omega) (by decide)) rfl hl.1 rfl (Nat.le_of_ble_eq_true rfl) dX0_read_82 ⟨Nat.zero_le _, Nat.zero_le _⟩ (fun H locs G => ?_)
            obtain ⟨x10, ex10⟩ : ∃ y : Int32, y = (y1 + (1 : Int32)) := ⟨_, rfl⟩
            have hf := nm_s hf x10 ex10
            refine lv_iinc (k := 1) (v := x10) (lv' := [(1, .int x10), (0, .ref (eq E 30))]) hx hb dX0_read_85 hl rfl (by rw [ex10]; rfl) (by decide) rfl (fun ls hl => ?_)
            refine lv_goto (tgt := 22) hx hb dX0_read_88 (by decide) ?_
            exact ih x10 s9 _ _ hf G _ (lv_sub hl [1, 0] rfl)
          · have hf := it_f hf c7
            refine lv_aload_n hx hb dX0_read_67 rfl (lv_at hl 0 rfl) ?_
            refine lv_iconst (v := (0 : Int32)) hx hb dX0_read_68 (by decide) ?_
            obtain ⟨x10, s9, h8, hf⟩ := bw_s hf
            refine cVWi (As := [.int (0 : Int32)]) (rest := []) X G kc_X0_46 (tX0_fail l E s3 _ hL  (0 : Int32) h8) (rcv X G (hL 30 rfl) (cO0 rfl) rfl) rfl rfl (rmk_le (by omega) (by decide)) rfl hl.1 rfl (Nat.le_of_ble_eq_true rfl) dX0_read_69 ⟨Nat.zero_le _, Nat.zero_le _⟩ (fun H locs G => ?_)
            refine lv_pop hx hb dX0_read_72 rfl ?_
            refine lv_aload_n hx hb dX0_read_73 rfl (lv_at hl 0 rfl) ?_
            refine gf0 X G (hL 30 rfl) rfl 2 (by decide) rfl kf_X0_15 iwX0 dX0_read_74 ?_
            exact rtWi X hlk G hr (so_i hf) dX0_read_77
        · have hf := it_t hf c6
          refine lv_iconst (v := (0 : Int32)) hx hb dX0_read_53 (by decide) ?_
          exact rtWi X hlk G hr (so_i hf) dX0_read_54
      · have hf := it_t hf c5
        refine lv_aload_n hx hb dX0_read_36 rfl (lv_at hl 0 rfl) ?_
        refine gf0 X G (hL 30 rfl) rfl 2 (by decide) rfl kf_X0_15 iwX0 dX0_read_37 ?_
        exact rtWi X hlk G hr (so_i hf) dX0_read_40
def fX0_read (st : St) : Option (Int32 × St) := br (fX1_clear 100 st) (fun s2 => nm (ui s2 100 0 (1 : Int32)) (fun s3 => nm (ui s3 30 2 (0 : Int32)) (fun s4 => fX0_read_L22 10000 (0 : Int32) s4)))
set_option maxRecDepth 100000 in
theorem tX0_read (l : Launch) (E : Ev) (st : St) (sz : Nat) (hL : ∀ k, fxC k = true → k ∈ eL E)  {res : (Int32 × St)} (hf : fX0_read   st = some res) : Met l yX0_read (.code yX0_read cX0_read 2 (some .int) :: uW) (rmk 3) (va_Pc [.ref (eq E 30)] (Pre E st sz)) (QWi E res.2 sz res.1) 0 0 (Af E sz) := by
  refine Met_in (by decide) (Nat.le_of_ble_eq_true rfl) ?_
  intro p e s m below meth c X hr hlk hz G ls hl
  have hx := X.1.1
  have hb := X.1.2.1
  have hl : lv_has ls 2 [(0, .ref (eq E 30))] := hl
  unfold fX0_read at hf
  refine lv_aload_n hx hb dX0_read_0 rfl (lv_at hl 0 rfl) ?_
  refine gf0 X G (hL 30 rfl) rfl 3 (by decide) rfl kf_X0_22 iwX0 dX0_read_1 ?_
  obtain ⟨s2, h1, hf⟩ := br_s hf
  refine cVWv (As := []) (rest := []) X G kc_X0_30 (tX1_clear l E st _ hL (ok_100 hL)  h1) (rcv X G (hL 100 rfl) (cO1 rfl) rfl) rfl rfl (rmk_le (by omega) (by decide)) rfl hl.1 rfl (Nat.le_of_ble_eq_true rfl) dX0_read_4 ⟨Nat.zero_le _, Nat.zero_le _⟩ (fun H locs G => ?_)
  refine lv_aload_n hx hb dX0_read_7 rfl (lv_at hl 0 rfl) ?_
  refine gf0 X G (hL 30 rfl) rfl 3 (by decide) rfl kf_X0_22 iwX0 dX0_read_8 ?_
  refine lv_iconst (v := (1 : Int32)) hx hb dX0_read_11 (by decide) ?_
  refine pf1 X G (hL 100 rfl) rfl 0 (by decide) ps1_0 uio kf_X0_33 iwX1 rfl (ty := .boolean) (by decide +kernel) rfl rfl dX0_read_12 (fun s3 es3 H locs G => ?_)
  have hf := nm_s hf s3 es3
  refine lv_aload_n hx hb dX0_read_15 rfl (lv_at hl 0 rfl) ?_
  refine lv_iconst (v := (0 : Int32)) hx hb dX0_read_16 (by decide) ?_
  refine pf0 X G (hL 30 rfl) rfl 2 (by decide) ps0_2 uio kf_X0_15 iwX0 rfl (ty := .int) (by decide +kernel) rfl rfl dX0_read_17 (fun s4 es4 H locs G => ?_)
  have hf := nm_s hf s4 es4
  refine lv_iconst (v := (0 : Int32)) hx hb dX0_read_20 (by decide) ?_
  refine lv_istore_n (lv' := [(1, .int (0 : Int32)), (0, .ref (eq E 30))]) hx hb dX0_read_21 rfl hl (by decide) rfl (fun ls hl => ?_)
  exact wX0_read_L22 hL X hr hlk 10000 (0 : Int32) s4 _ _ hf G _ (lv_sub hl [1, 0] rfl)
def fX1_copyFrom (b : Nat) (o1 : Nat) (st : St) : Option St := gd (bz (st.1 o1 0)) (nm (ui st b 0 (st.1 o1 0)) (fun s1 => nm (ui s1 b 1 (s1.1 o1 1)) (fun s3 => nm (ui s3 b 2 (s3.1 o1 2)) (fun s4 => nm (ui s4 b 3 (s4.1 o1 3)) (fun s5 => nm (ui s5 b 4 (s5.1 o1 4)) (fun s6 => nm (ui s6 b 5 (s6.1 o1 5)) (fun s7 => nm (ui s7 b 6 (s7.1 o1 6)) (fun s8 => nm (ui s8 b 7 (s8.1 o1 7)) (fun s9 => nm (ur s9 (b + 9) (va_cpy (s9.1 (o1 + 9)) (s9.1 (b + 9)) 0 0 8)) (fun s10 => nm (ur s10 (b + 10) (va_cpy (s10.1 (o1 + 10)) (s10.1 (b + 10)) 0 0 8)) (fun s11 => nm (ur s11 (b + 11) (va_cpy (s11.1 (o1 + 11)) (s11.1 (b + 11)) 0 0 3)) (fun s12 => nm (ur s12 (b + 12) (va_cpy (s12.1 (o1 + 12)) (s12.1 (b + 12)) 0 0 6)) (fun s13 => nm (ur s13 (b + 13) (va_cpy (s13.1 (o1 + 13)) (s13.1 (b + 13)) 0 0 41)) (fun s14 => some s14))))))))))))))
set_option maxRecDepth 100000 in
theorem tX1_copyFrom (l : Launch) (E : Ev) (st : St) (sz : Nat) (hL : ∀ k, fxC k = true → k ∈ eL E) {b : Nat} {o1 : Nat} (hbs : okL E b) (ho1 : okL E o1)  {res : St} (hf : fX1_copyFrom b o1  st = some res) : Met l yX1_copyFrom (.code yX1_copyFrom cX1_copyFrom 2 none :: uW) (rmk 1) (va_Pc [.ref (eq E b), .ref (eq E o1)] (Pre E st sz)) (QWv E res sz) 0 0 (Af E sz) := by
  refine Met_in (by decide) (Nat.le_of_ble_eq_true rfl) ?_
  intro p e s m below meth c X hr hlk hz G ls hl
  have hx := X.1.1
  have hb := X.1.2.1
  have hl : lv_has ls 2 [(0, .ref (eq E b)), (1, .ref (eq E o1))] := hl
  unfold fX1_copyFrom at hf
  refine lv_aload_n hx hb dX1_copyFrom_0 rfl (lv_at hl 0 rfl) ?_
  refine lv_aload_n hx hb dX1_copyFrom_1 rfl (lv_at hl 1 rfl) ?_
  refine gf1 X G ((ho1 0 (by decide)).2 (by decide)) (ho1 0 (by decide)).1 0 (by decide) rfl kf_X1_9 iwX1 dX1_copyFrom_2 ?_
  obtain ⟨h2, hf⟩ := gd_s hf
  refine pf1 X G ((hbs 0 (by decide)).2 (by decide)) (hbs 0 (by decide)).1 0 (by decide) ps1_0 uio kf_X1_9 iwX1 rfl (ty := .boolean) (by decide +kernel) (bz_n h2) (bz_f h2) dX1_copyFrom_5 (fun s1 es1 H locs G => ?_)
  have hf := nm_s hf s1 es1
  refine lv_aload_n hx hb dX1_copyFrom_8 rfl (lv_at hl 0 rfl) ?_
  refine lv_aload_n hx hb dX1_copyFrom_9 rfl (lv_at hl 1 rfl) ?_
  refine gf1 X G ((ho1 0 (by decide)).2 (by decide)) (ho1 0 (by decide)).1 1 (by decide) rfl kf_X1_15 iwX1 dX1_copyFrom_10 ?_
  refine pf1 X G ((hbs 0 (by decide)).2 (by decide)) (hbs 0 (by decide)).1 1 (by decide) ps1_1 uio kf_X1_15 iwX1 rfl (ty := .int) (by decide +kernel) rfl rfl dX1_copyFrom_13 (fun s3 es3 H locs G => ?_)
  have hf := nm_s hf s3 es3
  refine lv_aload_n hx hb dX1_copyFrom_16 rfl (lv_at hl 0 rfl) ?_
  refine lv_aload_n hx hb dX1_copyFrom_17 rfl (lv_at hl 1 rfl) ?_
  refine gf1 X G ((ho1 0 (by decide)).2 (by decide)) (ho1 0 (by decide)).1 2 (by decide) rfl kf_X1_19 iwX1 dX1_copyFrom_18 ?_
  refine pf1 X G ((hbs 0 (by decide)).2 (by decide)) (hbs 0 (by decide)).1 2 (by decide) ps1_2 uio kf_X1_19 iwX1 rfl (ty := .int) (by decide +kernel) rfl rfl dX1_copyFrom_21 (fun s4 es4 H locs G => ?_)
  have hf := nm_s hf s4 es4
  refine lv_aload_n hx hb dX1_copyFrom_24 rfl (lv_at hl 0 rfl) ?_
  refine lv_aload_n hx hb dX1_copyFrom_25 rfl (lv_at hl 1 rfl) ?_
  refine gf1 X G ((ho1 0 (by decide)).2 (by decide)) (ho1 0 (by decide)).1 3 (by decide) rfl kf_X1_22 iwX1 dX1_copyFrom_26 ?_
  refine pf1 X G ((hbs 0 (by decide)).2 (by decide)) (hbs 0 (by decide)).1 3 (by decide) ps1_3 uio kf_X1_22 iwX1 rfl (ty := .int) (by decide +kernel) rfl rfl dX1_copyFrom_29 (fun s5 es5 H locs G => ?_)
  have hf := nm_s hf s5 es5
  refine lv_aload_n hx hb dX1_copyFrom_32 rfl (lv_at hl 0 rfl) ?_
  refine lv_aload_n hx hb dX1_copyFrom_33 rfl (lv_at hl 1 rfl) ?_
  refine gf1 X G ((ho1 0 (by decide)).2 (by decide)) (ho1 0 (by decide)).1 4 (by decide) rfl kf_X1_25 iwX1 dX1_copyFrom_34 ?_
  refine pf1 X G ((hbs 0 (by decide)).2 (by decide)) (hbs 0 (by decide)).1 4 (by decide) ps1_4 uio kf_X1_25 iwX1 rfl (ty := .int) (by decide +kernel) rfl rfl dX1_copyFrom_37 (fun s6 es6 H locs G => ?_)
  have hf := nm_s hf s6 es6
  refine lv_aload_n hx hb dX1_copyFrom_40 rfl (lv_at hl 0 rfl) ?_
  refine lv_aload_n hx hb dX1_copyFrom_41 rfl (lv_at hl 1 rfl) ?_
  refine gf1 X G ((ho1 0 (by decide)).2 (by decide)) (ho1 0 (by decide)).1 5 (by decide) rfl kf_X1_28 iwX1 dX1_copyFrom_42 ?_
  refine pf1 X G ((hbs 0 (by decide)).2 (by decide)) (hbs 0 (by decide)).1 5 (by decide) ps1_5 uio kf_X1_28 iwX1 rfl (ty := .int) (by decide +kernel) rfl rfl dX1_copyFrom_45 (fun s7 es7 H locs G => ?_)
  have hf := nm_s hf s7 es7
  refine lv_aload_n hx hb dX1_copyFrom_48 rfl (lv_at hl 0 rfl) ?_
  refine lv_aload_n hx hb dX1_copyFrom_49 rfl (lv_at hl 1 rfl) ?_
  refine gf1 X G ((ho1 0 (by decide)).2 (by decide)) (ho1 0 (by decide)).1 6 (by decide) rfl kf_X1_31 iwX1 dX1_copyFrom_50 ?_
  refine pf1 X G ((hbs 0 (by decide)).2 (by decide)) (hbs 0 (by decide)).1 6 (by decide) ps1_6 uio kf_X1_31 iwX1 rfl (ty := .int) (by decide +kernel) rfl rfl dX1_copyFrom_53 (fun s8 es8 H locs G => ?_)
  have hf := nm_s hf s8 es8
  refine lv_aload_n hx hb dX1_copyFrom_56 rfl (lv_at hl 0 rfl) ?_
  refine lv_aload_n hx hb dX1_copyFrom_57 rfl (lv_at hl 1 rfl) ?_
  refine gf1 X G ((ho1 0 (by decide)).2 (by decide)) (ho1 0 (by decide)).1 7 (by decide) rfl kf_X1_34 iwX1 dX1_copyFrom_58 ?_
  refine pf1 X G ((hbs 0 (by decide)).2 (by decide)) (hbs 0 (by decide)).1 7 (by decide) ps1_7 uio kf_X1_34 iwX1 rfl (ty := .int) (by decide +kernel) rfl rfl dX1_copyFrom_61 (fun s9 es9 H locs G => ?_)
  have hf := nm_s hf s9 es9
  refine lv_aload_n hx hb dX1_copyFrom_64 rfl (lv_at hl 1 rfl) ?_
  refine gf1 X G ((ho1 0 (by decide)).2 (by decide)) (ho1 0 (by decide)).1 8 (by decide) rfl kf_X1_37 iwX1 dX1_copyFrom_65 ?_
  refine lv_iconst (v := (0 : Int32)) hx hb dX1_copyFrom_68 (by decide) ?_
  refine lv_aload_n hx hb dX1_copyFrom_69 rfl (lv_at hl 0 rfl) ?_
  refine gf1 X G ((hbs 0 (by decide)).2 (by decide)) (hbs 0 (by decide)).1 8 (by decide) rfl kf_X1_37 iwX1 dX1_copyFrom_70 ?_
  refine lv_iconst (v := (0 : Int32)) hx hb dX1_copyFrom_73 (by decide) ?_
  refine lv_bipush (v := (8 : Int32)) hx hb dX1_copyFrom_74 (by decide) ?_
  refine a_copyc (k0 := (o1 + 9)) (n0 := 8) (k1 := (b + 9)) (n1 := 8) X G hl.1 ((ho1 9 (by decide)).2 (by decide)) ((hbs 9 (by decide)).2 (by decide)) (ho1 9 (by decide)).1 (by decide) (hbs 9 (by decide)).1 (by decide) km_X1_53 kn_acopy ks_acopy ki_System 0 0 8 (by decide) (rmk_1 (by omega)) (rmk_l (by omega) (Nat.le_of_ble_eq_true rfl)) dX1_copyFrom_76 (fun s10 es10 H locs G => ?_)
  have hf := nm_s hf s10 es10
  refine lv_aload_n hx hb dX1_copyFrom_79 rfl (lv_at hl 1 rfl) ?_
  refine gf1 X G ((ho1 0 (by decide)).2 (by decide)) (ho1 0 (by decide)).1 9 (by decide) rfl kf_X1_41 iwX1 dX1_copyFrom_80 ?_
  refine lv_iconst (v := (0 : Int32)) hx hb dX1_copyFrom_83 (by decide) ?_
  refine lv_aload_n hx hb dX1_copyFrom_84 rfl (lv_at hl 0 rfl) ?_
  refine gf1 X G ((hbs 0 (by decide)).2 (by decide)) (hbs 0 (by decide)).1 9 (by decide) rfl kf_X1_41 iwX1 dX1_copyFrom_85 ?_
  refine lv_iconst (v := (0 : Int32)) hx hb dX1_copyFrom_88 (by decide) ?_
  refine lv_bipush (v := (8 : Int32)) hx hb dX1_copyFrom_89 (by decide) ?_
  refine a_copyc (k0 := (o1 + 10)) (n0 := 8) (k1 := (b + 10)) (n1 := 8) X G hl.1 ((ho1 10 (by decide)).2 (by decide)) ((hbs 10 (by decide)).2 (by decide)) (ho1 10 (by decide)).1 (by decide) (hbs 10 (by decide)).1 (by decide) km_X1_53 kn_acopy ks_acopy ki_System 0 0 8 (by decide) (rmk_1 (by omega)) (rmk_l (by omega) (Nat.le_of_ble_eq_true rfl)) dX1_copyFrom_91 (fun s11 es11 H locs G => ?_)
  have hf := nm_s hf s11 es11
  refine lv_aload_n hx hb dX1_copyFrom_94 rfl (lv_at hl 1 rfl) ?_
  refine gf1 X G ((ho1 0 (by decide)).2 (by decide)) (ho1 0 (by decide)).1 10 (by decide) rfl kf_X1_44 iwX1 dX1_copyFrom_95 ?_
  refine lv_iconst (v := (0 : Int32)) hx hb dX1_copyFrom_98 (by decide) ?_
  refine lv_aload_n hx hb dX1_copyFrom_99 rfl (lv_at hl 0 rfl) ?_
  refine gf1 X G ((hbs 0 (by decide)).2 (by decide)) (hbs 0 (by decide)).1 10 (by decide) rfl kf_X1_44 iwX1 dX1_copyFrom_100 ?_
  refine lv_iconst (v := (0 : Int32)) hx hb dX1_copyFrom_103 (by decide) ?_
  refine lv_iconst (v := (3 : Int32)) hx hb dX1_copyFrom_104 (by decide) ?_
  refine a_copyc (k0 := (o1 + 11)) (n0 := 3) (k1 := (b + 11)) (n1 := 3) X G hl.1 ((ho1 11 (by decide)).2 (by decide)) ((hbs 11 (by decide)).2 (by decide)) (ho1 11 (by decide)).1 (by decide) (hbs 11 (by decide)).1 (by decide) km_X1_53 kn_acopy ks_acopy ki_System 0 0 3 (by decide) (rmk_1 (by omega)) (rmk_l (by omega) (Nat.le_of_ble_eq_true rfl)) dX1_copyFrom_105 (fun s12 es12 H locs G => ?_)
  have hf := nm_s hf s12 es12
  refine lv_aload_n hx hb dX1_copyFrom_108 rfl (lv_at hl 1 rfl) ?_
  refine gf1 X G ((ho1 0 (by decide)).2 (by decide)) (ho1 0 (by decide)).1 11 (by decide) rfl kf_X1_47 iwX1 dX1_copyFrom_109 ?_
  refine lv_iconst (v := (0 : Int32)) hx hb dX1_copyFrom_112 (by decide) ?_
  refine lv_aload_n hx hb dX1_copyFrom_113 rfl (lv_at hl 0 rfl) ?_
  refine gf1 X G ((hbs 0 (by decide)).2 (by decide)) (hbs 0 (by decide)).1 11 (by decide) rfl kf_X1_47 iwX1 dX1_copyFrom_114 ?_
  refine lv_iconst (v := (0 : Int32)) hx hb dX1_copyFrom_117 (by decide) ?_
  refine lv_bipush (v := (6 : Int32)) hx hb dX1_copyFrom_118 (by decide) ?_
  refine a_copyc (k0 := (o1 + 12)) (n0 := 6) (k1 := (b + 12)) (n1 := 6) X G hl.1 ((ho1 12 (by decide)).2 (by decide)) ((hbs 12 (by decide)).2 (by decide)) (ho1 12 (by decide)).1 (by decide) (hbs 12 (by decide)).1 (by decide) km_X1_53 kn_acopy ks_acopy ki_System 0 0 6 (by decide) (rmk_1 (by omega)) (rmk_l (by omega) (Nat.le_of_ble_eq_true rfl)) dX1_copyFrom_120 (fun s13 es13 H locs G => ?_)
  have hf := nm_s hf s13 es13
  refine lv_aload_n hx hb dX1_copyFrom_123 rfl (lv_at hl 1 rfl) ?_
  refine gf1 X G ((ho1 0 (by decide)).2 (by decide)) (ho1 0 (by decide)).1 12 (by decide) rfl kf_X1_50 iwX1 dX1_copyFrom_124 ?_
  refine lv_iconst (v := (0 : Int32)) hx hb dX1_copyFrom_127 (by decide) ?_
  refine lv_aload_n hx hb dX1_copyFrom_128 rfl (lv_at hl 0 rfl) ?_
  refine gf1 X G ((hbs 0 (by decide)).2 (by decide)) (hbs 0 (by decide)).1 12 (by decide) rfl kf_X1_50 iwX1 dX1_copyFrom_129 ?_
  refine lv_iconst (v := (0 : Int32)) hx hb dX1_copyFrom_132 (by decide) ?_
  refine lv_bipush (v := (41 : Int32)) hx hb dX1_copyFrom_133 (by decide) ?_
  refine a_copyc (k0 := (o1 + 13)) (n0 := 41) (k1 := (b + 13)) (n1 := 41) X G hl.1 ((ho1 13 (by decide)).2 (by decide)) ((hbs 13 (by decide)).2 (by decide)) (ho1 13 (by decide)).1 (by decide) (hbs 13 (by decide)).1 (by decide) km_X1_53 kn_acopy ks_acopy ki_System 0 0 41 (by decide) (rmk_1 (by omega)) (rmk_l (by omega) (Nat.le_of_ble_eq_true rfl)) dX1_copyFrom_135 (fun s14 es14 H locs G => ?_)
  have hf := nm_s hf s14 es14
  exact rtWv X hlk G hr (so_i hf) dX1_copyFrom_138
def fX1_hasSnow_L2 (b : Nat) (p1 : Int32) (st : St) : Nat → Int32 → Option Int32
  | 0, _ => none
  | n + 1, y2 => if (st.1 b 7) ≤ y2 then (some (0 : Int32)) else (gd (ix y2 6) (if (st.1 (b + 12) y2.toNatClampNeg) = p1 then (some (1 : Int32)) else (nm (y2 + (1 : Int32)) (fun x4 => (fX1_hasSnow_L2 b p1 st n) x4))))
set_option maxRecDepth 100000 in
theorem wX1_hasSnow_L2 {p : Program} {l : Launch} {e : Env} {s : State} {m : MethodId} {args : Array Value} {below : List Frame} {meth : Method} {c : Code} {E : Ev} (hL : ∀ k, fxC k = true → k ∈ eL E) {b : Nat} {p1 : Int32} (hbs : okL E b) {st : St} {sz : Nat} {res : Int32} (X : CX p s m args c E RX1 cX1_hasSnow 3 (Af E sz)) (hr : meth.sig.returnType = (some .boolean)) (hlk : meth.locks = false) (G : Gd E st (Af E sz) s s.heap []) : ∀ (n : Nat) (y2 : Int32), fX1_hasSnow_L2 b p1 st  n y2 = some res → ∀ ls : Array Slot, lv_has ls 3 [(0, .ref (eq E b)), (1, .int p1), (2, .int y2)] → W p l e (rmk 0) s m args below meth c s.heap [] 0 0 (MQ below (QRi res) args s 0 0 (NoF)) (F0 m 2 ls []) := by
  have hx := X.1.1
  have hb := X.1.2.1
  intro n
  induction n with
  | zero =>
    intro y2 hf ls hl
    cases (show (none : Option Int32) = some res from hf)
  | succ n ih =>
    intro y2 hf ls hl
    rw [fX1_hasSnow_L2] at hf
    refine lv_iload_n hx hb dX1_hasSnow_2 rfl (lv_at hl 2 rfl) ?_
    refine lv_aload_n hx hb dX1_hasSnow_3 rfl (lv_at hl 0 rfl) ?_
    refine gf1 X G ((hbs 0 (by decide)).2 (by decide)) (hbs 0 (by decide)).1 7 (by decide) rfl kf_X1_34 iwX1 dX1_hasSnow_4 ?_
    refine lv_icmp_ge (tgt := 28) hx hb dX1_hasSnow_7 (by decide) (fun c1 => ?_) (fun c1 => ?_)
    · have hf := it_t hf c1
      refine lv_iconst (v := (0 : Int32)) hx hb dX1_hasSnow_28 (by decide) ?_
      exact rtRz X hlk hr rfl (so_i hf) dX1_hasSnow_29
    · have hf := it_f hf c1
      refine lv_aload_n hx hb dX1_hasSnow_10 rfl (lv_at hl 0 rfl) ?_
      refine gf1 X G ((hbs 0 (by decide)).2 (by decide)) (hbs 0 (by decide)).1 11 (by decide) rfl kf_X1_47 iwX1 dX1_hasSnow_11 ?_
      refine lv_iload_n hx hb dX1_hasSnow_14 rfl (lv_at hl 2 rfl) ?_
      obtain ⟨h2, hf⟩ := gd_s hf
      refine ia_ld (k := (b + 12)) (n := 6) X G ((hbs 12 (by decide)).2 (by decide)) (hbs 12 (by decide)).1 (by decide) (ix_in h2) dX1_hasSnow_15 ?_
      refine lv_iload_n hx hb dX1_hasSnow_16 rfl (lv_at hl 1 rfl) ?_
      refine lv_icmp_ne (tgt := 22) hx hb dX1_hasSnow_17 (by decide) (fun c3 => ?_) (fun c3 => ?_)
      · have hf := it_f hf c3
        obtain ⟨x4, ex4⟩ : ∃ y : Int32, y = (y2 + (1 : Int32)) := ⟨_, rfl⟩
        have hf := nm_s hf x4 ex4
        refine lv_iinc (k := 2) (v := x4) (lv' := [(2, .int x4), (0, .ref (eq E b)), (1, .int p1)]) hx hb dX1_hasSnow_22 hl rfl (by rw [ex4]; rfl) (by decide) rfl (fun ls hl => ?_)
        refine lv_goto (tgt := 2) hx hb dX1_hasSnow_25 (by decide) ?_
        exact ih x4 hf _ (lv_sub hl [1, 2, 0] rfl)
      · have hf := it_t hf c3
        refine lv_iconst (v := (1 : Int32)) hx hb dX1_hasSnow_20 (by decide) ?_
        exact rtRz X hlk hr rfl (so_i hf) dX1_hasSnow_21
def fX1_hasSnow (b : Nat) (st : St) (p1 : Int32) : Option Int32 := fX1_hasSnow_L2 b p1 st 10000 (0 : Int32)
set_option maxRecDepth 100000 in
theorem tX1_hasSnow (l : Launch) (E : Ev) (st : St) (sz : Nat) (hL : ∀ k, fxC k = true → k ∈ eL E) {b : Nat} (hbs : okL E b) (p1 : Int32) {res : Int32} (hf : fX1_hasSnow b st p1 = some res) : Met l yX1_hasSnow (.code yX1_hasSnow cX1_hasSnow 3 (some .boolean) :: uW) (rmk 0) (va_Pc [.ref (eq E b), .int p1] (Pre E st sz)) (QRi res) 0 0 (NoF) := by
  refine Met_in (by decide) (Nat.le_of_ble_eq_true rfl) ?_
  intro p e s m below meth c X hr hlk hz G ls hl
  have hx := X.1.1
  have hb := X.1.2.1
  have hl : lv_has ls 3 [(0, .ref (eq E b)), (1, .int p1)] := hl
  unfold fX1_hasSnow at hf
  refine lv_iconst (v := (0 : Int32)) hx hb dX1_hasSnow_0 (by decide) ?_
  refine lv_istore_n (lv' := [(2, .int (0 : Int32)), (0, .ref (eq E b)), (1, .int p1)]) hx hb dX1_hasSnow_1 rfl hl (by decide) rfl (fun ls hl => ?_)
  exact wX1_hasSnow_L2 hL hbs X hr hlk G 10000 (0 : Int32) hf _ (lv_sub hl [1, 2, 0] rfl)
def fX2_settle (b : Nat) (o1 : Nat) (st : St) : Option St := br (fX1_copyFrom (b + 14) o1 st) (fun s2 => nm (ur s2 (b + 2) (va_cpy (s2.1 (o1 + 13)) (s2.1 (b + 2)) 0 0 41)) (fun s3 => nm (ui s3 b 3 (0 : Int32)) (fun s4 => nm (ui s4 b 7 (0 : Int32)) (fun s5 => some s5))))
set_option maxRecDepth 100000 in
theorem tX2_settle (l : Launch) (E : Ev) (st : St) (sz : Nat) (hL : ∀ k, fxC k = true → k ∈ eL E) {b : Nat} {o1 : Nat} (hbs : okP E b) (ho1 : okL E o1)  {res : St} (hf : fX2_settle b o1  st = some res) : Met l yX2_settle (.code yX2_settle cX2_settle 2 none :: uW) (rmk 2) (va_Pc [.ref (eq E b), .ref (eq E o1)] (Pre E st sz)) (QWv E res sz) 0 0 (Af E sz) := by
  refine Met_in (by decide) (Nat.le_of_ble_eq_true rfl) ?_
  intro p e s m below meth c X hr hlk hz G ls hl
  have hx := X.1.1
  have hb := X.1.2.1
  have hl : lv_has ls 2 [(0, .ref (eq E b)), (1, .ref (eq E o1))] := hl
  unfold fX2_settle at hf
  refine lv_aload_n hx hb dX2_settle_0 rfl (lv_at hl 0 rfl) ?_
  refine gf2 X G ((hbs 0 (by decide)).2 (by decide)) (hbs 0 (by decide)).1 0 (by decide) rfl kf_X2_12 iwX2 dX2_settle_1 ?_
  refine lv_aload_n hx hb dX2_settle_4 rfl (lv_at hl 1 rfl) ?_
  obtain ⟨s2, h1, hf⟩ := br_s hf
  refine cVWv (As := [.ref (eq E o1)]) (rest := []) X G kc_X2_47 (tX1_copyFrom l E st _ hL (okP_L hbs) ho1  h1) (rcv X G (((okP_L hbs) 0 (by decide)).2 (by decide)) (cO1 ((okP_L hbs) 0 (by decide)).1) rfl) rfl rfl (rmk_le (by omega) (by decide)) rfl hl.1 rfl (Nat.le_of_ble_eq_true rfl) dX2_settle_5 ⟨Nat.zero_le _, Nat.zero_le _⟩ (fun H locs G => ?_)
  refine lv_aload_n hx hb dX2_settle_8 rfl (lv_at hl 1 rfl) ?_
  refine gf1 X G ((ho1 0 (by decide)).2 (by decide)) (ho1 0 (by decide)).1 12 (by decide) rfl kf_X2_51 iwX1 dX2_settle_9 ?_
  refine lv_iconst (v := (0 : Int32)) hx hb dX2_settle_12 (by decide) ?_
  refine lv_aload_n hx hb dX2_settle_13 rfl (lv_at hl 0 rfl) ?_
  refine gf2 X G ((hbs 0 (by decide)).2 (by decide)) (hbs 0 (by decide)).1 1 (by decide) rfl kf_X2_18 iwX2 dX2_settle_14 ?_
  refine lv_iconst (v := (0 : Int32)) hx hb dX2_settle_17 (by decide) ?_
  refine lv_bipush (v := (41 : Int32)) hx hb dX2_settle_18 (by decide) ?_
  refine a_copyc (k0 := (o1 + 13)) (n0 := 41) (k1 := (b + 2)) (n1 := 41) X G hl.1 ((ho1 13 (by decide)).2 (by decide)) ((hbs 2 (by decide)).2 (by decide)) (ho1 13 (by decide)).1 (by decide) (hbs 2 (by decide)).1 (by decide) km_X2_54 kn_acopy ks_acopy ki_System 0 0 41 (by decide) (rmk_1 (by omega)) (rmk_l (by omega) (Nat.le_of_ble_eq_true rfl)) dX2_settle_20 (fun s3 es3 H locs G => ?_)
  have hf := nm_s hf s3 es3
  refine lv_aload_n hx hb dX2_settle_23 rfl (lv_at hl 0 rfl) ?_
  refine lv_iconst (v := (0 : Int32)) hx hb dX2_settle_24 (by decide) ?_
  refine pf2 X G ((hbs 0 (by decide)).2 (by decide)) (hbs 0 (by decide)).1 3 (by decide) ps2_3 uio kf_X2_25 iwX2 rfl (ty := .int) (by decide +kernel) rfl rfl dX2_settle_25 (fun s4 es4 H locs G => ?_)
  have hf := nm_s hf s4 es4
  refine lv_aload_n hx hb dX2_settle_28 rfl (lv_at hl 0 rfl) ?_
  refine lv_iconst (v := (0 : Int32)) hx hb dX2_settle_29 (by decide) ?_
  refine pf2 X G ((hbs 0 (by decide)).2 (by decide)) (hbs 0 (by decide)).1 7 (by decide) ps2_7 uio kf_X2_38 iwX2 rfl (ty := .int) (by decide +kernel) rfl rfl dX2_settle_30 (fun s5 es5 H locs G => ?_)
  have hf := nm_s hf s5 es5
  exact rtWv X hlk G hr (so_i hf) dX2_settle_33
