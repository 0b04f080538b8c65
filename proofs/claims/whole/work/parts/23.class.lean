theorem dX8_pass_0 : decode cX8_pass 0 = .ok (.iconst 0, 1) := by decide +kernel
theorem dX8_pass_1 : decode cX8_pass 1 = .ok (.istore_n 3, 1) := by decide +kernel
theorem dX8_pass_2 : decode cX8_pass 2 = .ok (.iconst 0, 1) := by decide +kernel
theorem dX8_pass_3 : decode cX8_pass 3 = .ok (.istore 4, 2) := by decide +kernel
theorem dX8_pass_5 : decode cX8_pass 5 = .ok (.iload 4, 2) := by decide +kernel
theorem dX8_pass_7 : decode cX8_pass 7 = .ok (.aload_n 0, 1) := by decide +kernel
theorem dX8_pass_8 : decode cX8_pass 8 = .ok (.getfield 23, 3) := by decide +kernel
theorem dX8_pass_11 : decode cX8_pass 11 = .ok (.getfield 30, 3) := by decide +kernel
theorem dX8_pass_14 : decode cX8_pass 14 = .ok (.if_icmp .ge 35, 3) := by decide +kernel
theorem dX8_pass_17 : decode cX8_pass 17 = .ok (.aload_n 0, 1) := by decide +kernel
theorem dX8_pass_18 : decode cX8_pass 18 = .ok (.aload_n 1, 1) := by decide +kernel
theorem dX8_pass_19 : decode cX8_pass 19 = .ok (.iload 4, 2) := by decide +kernel
theorem dX8_pass_21 : decode cX8_pass 21 = .ok (.invokevirtual 33, 3) := by decide +kernel
theorem dX8_pass_24 : decode cX8_pass 24 = .ok (.istore 5, 2) := by decide +kernel
theorem dX8_pass_26 : decode cX8_pass 26 = .ok (.iload 5, 2) := by decide +kernel
theorem dX8_pass_28 : decode cX8_pass 28 = .ok (.ifCond .lt 15, 3) := by decide +kernel
theorem dX8_pass_31 : decode cX8_pass 31 = .ok (.iload_n 3, 1) := by decide +kernel
theorem dX8_pass_32 : decode cX8_pass 32 = .ok (.aload_n 0, 1) := by decide +kernel
theorem dX8_pass_33 : decode cX8_pass 33 = .ok (.aload_n 1, 1) := by decide +kernel
theorem dX8_pass_34 : decode cX8_pass 34 = .ok (.iload 4, 2) := by decide +kernel
theorem dX8_pass_36 : decode cX8_pass 36 = .ok (.iload 5, 2) := by decide +kernel
theorem dX8_pass_38 : decode cX8_pass 38 = .ok (.invokevirtual 37, 3) := by decide +kernel
theorem dX8_pass_41 : decode cX8_pass 41 = .ok (.iadd, 1) := by decide +kernel
theorem dX8_pass_42 : decode cX8_pass 42 = .ok (.istore_n 3, 1) := by decide +kernel
theorem dX8_pass_43 : decode cX8_pass 43 = .ok (.iinc 4 1, 3) := by decide +kernel
theorem dX8_pass_46 : decode cX8_pass 46 = .ok (.goto (-41), 3) := by decide +kernel
theorem dX8_pass_49 : decode cX8_pass 49 = .ok (.aload_n 0, 1) := by decide +kernel
theorem dX8_pass_50 : decode cX8_pass 50 = .ok (.aload_n 1, 1) := by decide +kernel
theorem dX8_pass_51 : decode cX8_pass 51 = .ok (.iload_n 2, 1) := by decide +kernel
theorem dX8_pass_52 : decode cX8_pass 52 = .ok (.invokevirtual 41, 3) := by decide +kernel
theorem dX8_pass_55 : decode cX8_pass 55 = .ok (.iload_n 3, 1) := by decide +kernel
theorem dX8_pass_56 : decode cX8_pass 56 = .ok (.ireturn, 1) := by decide +kernel
theorem dX6_agrees_0 : decode cX6_agrees 0 = .ok (.iconst 0, 1) := by decide +kernel
theorem dX6_agrees_1 : decode cX6_agrees 1 = .ok (.istore_n 2, 1) := by decide +kernel
theorem dX6_agrees_2 : decode cX6_agrees 2 = .ok (.iload_n 2, 1) := by decide +kernel
theorem dX6_agrees_3 : decode cX6_agrees 3 = .ok (.aload_n 0, 1) := by decide +kernel
theorem dX6_agrees_4 : decode cX6_agrees 4 = .ok (.getfield 22, 3) := by decide +kernel
theorem dX6_agrees_7 : decode cX6_agrees 7 = .ok (.getfield 67, 3) := by decide +kernel
theorem dX6_agrees_10 : decode cX6_agrees 10 = .ok (.if_icmp .ge 52, 3) := by decide +kernel
theorem dX6_agrees_13 : decode cX6_agrees 13 = .ok (.aload_n 0, 1) := by decide +kernel
theorem dX6_agrees_14 : decode cX6_agrees 14 = .ok (.getfield 22, 3) := by decide +kernel
theorem dX6_agrees_17 : decode cX6_agrees 17 = .ok (.getfield 70, 3) := by decide +kernel
theorem dX6_agrees_20 : decode cX6_agrees 20 = .ok (.iload_n 2, 1) := by decide +kernel
theorem dX6_agrees_21 : decode cX6_agrees 21 = .ok (.iaload, 1) := by decide +kernel
theorem dX6_agrees_22 : decode cX6_agrees 22 = .ok (.iload_n 1, 1) := by decide +kernel
theorem dX6_agrees_23 : decode cX6_agrees 23 = .ok (.if_icmp .ne 33, 3) := by decide +kernel
theorem dX6_agrees_26 : decode cX6_agrees 26 = .ok (.aload_n 0, 1) := by decide +kernel
theorem dX6_agrees_27 : decode cX6_agrees 27 = .ok (.getfield 9, 3) := by decide +kernel
theorem dX6_agrees_30 : decode cX6_agrees 30 = .ok (.iconst 0, 1) := by decide +kernel
theorem dX6_agrees_31 : decode cX6_agrees 31 = .ok (.aload_n 0, 1) := by decide +kernel
theorem dX6_agrees_32 : decode cX6_agrees 32 = .ok (.getfield 22, 3) := by decide +kernel
theorem dX6_agrees_35 : decode cX6_agrees 35 = .ok (.getfield 79, 3) := by decide +kernel
theorem dX6_agrees_38 : decode cX6_agrees 38 = .ok (.iload_n 2, 1) := by decide +kernel
theorem dX6_agrees_39 : decode cX6_agrees 39 = .ok (.iaload, 1) := by decide +kernel
theorem dX6_agrees_40 : decode cX6_agrees 40 = .ok (.iadd, 1) := by decide +kernel
theorem dX6_agrees_41 : decode cX6_agrees 41 = .ok (.iaload, 1) := by decide +kernel
theorem dX6_agrees_42 : decode cX6_agrees 42 = .ok (.aload_n 0, 1) := by decide +kernel
theorem dX6_agrees_43 : decode cX6_agrees 43 = .ok (.getfield 22, 3) := by decide +kernel
theorem dX6_agrees_46 : decode cX6_agrees 46 = .ok (.getfield 82, 3) := by decide +kernel
theorem dX6_agrees_49 : decode cX6_agrees 49 = .ok (.iload_n 2, 1) := by decide +kernel
theorem dX6_agrees_50 : decode cX6_agrees 50 = .ok (.iaload, 1) := by decide +kernel
theorem dX6_agrees_51 : decode cX6_agrees 51 = .ok (.if_icmp .eq 5, 3) := by decide +kernel
theorem dX6_agrees_54 : decode cX6_agrees 54 = .ok (.iconst 0, 1) := by decide +kernel
theorem dX6_agrees_55 : decode cX6_agrees 55 = .ok (.ireturn, 1) := by decide +kernel
theorem dX6_agrees_56 : decode cX6_agrees 56 = .ok (.iinc 2 1, 3) := by decide +kernel
theorem dX6_agrees_59 : decode cX6_agrees 59 = .ok (.goto (-57), 3) := by decide +kernel
theorem dX6_agrees_62 : decode cX6_agrees 62 = .ok (.iconst 1, 1) := by decide +kernel
theorem dX6_agrees_63 : decode cX6_agrees 63 = .ok (.ireturn, 1) := by decide +kernel
theorem dX6_fits_0 : decode cX6_fits 0 = .ok (.aload_n 0, 1) := by decide +kernel
theorem dX6_fits_1 : decode cX6_fits 1 = .ok (.aload_n 1, 1) := by decide +kernel
theorem dX6_fits_2 : decode cX6_fits 2 = .ok (.invokevirtual 30, 3) := by decide +kernel
theorem dX6_fits_5 : decode cX6_fits 5 = .ok (.aload_n 0, 1) := by decide +kernel
theorem dX6_fits_6 : decode cX6_fits 6 = .ok (.invokevirtual 34, 3) := by decide +kernel
theorem dX6_fits_9 : decode cX6_fits 9 = .ok (.istore_n 2, 1) := by decide +kernel
theorem dX6_fits_10 : decode cX6_fits 10 = .ok (.iconst 0, 1) := by decide +kernel
theorem dX6_fits_11 : decode cX6_fits 11 = .ok (.istore_n 3, 1) := by decide +kernel
theorem dX6_fits_12 : decode cX6_fits 12 = .ok (.iload_n 3, 1) := by decide +kernel
theorem dX6_fits_13 : decode cX6_fits 13 = .ok (.iload_n 2, 1) := by decide +kernel
theorem dX6_fits_14 : decode cX6_fits 14 = .ok (.if_icmp .gt 32, 3) := by decide +kernel
theorem dX6_fits_17 : decode cX6_fits 17 = .ok (.aload_n 0, 1) := by decide +kernel
theorem dX6_fits_18 : decode cX6_fits 18 = .ok (.getfield 26, 3) := by decide +kernel
theorem dX6_fits_21 : decode cX6_fits 21 = .ok (.aload_n 0, 1) := by decide +kernel
theorem dX6_fits_22 : decode cX6_fits 22 = .ok (.getfield 9, 3) := by decide +kernel
theorem dX6_fits_25 : decode cX6_fits 25 = .ok (.iconst 0, 1) := by decide +kernel
theorem dX6_fits_26 : decode cX6_fits 26 = .ok (.invokevirtual 38, 3) := by decide +kernel
theorem dX6_fits_29 : decode cX6_fits 29 = .ok (.pop, 1) := by decide +kernel
theorem dX6_fits_30 : decode cX6_fits 30 = .ok (.aload_n 0, 1) := by decide +kernel
theorem dX6_fits_31 : decode cX6_fits 31 = .ok (.iload_n 3, 1) := by decide +kernel
theorem dX6_fits_32 : decode cX6_fits 32 = .ok (.invokevirtual 44, 3) := by decide +kernel
theorem dX6_fits_35 : decode cX6_fits 35 = .ok (.ifCond .ne 5, 3) := by decide +kernel
theorem dX6_fits_38 : decode cX6_fits 38 = .ok (.iconst 0, 1) := by decide +kernel
theorem dX6_fits_39 : decode cX6_fits 39 = .ok (.ireturn, 1) := by decide +kernel
theorem dX6_fits_40 : decode cX6_fits 40 = .ok (.iinc 3 1, 3) := by decide +kernel
theorem dX6_fits_43 : decode cX6_fits 43 = .ok (.goto (-31), 3) := by decide +kernel
theorem dX6_fits_46 : decode cX6_fits 46 = .ok (.iconst 1, 1) := by decide +kernel
theorem dX6_fits_47 : decode cX6_fits 47 = .ok (.ireturn, 1) := by decide +kernel
theorem dX6_add_0 : decode cX6_add 0 = .ok (.aload_n 0, 1) := by decide +kernel
theorem dX6_add_1 : decode cX6_add 1 = .ok (.getfield 18, 3) := by decide +kernel
theorem dX6_add_4 : decode cX6_add 4 = .ok (.bipush 6, 2) := by decide +kernel
theorem dX6_add_6 : decode cX6_add 6 = .ok (.if_icmp .le 4, 3) := by decide +kernel
theorem dX6_add_9 : decode cX6_add 9 = .ok (.return_, 1) := by decide +kernel
theorem dX6_add_10 : decode cX6_add 10 = .ok (.aload_n 0, 1) := by decide +kernel
theorem dX6_add_11 : decode cX6_add 11 = .ok (.aload_n 1, 1) := by decide +kernel
theorem dX6_add_12 : decode cX6_add 12 = .ok (.invokevirtual 30, 3) := by decide +kernel
theorem dX6_add_15 : decode cX6_add 15 = .ok (.iconst 0, 1) := by decide +kernel
theorem dX6_add_16 : decode cX6_add 16 = .ok (.istore_n 3, 1) := by decide +kernel
theorem dX6_add_17 : decode cX6_add 17 = .ok (.iload_n 3, 1) := by decide +kernel
theorem dX6_add_18 : decode cX6_add 18 = .ok (.iload_n 2, 1) := by decide +kernel
theorem dX6_add_19 : decode cX6_add 19 = .ok (.if_icmp .gt 22, 3) := by decide +kernel
theorem dX6_add_22 : decode cX6_add 22 = .ok (.aload_n 0, 1) := by decide +kernel
theorem dX6_add_23 : decode cX6_add 23 = .ok (.getfield 26, 3) := by decide +kernel
theorem dX6_add_26 : decode cX6_add 26 = .ok (.aload_n 0, 1) := by decide +kernel
theorem dX6_add_27 : decode cX6_add 27 = .ok (.getfield 9, 3) := by decide +kernel
theorem dX6_add_30 : decode cX6_add 30 = .ok (.iconst 0, 1) := by decide +kernel
theorem dX6_add_31 : decode cX6_add 31 = .ok (.invokevirtual 38, 3) := by decide +kernel
theorem dX6_add_34 : decode cX6_add 34 = .ok (.pop, 1) := by decide +kernel
theorem dX6_add_35 : decode cX6_add 35 = .ok (.iinc 3 1, 3) := by decide +kernel
theorem dX6_add_38 : decode cX6_add 38 = .ok (.goto (-21), 3) := by decide +kernel
theorem dX6_add_41 : decode cX6_add 41 = .ok (.aload_n 0, 1) := by decide +kernel
theorem dX6_add_42 : decode cX6_add 42 = .ok (.getfield 9, 3) := by decide +kernel
theorem dX6_add_45 : decode cX6_add 45 = .ok (.iconst 0, 1) := by decide +kernel
theorem dX6_add_46 : decode cX6_add 46 = .ok (.aload_n 0, 1) := by decide +kernel
theorem dX6_add_47 : decode cX6_add 47 = .ok (.getfield 15, 3) := by decide +kernel
theorem dX6_add_50 : decode cX6_add 50 = .ok (.aload_n 0, 1) := by decide +kernel
theorem dX6_add_51 : decode cX6_add 51 = .ok (.getfield 18, 3) := by decide +kernel
theorem dX6_add_54 : decode cX6_add 54 = .ok (.bipush 8, 2) := by decide +kernel
theorem dX6_add_56 : decode cX6_add 56 = .ok (.imul, 1) := by decide +kernel
theorem dX6_add_57 : decode cX6_add 57 = .ok (.bipush 8, 2) := by decide +kernel
theorem dX6_add_59 : decode cX6_add 59 = .ok (.invokestatic 58, 3) := by decide +kernel
theorem dX6_add_62 : decode cX6_add 62 = .ok (.aload_n 0, 1) := by decide +kernel
theorem dX6_add_63 : decode cX6_add 63 = .ok (.dup, 1) := by decide +kernel
theorem dX6_add_64 : decode cX6_add 64 = .ok (.getfield 18, 3) := by decide +kernel
theorem dX6_add_67 : decode cX6_add 67 = .ok (.iconst 1, 1) := by decide +kernel
theorem dX6_add_68 : decode cX6_add 68 = .ok (.iadd, 1) := by decide +kernel
theorem dX6_add_69 : decode cX6_add 69 = .ok (.putfield 18, 3) := by decide +kernel
theorem dX6_add_72 : decode cX6_add 72 = .ok (.return_, 1) := by decide +kernel
theorem dX6_mostAlike_0 : decode cX6_mostAlike 0 = .ok (.iconst 0, 1) := by decide +kernel
theorem dX6_mostAlike_1 : decode cX6_mostAlike 1 = .ok (.istore_n 2, 1) := by decide +kernel
theorem dX6_mostAlike_2 : decode cX6_mostAlike 2 = .ok (.iconst 0, 1) := by decide +kernel
theorem dX6_mostAlike_3 : decode cX6_mostAlike 3 = .ok (.istore_n 3, 1) := by decide +kernel
theorem dX6_mostAlike_4 : decode cX6_mostAlike 4 = .ok (.iload_n 3, 1) := by decide +kernel
theorem dX6_mostAlike_5 : decode cX6_mostAlike 5 = .ok (.aload_n 0, 1) := by decide +kernel
theorem dX6_mostAlike_6 : decode cX6_mostAlike 6 = .ok (.getfield 18, 3) := by decide +kernel
theorem dX6_mostAlike_9 : decode cX6_mostAlike 9 = .ok (.if_icmp .ge 66, 3) := by decide +kernel
theorem dX6_mostAlike_12 : decode cX6_mostAlike 12 = .ok (.iconst 0, 1) := by decide +kernel
theorem dX6_mostAlike_13 : decode cX6_mostAlike 13 = .ok (.istore 4, 2) := by decide +kernel
theorem dX6_mostAlike_15 : decode cX6_mostAlike 15 = .ok (.iconst 0, 1) := by decide +kernel
theorem dX6_mostAlike_16 : decode cX6_mostAlike 16 = .ok (.istore 5, 2) := by decide +kernel
theorem dX6_mostAlike_18 : decode cX6_mostAlike 18 = .ok (.iload 5, 2) := by decide +kernel
theorem dX6_mostAlike_20 : decode cX6_mostAlike 20 = .ok (.aload_n 0, 1) := by decide +kernel
theorem dX6_mostAlike_21 : decode cX6_mostAlike 21 = .ok (.getfield 18, 3) := by decide +kernel
theorem dX6_mostAlike_24 : decode cX6_mostAlike 24 = .ok (.if_icmp .ge 38, 3) := by decide +kernel
theorem dX6_mostAlike_27 : decode cX6_mostAlike 27 = .ok (.aload_n 0, 1) := by decide +kernel
theorem dX6_mostAlike_28 : decode cX6_mostAlike 28 = .ok (.getfield 15, 3) := by decide +kernel
theorem dX6_mostAlike_31 : decode cX6_mostAlike 31 = .ok (.iload_n 3, 1) := by decide +kernel
theorem dX6_mostAlike_32 : decode cX6_mostAlike 32 = .ok (.bipush 8, 2) := by decide +kernel
theorem dX6_mostAlike_34 : decode cX6_mostAlike 34 = .ok (.imul, 1) := by decide +kernel
theorem dX6_mostAlike_35 : decode cX6_mostAlike 35 = .ok (.iload_n 1, 1) := by decide +kernel
theorem dX6_mostAlike_36 : decode cX6_mostAlike 36 = .ok (.iadd, 1) := by decide +kernel
theorem dX6_mostAlike_37 : decode cX6_mostAlike 37 = .ok (.iaload, 1) := by decide +kernel
theorem dX6_mostAlike_38 : decode cX6_mostAlike 38 = .ok (.aload_n 0, 1) := by decide +kernel
theorem dX6_mostAlike_39 : decode cX6_mostAlike 39 = .ok (.getfield 15, 3) := by decide +kernel
theorem dX6_mostAlike_42 : decode cX6_mostAlike 42 = .ok (.iload 5, 2) := by decide +kernel
theorem dX6_mostAlike_44 : decode cX6_mostAlike 44 = .ok (.bipush 8, 2) := by decide +kernel
theorem dX6_mostAlike_46 : decode cX6_mostAlike 46 = .ok (.imul, 1) := by decide +kernel
theorem dX6_mostAlike_47 : decode cX6_mostAlike 47 = .ok (.iload_n 1, 1) := by decide +kernel
theorem dX6_mostAlike_48 : decode cX6_mostAlike 48 = .ok (.iadd, 1) := by decide +kernel
theorem dX6_mostAlike_49 : decode cX6_mostAlike 49 = .ok (.iaload, 1) := by decide +kernel
theorem dX6_mostAlike_50 : decode cX6_mostAlike 50 = .ok (.if_icmp .ne 6, 3) := by decide +kernel
theorem dX6_mostAlike_53 : decode cX6_mostAlike 53 = .ok (.iinc 4 1, 3) := by decide +kernel
theorem dX6_mostAlike_56 : decode cX6_mostAlike 56 = .ok (.iinc 5 1, 3) := by decide +kernel
theorem dX6_mostAlike_59 : decode cX6_mostAlike 59 = .ok (.goto (-41), 3) := by decide +kernel
theorem dX6_mostAlike_62 : decode cX6_mostAlike 62 = .ok (.iload_n 2, 1) := by decide +kernel
theorem dX6_mostAlike_63 : decode cX6_mostAlike 63 = .ok (.iload 4, 2) := by decide +kernel
theorem dX6_mostAlike_65 : decode cX6_mostAlike 65 = .ok (.invokestatic 73, 3) := by decide +kernel
theorem dX6_mostAlike_68 : decode cX6_mostAlike 68 = .ok (.istore_n 2, 1) := by decide +kernel
theorem dX6_mostAlike_69 : decode cX6_mostAlike 69 = .ok (.iinc 3 1, 3) := by decide +kernel
theorem dX6_mostAlike_72 : decode cX6_mostAlike 72 = .ok (.goto (-68), 3) := by decide +kernel
theorem dX6_mostAlike_75 : decode cX6_mostAlike 75 = .ok (.iload_n 2, 1) := by decide +kernel
theorem dX6_mostAlike_76 : decode cX6_mostAlike 76 = .ok (.ireturn, 1) := by decide +kernel
theorem dX7_isLetter_0 : decode cX7_isLetter 0 = .ok (.iload_n 0, 1) := by decide +kernel
theorem dX7_isLetter_1 : decode cX7_isLetter 1 = .ok (.bipush 97, 2) := by decide +kernel
theorem dX7_isLetter_3 : decode cX7_isLetter 3 = .ok (.if_icmp .lt 13, 3) := by decide +kernel
theorem dX7_isLetter_6 : decode cX7_isLetter 6 = .ok (.iload_n 0, 1) := by decide +kernel
theorem dX7_isLetter_7 : decode cX7_isLetter 7 = .ok (.bipush 122, 2) := by decide +kernel
theorem dX7_isLetter_9 : decode cX7_isLetter 9 = .ok (.if_icmp .gt 7, 3) := by decide +kernel
theorem dX7_isLetter_12 : decode cX7_isLetter 12 = .ok (.iconst 1, 1) := by decide +kernel
theorem dX7_isLetter_13 : decode cX7_isLetter 13 = .ok (.goto 4, 3) := by decide +kernel
theorem dX7_isLetter_16 : decode cX7_isLetter 16 = .ok (.iconst 0, 1) := by decide +kernel
theorem dX7_isLetter_17 : decode cX7_isLetter 17 = .ok (.ireturn, 1) := by decide +kernel
theorem dX7_isWord_0 : decode cX7_isWord 0 = .ok (.iload_n 2, 1) := by decide +kernel
theorem dX7_isWord_1 : decode cX7_isWord 1 = .ok (.istore 4, 2) := by decide +kernel
theorem dX7_isWord_3 : decode cX7_isWord 3 = .ok (.iload 4, 2) := by decide +kernel
theorem dX7_isWord_5 : decode cX7_isWord 5 = .ok (.iload_n 3, 1) := by decide +kernel
theorem dX7_isWord_6 : decode cX7_isWord 6 = .ok (.if_icmp .ge 29, 3) := by decide +kernel
theorem dX7_isWord_9 : decode cX7_isWord 9 = .ok (.aload_n 0, 1) := by decide +kernel
theorem dX7_isWord_10 : decode cX7_isWord 10 = .ok (.iload_n 1, 1) := by decide +kernel
theorem dX7_isWord_11 : decode cX7_isWord 11 = .ok (.iload 4, 2) := by decide +kernel
theorem dX7_isWord_13 : decode cX7_isWord 13 = .ok (.iadd, 1) := by decide +kernel
theorem dX7_isWord_14 : decode cX7_isWord 14 = .ok (.iload_n 2, 1) := by decide +kernel
theorem dX7_isWord_15 : decode cX7_isWord 15 = .ok (.isub, 1) := by decide +kernel
theorem dX7_isWord_16 : decode cX7_isWord 16 = .ok (.iaload, 1) := by decide +kernel
theorem dX7_isWord_17 : decode cX7_isWord 17 = .ok (.ldc 72, 2) := by decide +kernel
theorem dX7_isWord_19 : decode cX7_isWord 19 = .ok (.iload 4, 2) := by decide +kernel
theorem dX7_isWord_21 : decode cX7_isWord 21 = .ok (.invokevirtual 78, 3) := by decide +kernel
theorem dX7_isWord_24 : decode cX7_isWord 24 = .ok (.if_icmp .eq 5, 3) := by decide +kernel
theorem dX7_isWord_27 : decode cX7_isWord 27 = .ok (.iconst 0, 1) := by decide +kernel
theorem dX7_isWord_28 : decode cX7_isWord 28 = .ok (.ireturn, 1) := by decide +kernel
theorem dX7_isWord_29 : decode cX7_isWord 29 = .ok (.iinc 4 1, 3) := by decide +kernel
theorem dX7_isWord_32 : decode cX7_isWord 32 = .ok (.goto (-29), 3) := by decide +kernel
theorem dX7_isWord_35 : decode cX7_isWord 35 = .ok (.iconst 1, 1) := by decide +kernel
theorem dX7_isWord_36 : decode cX7_isWord 36 = .ok (.ireturn, 1) := by decide +kernel
theorem dX7_wordOf_0 : decode cX7_wordOf 0 = .ok (.iconst 0, 1) := by decide +kernel
theorem dX7_wordOf_1 : decode cX7_wordOf 1 = .ok (.istore_n 3, 1) := by decide +kernel
theorem dX7_wordOf_2 : decode cX7_wordOf 2 = .ok (.iconst 0, 1) := by decide +kernel
theorem dX7_wordOf_3 : decode cX7_wordOf 3 = .ok (.istore 4, 2) := by decide +kernel
theorem dX7_wordOf_5 : decode cX7_wordOf 5 = .ok (.iconst 0, 1) := by decide +kernel
theorem dX7_wordOf_6 : decode cX7_wordOf 6 = .ok (.istore 5, 2) := by decide +kernel
theorem dX7_wordOf_8 : decode cX7_wordOf 8 = .ok (.iload 5, 2) := by decide +kernel
theorem dX7_wordOf_10 : decode cX7_wordOf 10 = .ok (.ldc 72, 2) := by decide +kernel
theorem dX7_wordOf_12 : decode cX7_wordOf 12 = .ok (.invokevirtual 74, 3) := by decide +kernel
theorem dX7_wordOf_15 : decode cX7_wordOf 15 = .ok (.if_icmp .ge 58, 3) := by decide +kernel
theorem dX7_wordOf_18 : decode cX7_wordOf 18 = .ok (.ldc 72, 2) := by decide +kernel
theorem dX7_wordOf_20 : decode cX7_wordOf 20 = .ok (.iload 5, 2) := by decide +kernel
theorem dX7_wordOf_22 : decode cX7_wordOf 22 = .ok (.invokevirtual 78, 3) := by decide +kernel
theorem dX7_wordOf_25 : decode cX7_wordOf 25 = .ok (.bipush 32, 2) := by decide +kernel
theorem dX7_wordOf_27 : decode cX7_wordOf 27 = .ok (.if_icmp .eq 6, 3) := by decide +kernel
theorem dX7_wordOf_30 : decode cX7_wordOf 30 = .ok (.goto 37, 3) := by decide +kernel
theorem dX7_wordOf_33 : decode cX7_wordOf 33 = .ok (.iload 5, 2) := by decide +kernel
theorem dX7_wordOf_35 : decode cX7_wordOf 35 = .ok (.iload 4, 2) := by decide +kernel
theorem dX7_wordOf_37 : decode cX7_wordOf 37 = .ok (.isub, 1) := by decide +kernel
theorem dX7_wordOf_38 : decode cX7_wordOf 38 = .ok (.iload_n 2, 1) := by decide +kernel
theorem dX7_wordOf_39 : decode cX7_wordOf 39 = .ok (.iload_n 1, 1) := by decide +kernel
theorem dX7_wordOf_40 : decode cX7_wordOf 40 = .ok (.isub, 1) := by decide +kernel
theorem dX7_wordOf_41 : decode cX7_wordOf 41 = .ok (.if_icmp .ne 17, 3) := by decide +kernel
theorem dX7_wordOf_44 : decode cX7_wordOf 44 = .ok (.aload_n 0, 1) := by decide +kernel
theorem dX7_wordOf_45 : decode cX7_wordOf 45 = .ok (.iload_n 1, 1) := by decide +kernel
theorem dX7_wordOf_46 : decode cX7_wordOf 46 = .ok (.iload 4, 2) := by decide +kernel
theorem dX7_wordOf_48 : decode cX7_wordOf 48 = .ok (.iload 5, 2) := by decide +kernel
theorem dX7_wordOf_50 : decode cX7_wordOf 50 = .ok (.invokestatic 82, 3) := by decide +kernel
theorem dX7_wordOf_53 : decode cX7_wordOf 53 = .ok (.ifCond .eq 5, 3) := by decide +kernel
theorem dX7_wordOf_56 : decode cX7_wordOf 56 = .ok (.iload_n 3, 1) := by decide +kernel
theorem dX7_wordOf_57 : decode cX7_wordOf 57 = .ok (.ireturn, 1) := by decide +kernel
theorem dX7_wordOf_58 : decode cX7_wordOf 58 = .ok (.iinc 3 1, 3) := by decide +kernel
theorem dX7_wordOf_61 : decode cX7_wordOf 61 = .ok (.iload 5, 2) := by decide +kernel
theorem dX7_wordOf_63 : decode cX7_wordOf 63 = .ok (.iconst 1, 1) := by decide +kernel
theorem dX7_wordOf_64 : decode cX7_wordOf 64 = .ok (.iadd, 1) := by decide +kernel
theorem dX7_wordOf_65 : decode cX7_wordOf 65 = .ok (.istore 4, 2) := by decide +kernel
theorem dX7_wordOf_67 : decode cX7_wordOf 67 = .ok (.iinc 5 1, 3) := by decide +kernel
theorem dX7_wordOf_70 : decode cX7_wordOf 70 = .ok (.goto (-62), 3) := by decide +kernel
theorem dX7_wordOf_73 : decode cX7_wordOf 73 = .ok (.bipush 24, 2) := by decide +kernel
theorem dX7_wordOf_75 : decode cX7_wordOf 75 = .ok (.ireturn, 1) := by decide +kernel
theorem dX7_add_0 : decode cX7_add 0 = .ok (.aload_n 0, 1) := by decide +kernel
theorem dX7_add_1 : decode cX7_add 1 = .ok (.getfield 21, 3) := by decide +kernel
theorem dX7_add_4 : decode cX7_add 4 = .ok (.sipush 400, 3) := by decide +kernel
theorem dX7_add_7 : decode cX7_add 7 = .ok (.if_icmp .gt 43, 3) := by decide +kernel
theorem dX7_add_10 : decode cX7_add 10 = .ok (.aload_n 0, 1) := by decide +kernel
theorem dX7_add_11 : decode cX7_add 11 = .ok (.getfield 9, 3) := by decide +kernel
theorem dX7_add_14 : decode cX7_add 14 = .ok (.aload_n 0, 1) := by decide +kernel
theorem dX7_add_15 : decode cX7_add 15 = .ok (.getfield 21, 3) := by decide +kernel
theorem dX7_add_18 : decode cX7_add 18 = .ok (.iload_n 1, 1) := by decide +kernel
theorem dX7_add_19 : decode cX7_add 19 = .ok (.iastore, 1) := by decide +kernel
theorem dX7_add_20 : decode cX7_add 20 = .ok (.aload_n 0, 1) := by decide +kernel
theorem dX7_add_21 : decode cX7_add 21 = .ok (.getfield 15, 3) := by decide +kernel
theorem dX7_add_24 : decode cX7_add 24 = .ok (.aload_n 0, 1) := by decide +kernel
theorem dX7_add_25 : decode cX7_add 25 = .ok (.getfield 21, 3) := by decide +kernel
theorem dX7_add_28 : decode cX7_add 28 = .ok (.iload_n 2, 1) := by decide +kernel
theorem dX7_add_29 : decode cX7_add 29 = .ok (.iastore, 1) := by decide +kernel
theorem dX7_add_30 : decode cX7_add 30 = .ok (.aload_n 0, 1) := by decide +kernel
theorem dX7_add_31 : decode cX7_add 31 = .ok (.getfield 18, 3) := by decide +kernel
theorem dX7_add_34 : decode cX7_add 34 = .ok (.aload_n 0, 1) := by decide +kernel
theorem dX7_add_35 : decode cX7_add 35 = .ok (.getfield 21, 3) := by decide +kernel
theorem dX7_add_38 : decode cX7_add 38 = .ok (.iload_n 3, 1) := by decide +kernel
theorem dX7_add_39 : decode cX7_add 39 = .ok (.iastore, 1) := by decide +kernel
theorem dX7_add_40 : decode cX7_add 40 = .ok (.aload_n 0, 1) := by decide +kernel
theorem dX7_add_41 : decode cX7_add 41 = .ok (.dup, 1) := by decide +kernel
theorem dX7_add_42 : decode cX7_add 42 = .ok (.getfield 21, 3) := by decide +kernel
theorem dX7_add_45 : decode cX7_add 45 = .ok (.iconst 1, 1) := by decide +kernel
theorem dX7_add_46 : decode cX7_add 46 = .ok (.iadd, 1) := by decide +kernel
theorem dX7_add_47 : decode cX7_add 47 = .ok (.putfield 21, 3) := by decide +kernel
theorem dX7_add_50 : decode cX7_add 50 = .ok (.return_, 1) := by decide +kernel
theorem dX7_readWord_0 : decode cX7_readWord 0 = .ok (.iload_n 3, 1) := by decide +kernel
theorem dX7_readWord_1 : decode cX7_readWord 1 = .ok (.iconst 1, 1) := by decide +kernel
theorem dX7_readWord_2 : decode cX7_readWord 2 = .ok (.iadd, 1) := by decide +kernel
theorem dX7_readWord_3 : decode cX7_readWord 3 = .ok (.istore 4, 2) := by decide +kernel
theorem dX7_readWord_5 : decode cX7_readWord 5 = .ok (.iload 4, 2) := by decide +kernel
theorem dX7_readWord_7 : decode cX7_readWord 7 = .ok (.iload_n 2, 1) := by decide +kernel
theorem dX7_readWord_8 : decode cX7_readWord 8 = .ok (.if_icmp .ge 19, 3) := by decide +kernel
theorem dX7_readWord_11 : decode cX7_readWord 11 = .ok (.aload_n 1, 1) := by decide +kernel
theorem dX7_readWord_12 : decode cX7_readWord 12 = .ok (.iload 4, 2) := by decide +kernel
theorem dX7_readWord_14 : decode cX7_readWord 14 = .ok (.iaload, 1) := by decide +kernel
theorem dX7_readWord_15 : decode cX7_readWord 15 = .ok (.invokestatic 48, 3) := by decide +kernel
theorem dX7_readWord_18 : decode cX7_readWord 18 = .ok (.ifCond .eq 9, 3) := by decide +kernel
theorem dX7_readWord_21 : decode cX7_readWord 21 = .ok (.iinc 4 1, 3) := by decide +kernel
theorem dX7_readWord_24 : decode cX7_readWord 24 = .ok (.goto (-19), 3) := by decide +kernel
theorem dX7_readWord_27 : decode cX7_readWord 27 = .ok (.aload_n 0, 1) := by decide +kernel
theorem dX7_readWord_28 : decode cX7_readWord 28 = .ok (.aload_n 1, 1) := by decide +kernel
theorem dX7_readWord_29 : decode cX7_readWord 29 = .ok (.iload_n 3, 1) := by decide +kernel
theorem dX7_readWord_30 : decode cX7_readWord 30 = .ok (.iload 4, 2) := by decide +kernel
theorem dX7_readWord_32 : decode cX7_readWord 32 = .ok (.invokestatic 69, 3) := by decide +kernel
theorem dX7_readWord_35 : decode cX7_readWord 35 = .ok (.iload_n 3, 1) := by decide +kernel
theorem dX7_readWord_36 : decode cX7_readWord 36 = .ok (.iconst 0, 1) := by decide +kernel
theorem dX7_readWord_37 : decode cX7_readWord 37 = .ok (.invokevirtual 41, 3) := by decide +kernel
theorem dX7_readWord_40 : decode cX7_readWord 40 = .ok (.iload 4, 2) := by decide +kernel
theorem dX7_readWord_42 : decode cX7_readWord 42 = .ok (.ireturn, 1) := by decide +kernel
theorem dX7_isDigit_0 : decode cX7_isDigit 0 = .ok (.iload_n 0, 1) := by decide +kernel
theorem dX7_isDigit_1 : decode cX7_isDigit 1 = .ok (.bipush 48, 2) := by decide +kernel
theorem dX7_isDigit_3 : decode cX7_isDigit 3 = .ok (.if_icmp .lt 13, 3) := by decide +kernel
theorem dX7_isDigit_6 : decode cX7_isDigit 6 = .ok (.iload_n 0, 1) := by decide +kernel
theorem dX7_isDigit_7 : decode cX7_isDigit 7 = .ok (.bipush 57, 2) := by decide +kernel
theorem dX7_isDigit_9 : decode cX7_isDigit 9 = .ok (.if_icmp .gt 7, 3) := by decide +kernel
theorem dX7_isDigit_12 : decode cX7_isDigit 12 = .ok (.iconst 1, 1) := by decide +kernel
theorem dX7_isDigit_13 : decode cX7_isDigit 13 = .ok (.goto 4, 3) := by decide +kernel
theorem dX7_isDigit_16 : decode cX7_isDigit 16 = .ok (.iconst 0, 1) := by decide +kernel
theorem dX7_isDigit_17 : decode cX7_isDigit 17 = .ok (.ireturn, 1) := by decide +kernel
theorem dX7_readNumber_0 : decode cX7_readNumber 0 = .ok (.iload_n 3, 1) := by decide +kernel
theorem dX7_readNumber_1 : decode cX7_readNumber 1 = .ok (.istore 4, 2) := by decide +kernel
theorem dX7_readNumber_3 : decode cX7_readNumber 3 = .ok (.iconst 0, 1) := by decide +kernel
theorem dX7_readNumber_4 : decode cX7_readNumber 4 = .ok (.istore 5, 2) := by decide +kernel
theorem dX7_readNumber_6 : decode cX7_readNumber 6 = .ok (.iload 4, 2) := by decide +kernel
theorem dX7_readNumber_8 : decode cX7_readNumber 8 = .ok (.iload_n 2, 1) := by decide +kernel
theorem dX7_readNumber_9 : decode cX7_readNumber 9 = .ok (.if_icmp .ge 42, 3) := by decide +kernel
theorem dX7_readNumber_12 : decode cX7_readNumber 12 = .ok (.aload_n 1, 1) := by decide +kernel
theorem dX7_readNumber_13 : decode cX7_readNumber 13 = .ok (.iload 4, 2) := by decide +kernel
theorem dX7_readNumber_15 : decode cX7_readNumber 15 = .ok (.iaload, 1) := by decide +kernel
theorem dX7_readNumber_16 : decode cX7_readNumber 16 = .ok (.invokestatic 55, 3) := by decide +kernel
theorem dX7_readNumber_19 : decode cX7_readNumber 19 = .ok (.ifCond .eq 32, 3) := by decide +kernel
theorem dX7_readNumber_22 : decode cX7_readNumber 22 = .ok (.iload 4, 2) := by decide +kernel
theorem dX7_readNumber_24 : decode cX7_readNumber 24 = .ok (.iload_n 3, 1) := by decide +kernel
theorem dX7_readNumber_25 : decode cX7_readNumber 25 = .ok (.isub, 1) := by decide +kernel
theorem dX7_readNumber_26 : decode cX7_readNumber 26 = .ok (.iconst 5, 1) := by decide +kernel
theorem dX7_readNumber_27 : decode cX7_readNumber 27 = .ok (.if_icmp .ge 18, 3) := by decide +kernel
theorem dX7_readNumber_30 : decode cX7_readNumber 30 = .ok (.iload 5, 2) := by decide +kernel
theorem dX7_readNumber_32 : decode cX7_readNumber 32 = .ok (.bipush 10, 2) := by decide +kernel
theorem dX7_readNumber_34 : decode cX7_readNumber 34 = .ok (.imul, 1) := by decide +kernel
theorem dX7_readNumber_35 : decode cX7_readNumber 35 = .ok (.aload_n 1, 1) := by decide +kernel
theorem dX7_readNumber_36 : decode cX7_readNumber 36 = .ok (.iload 4, 2) := by decide +kernel
theorem dX7_readNumber_38 : decode cX7_readNumber 38 = .ok (.iaload, 1) := by decide +kernel
theorem dX7_readNumber_39 : decode cX7_readNumber 39 = .ok (.iadd, 1) := by decide +kernel
theorem dX7_readNumber_40 : decode cX7_readNumber 40 = .ok (.bipush 48, 2) := by decide +kernel
theorem dX7_readNumber_42 : decode cX7_readNumber 42 = .ok (.isub, 1) := by decide +kernel
theorem dX7_readNumber_43 : decode cX7_readNumber 43 = .ok (.istore 5, 2) := by decide +kernel
theorem dX7_readNumber_45 : decode cX7_readNumber 45 = .ok (.iinc 4 1, 3) := by decide +kernel
theorem dX7_readNumber_48 : decode cX7_readNumber 48 = .ok (.goto (-42), 3) := by decide +kernel
theorem dX7_readNumber_51 : decode cX7_readNumber 51 = .ok (.aload_n 0, 1) := by decide +kernel
theorem dX7_readNumber_52 : decode cX7_readNumber 52 = .ok (.iload 4, 2) := by decide +kernel
theorem dX7_readNumber_54 : decode cX7_readNumber 54 = .ok (.iload_n 3, 1) := by decide +kernel
theorem dX7_readNumber_55 : decode cX7_readNumber 55 = .ok (.isub, 1) := by decide +kernel
theorem dX7_readNumber_56 : decode cX7_readNumber 56 = .ok (.iconst 5, 1) := by decide +kernel
theorem dX7_readNumber_57 : decode cX7_readNumber 57 = .ok (.if_icmp .le 8, 3) := by decide +kernel
theorem dX7_readNumber_60 : decode cX7_readNumber 60 = .ok (.bipush 22, 2) := by decide +kernel
theorem dX7_readNumber_62 : decode cX7_readNumber 62 = .ok (.goto 5, 3) := by decide +kernel
theorem dX7_readNumber_65 : decode cX7_readNumber 65 = .ok (.bipush 21, 2) := by decide +kernel
theorem dX7_readNumber_67 : decode cX7_readNumber 67 = .ok (.iload_n 3, 1) := by decide +kernel
theorem dX7_readNumber_68 : decode cX7_readNumber 68 = .ok (.iload 5, 2) := by decide +kernel
theorem dX7_readNumber_70 : decode cX7_readNumber 70 = .ok (.invokevirtual 41, 3) := by decide +kernel
theorem dX7_readNumber_73 : decode cX7_readNumber 73 = .ok (.iload 4, 2) := by decide +kernel
theorem dX7_readNumber_75 : decode cX7_readNumber 75 = .ok (.ireturn, 1) := by decide +kernel
theorem dJ1_canEncode_9a6ad_0 : decode cJ1_canEncode_9a6ad 0 = .ok (.iload_n 0, 1) := by decide +kernel
theorem dJ1_canEncode_9a6ad_1 : decode cJ1_canEncode_9a6ad 1 = .ok (.ifCond .lt 14, 3) := by decide +kernel
theorem dJ1_canEncode_9a6ad_4 : decode cJ1_canEncode_9a6ad 4 = .ok (.iload_n 0, 1) := by decide +kernel
theorem dJ1_canEncode_9a6ad_5 : decode cJ1_canEncode_9a6ad 5 = .ok (.sipush 255, 3) := by decide +kernel
theorem dJ1_canEncode_9a6ad_8 : decode cJ1_canEncode_9a6ad 8 = .ok (.if_icmp .gt 7, 3) := by decide +kernel
theorem dJ1_canEncode_9a6ad_11 : decode cJ1_canEncode_9a6ad 11 = .ok (.iconst 1, 1) := by decide +kernel
theorem dJ1_canEncode_9a6ad_12 : decode cJ1_canEncode_9a6ad 12 = .ok (.goto 4, 3) := by decide +kernel
theorem dJ1_canEncode_9a6ad_15 : decode cJ1_canEncode_9a6ad 15 = .ok (.iconst 0, 1) := by decide +kernel
theorem dJ1_canEncode_9a6ad_16 : decode cJ1_canEncode_9a6ad 16 = .ok (.ireturn, 1) := by decide +kernel
theorem dJ1_indexOfChar_4cfef_0 : decode cJ1_indexOfChar_4cfef 0 = .ok (.iload_n 1, 1) := by decide +kernel
theorem dJ1_indexOfChar_4cfef_1 : decode cJ1_indexOfChar_4cfef 1 = .ok (.i2b, 1) := by decide +kernel
theorem dJ1_indexOfChar_4cfef_2 : decode cJ1_indexOfChar_4cfef 2 = .ok (.istore 4, 2) := by decide +kernel
theorem dJ1_indexOfChar_4cfef_4 : decode cJ1_indexOfChar_4cfef 4 = .ok (.iload_n 2, 1) := by decide +kernel
theorem dJ1_indexOfChar_4cfef_5 : decode cJ1_indexOfChar_4cfef 5 = .ok (.istore 5, 2) := by decide +kernel
theorem dJ1_indexOfChar_4cfef_7 : decode cJ1_indexOfChar_4cfef 7 = .ok (.iload 5, 2) := by decide +kernel
theorem dJ1_indexOfChar_4cfef_9 : decode cJ1_indexOfChar_4cfef 9 = .ok (.iload_n 3, 1) := by decide +kernel
theorem dJ1_indexOfChar_4cfef_10 : decode cJ1_indexOfChar_4cfef 10 = .ok (.if_icmp .ge 21, 3) := by decide +kernel
theorem dJ1_indexOfChar_4cfef_13 : decode cJ1_indexOfChar_4cfef 13 = .ok (.aload_n 0, 1) := by decide +kernel
theorem dJ1_indexOfChar_4cfef_14 : decode cJ1_indexOfChar_4cfef 14 = .ok (.iload 5, 2) := by decide +kernel
theorem dJ1_indexOfChar_4cfef_16 : decode cJ1_indexOfChar_4cfef 16 = .ok (.baload, 1) := by decide +kernel
theorem dJ1_indexOfChar_4cfef_17 : decode cJ1_indexOfChar_4cfef 17 = .ok (.iload 4, 2) := by decide +kernel
theorem dJ1_indexOfChar_4cfef_19 : decode cJ1_indexOfChar_4cfef 19 = .ok (.if_icmp .ne 6, 3) := by decide +kernel
theorem dJ1_indexOfChar_4cfef_22 : decode cJ1_indexOfChar_4cfef 22 = .ok (.iload 5, 2) := by decide +kernel
theorem dJ1_indexOfChar_4cfef_24 : decode cJ1_indexOfChar_4cfef 24 = .ok (.ireturn, 1) := by decide +kernel
theorem dJ1_indexOfChar_4cfef_25 : decode cJ1_indexOfChar_4cfef 25 = .ok (.iinc 5 1, 3) := by decide +kernel
theorem dJ1_indexOfChar_4cfef_28 : decode cJ1_indexOfChar_4cfef 28 = .ok (.goto (-21), 3) := by decide +kernel
theorem dJ1_indexOfChar_4cfef_31 : decode cJ1_indexOfChar_4cfef 31 = .ok (.iconst (-1), 1) := by decide +kernel
theorem dJ1_indexOfChar_4cfef_32 : decode cJ1_indexOfChar_4cfef 32 = .ok (.ireturn, 1) := by decide +kernel
theorem dJ1_indexOf_4cfef_0 : decode cJ1_indexOf_4cfef 0 = .ok (.iload_n 1, 1) := by decide +kernel
theorem dJ1_indexOf_4cfef_1 : decode cJ1_indexOf_4cfef 1 = .ok (.invokestatic 88, 3) := by decide +kernel
theorem dJ1_indexOf_4cfef_4 : decode cJ1_indexOf_4cfef 4 = .ok (.ifCond .ne 5, 3) := by decide +kernel
theorem dJ1_indexOf_4cfef_7 : decode cJ1_indexOf_4cfef 7 = .ok (.iconst (-1), 1) := by decide +kernel
theorem dJ1_indexOf_4cfef_8 : decode cJ1_indexOf_4cfef 8 = .ok (.ireturn, 1) := by decide +kernel
theorem dJ1_indexOf_4cfef_9 : decode cJ1_indexOf_4cfef 9 = .ok (.iload_n 2, 1) := by decide +kernel
theorem dJ1_indexOf_4cfef_10 : decode cJ1_indexOf_4cfef 10 = .ok (.iconst 0, 1) := by decide +kernel
theorem dJ1_indexOf_4cfef_11 : decode cJ1_indexOf_4cfef 11 = .ok (.invokestatic 92, 3) := by decide +kernel
theorem dJ1_indexOf_4cfef_14 : decode cJ1_indexOf_4cfef 14 = .ok (.istore_n 2, 1) := by decide +kernel
theorem dJ1_indexOf_4cfef_15 : decode cJ1_indexOf_4cfef 15 = .ok (.iload_n 3, 1) := by decide +kernel
theorem dJ1_indexOf_4cfef_16 : decode cJ1_indexOf_4cfef 16 = .ok (.aload_n 0, 1) := by decide +kernel
theorem dJ1_indexOf_4cfef_17 : decode cJ1_indexOf_4cfef 17 = .ok (.arraylength, 1) := by decide +kernel
theorem dJ1_indexOf_4cfef_18 : decode cJ1_indexOf_4cfef 18 = .ok (.invokestatic 38, 3) := by decide +kernel
theorem dJ1_indexOf_4cfef_21 : decode cJ1_indexOf_4cfef 21 = .ok (.istore_n 3, 1) := by decide +kernel
theorem dJ1_indexOf_4cfef_22 : decode cJ1_indexOf_4cfef 22 = .ok (.iload_n 2, 1) := by decide +kernel
theorem dJ1_indexOf_4cfef_23 : decode cJ1_indexOf_4cfef 23 = .ok (.iload_n 3, 1) := by decide +kernel
theorem dJ1_indexOf_4cfef_24 : decode cJ1_indexOf_4cfef 24 = .ok (.if_icmp .lt 5, 3) := by decide +kernel
theorem dJ1_indexOf_4cfef_27 : decode cJ1_indexOf_4cfef 27 = .ok (.iconst (-1), 1) := by decide +kernel
theorem dJ1_indexOf_4cfef_28 : decode cJ1_indexOf_4cfef 28 = .ok (.ireturn, 1) := by decide +kernel
theorem dJ1_indexOf_4cfef_29 : decode cJ1_indexOf_4cfef 29 = .ok (.aload_n 0, 1) := by decide +kernel
theorem dJ1_indexOf_4cfef_30 : decode cJ1_indexOf_4cfef 30 = .ok (.iload_n 1, 1) := by decide +kernel
theorem dJ1_indexOf_4cfef_31 : decode cJ1_indexOf_4cfef 31 = .ok (.iload_n 2, 1) := by decide +kernel
theorem dJ1_indexOf_4cfef_32 : decode cJ1_indexOf_4cfef 32 = .ok (.iload_n 3, 1) := by decide +kernel
theorem dJ1_indexOf_4cfef_33 : decode cJ1_indexOf_4cfef 33 = .ok (.invokestatic 95, 3) := by decide +kernel
theorem dJ1_indexOf_4cfef_36 : decode cJ1_indexOf_4cfef 36 = .ok (.ireturn, 1) := by decide +kernel
theorem dJ0_indexOf_7cf53_0 : decode cJ0_indexOf_7cf53 0 = .ok (.aload_n 0, 1) := by decide +kernel
theorem dJ0_indexOf_7cf53_1 : decode cJ0_indexOf_7cf53 1 = .ok (.invokevirtual 492, 3) := by decide +kernel
theorem dJ0_indexOf_7cf53_4 : decode cJ0_indexOf_7cf53 4 = .ok (.ifCond .eq 19, 3) := by decide +kernel
theorem dJ0_indexOf_7cf53_7 : decode cJ0_indexOf_7cf53 7 = .ok (.aload_n 0, 1) := by decide +kernel
theorem dJ0_indexOf_7cf53_8 : decode cJ0_indexOf_7cf53 8 = .ok (.getfield 9, 3) := by decide +kernel
theorem dJ0_indexOf_7cf53_11 : decode cJ0_indexOf_7cf53 11 = .ok (.iload_n 1, 1) := by decide +kernel
theorem dJ0_indexOf_7cf53_12 : decode cJ0_indexOf_7cf53 12 = .ok (.iload_n 2, 1) := by decide +kernel
theorem dJ0_indexOf_7cf53_13 : decode cJ0_indexOf_7cf53 13 = .ok (.aload_n 0, 1) := by decide +kernel
theorem dJ0_indexOf_7cf53_14 : decode cJ0_indexOf_7cf53 14 = .ok (.invokevirtual 505, 3) := by decide +kernel
theorem dJ0_indexOf_7cf53_17 : decode cJ0_indexOf_7cf53 17 = .ok (.invokestatic 637, 3) := by decide +kernel
theorem dJ0_indexOf_7cf53_20 : decode cJ0_indexOf_7cf53 20 = .ok (.goto 16, 3) := by decide +kernel
theorem dJ0_indexOf_7cf53_23 : decode cJ0_indexOf_7cf53 23 = .ok (.aload_n 0, 1) := by decide +kernel
theorem dJ0_indexOf_7cf53_24 : decode cJ0_indexOf_7cf53 24 = .ok (.getfield 9, 3) := by decide +kernel
theorem dJ0_indexOf_7cf53_27 : decode cJ0_indexOf_7cf53 27 = .ok (.iload_n 1, 1) := by decide +kernel
theorem dJ0_indexOf_7cf53_28 : decode cJ0_indexOf_7cf53 28 = .ok (.iload_n 2, 1) := by decide +kernel
theorem dJ0_indexOf_7cf53_29 : decode cJ0_indexOf_7cf53 29 = .ok (.aload_n 0, 1) := by decide +kernel
theorem dJ0_indexOf_7cf53_30 : decode cJ0_indexOf_7cf53 30 = .ok (.invokevirtual 505, 3) := by decide +kernel
theorem dJ0_indexOf_7cf53_33 : decode cJ0_indexOf_7cf53 33 = .ok (.invokestatic 640, 3) := by decide +kernel
theorem dJ0_indexOf_7cf53_36 : decode cJ0_indexOf_7cf53 36 = .ok (.ireturn, 1) := by decide +kernel
theorem dJ0_indexOf_0f7a4_0 : decode cJ0_indexOf_0f7a4 0 = .ok (.aload_n 0, 1) := by decide +kernel
theorem dJ0_indexOf_0f7a4_1 : decode cJ0_indexOf_0f7a4 1 = .ok (.iload_n 1, 1) := by decide +kernel
theorem dJ0_indexOf_0f7a4_2 : decode cJ0_indexOf_0f7a4 2 = .ok (.iconst 0, 1) := by decide +kernel
theorem dJ0_indexOf_0f7a4_3 : decode cJ0_indexOf_0f7a4 3 = .ok (.invokevirtual 633, 3) := by decide +kernel
theorem dJ0_indexOf_0f7a4_6 : decode cJ0_indexOf_0f7a4 6 = .ok (.ireturn, 1) := by decide +kernel
theorem dX7_readOne_0 : decode cX7_readOne 0 = .ok (.aload_n 1, 1) := by decide +kernel
theorem dX7_readOne_1 : decode cX7_readOne 1 = .ok (.iload_n 3, 1) := by decide +kernel
theorem dX7_readOne_2 : decode cX7_readOne 2 = .ok (.iaload, 1) := by decide +kernel
theorem dX7_readOne_3 : decode cX7_readOne 3 = .ok (.invokestatic 48, 3) := by decide +kernel
theorem dX7_readOne_6 : decode cX7_readOne 6 = .ok (.ifCond .eq 11, 3) := by decide +kernel
theorem dX7_readOne_9 : decode cX7_readOne 9 = .ok (.aload_n 0, 1) := by decide +kernel
theorem dX7_readOne_10 : decode cX7_readOne 10 = .ok (.aload_n 1, 1) := by decide +kernel
theorem dX7_readOne_11 : decode cX7_readOne 11 = .ok (.iload_n 2, 1) := by decide +kernel
theorem dX7_readOne_12 : decode cX7_readOne 12 = .ok (.iload_n 3, 1) := by decide +kernel
theorem dX7_readOne_13 : decode cX7_readOne 13 = .ok (.invokevirtual 52, 3) := by decide +kernel
theorem dX7_readOne_16 : decode cX7_readOne 16 = .ok (.ireturn, 1) := by decide +kernel
theorem dX7_readOne_17 : decode cX7_readOne 17 = .ok (.aload_n 1, 1) := by decide +kernel
theorem dX7_readOne_18 : decode cX7_readOne 18 = .ok (.iload_n 3, 1) := by decide +kernel
theorem dX7_readOne_19 : decode cX7_readOne 19 = .ok (.iaload, 1) := by decide +kernel
theorem dX7_readOne_20 : decode cX7_readOne 20 = .ok (.invokestatic 55, 3) := by decide +kernel
theorem dX7_readOne_23 : decode cX7_readOne 23 = .ok (.ifCond .eq 11, 3) := by decide +kernel
theorem dX7_readOne_26 : decode cX7_readOne 26 = .ok (.aload_n 0, 1) := by decide +kernel
theorem dX7_readOne_27 : decode cX7_readOne 27 = .ok (.aload_n 1, 1) := by decide +kernel
theorem dX7_readOne_28 : decode cX7_readOne 28 = .ok (.iload_n 2, 1) := by decide +kernel
theorem dX7_readOne_29 : decode cX7_readOne 29 = .ok (.iload_n 3, 1) := by decide +kernel
theorem dX7_readOne_30 : decode cX7_readOne 30 = .ok (.invokevirtual 58, 3) := by decide +kernel
theorem dX7_readOne_33 : decode cX7_readOne 33 = .ok (.ireturn, 1) := by decide +kernel
theorem dX7_readOne_34 : decode cX7_readOne 34 = .ok (.ldc 61, 2) := by decide +kernel
theorem dX7_readOne_36 : decode cX7_readOne 36 = .ok (.aload_n 1, 1) := by decide +kernel
theorem dX7_readOne_37 : decode cX7_readOne 37 = .ok (.iload_n 3, 1) := by decide +kernel
theorem dX7_readOne_38 : decode cX7_readOne 38 = .ok (.iaload, 1) := by decide +kernel
theorem dX7_readOne_39 : decode cX7_readOne 39 = .ok (.i2c, 1) := by decide +kernel
theorem dX7_readOne_40 : decode cX7_readOne 40 = .ok (.invokevirtual 63, 3) := by decide +kernel
theorem dX7_readOne_43 : decode cX7_readOne 43 = .ok (.istore 4, 2) := by decide +kernel
theorem dX7_readOne_45 : decode cX7_readOne 45 = .ok (.iload 4, 2) := by decide +kernel
theorem dX7_readOne_47 : decode cX7_readOne 47 = .ok (.ifCond .ge 8, 3) := by decide +kernel
theorem dX7_readOne_50 : decode cX7_readOne 50 = .ok (.bipush 24, 2) := by decide +kernel
theorem dX7_readOne_52 : decode cX7_readOne 52 = .ok (.goto 8, 3) := by decide +kernel
theorem dX7_readOne_55 : decode cX7_readOne 55 = .ok (.bipush 25, 2) := by decide +kernel
theorem dX7_readOne_57 : decode cX7_readOne 57 = .ok (.iload 4, 2) := by decide +kernel
theorem dX7_readOne_59 : decode cX7_readOne 59 = .ok (.iadd, 1) := by decide +kernel
theorem dX7_readOne_60 : decode cX7_readOne 60 = .ok (.istore 5, 2) := by decide +kernel
theorem dX7_readOne_62 : decode cX7_readOne 62 = .ok (.iload_n 3, 1) := by decide +kernel
theorem dX7_readOne_63 : decode cX7_readOne 63 = .ok (.iconst 1, 1) := by decide +kernel
theorem dX7_readOne_64 : decode cX7_readOne 64 = .ok (.iadd, 1) := by decide +kernel
theorem dX7_readOne_65 : decode cX7_readOne 65 = .ok (.iload_n 2, 1) := by decide +kernel
theorem dX7_readOne_66 : decode cX7_readOne 66 = .ok (.if_icmp .ge 17, 3) := by decide +kernel
theorem dX7_readOne_69 : decode cX7_readOne 69 = .ok (.aload_n 1, 1) := by decide +kernel
theorem dX7_readOne_70 : decode cX7_readOne 70 = .ok (.iload_n 3, 1) := by decide +kernel
theorem dX7_readOne_71 : decode cX7_readOne 71 = .ok (.iconst 1, 1) := by decide +kernel
theorem dX7_readOne_72 : decode cX7_readOne 72 = .ok (.iadd, 1) := by decide +kernel
theorem dX7_readOne_73 : decode cX7_readOne 73 = .ok (.iaload, 1) := by decide +kernel
theorem dX7_readOne_74 : decode cX7_readOne 74 = .ok (.bipush 61, 2) := by decide +kernel
theorem dX7_readOne_76 : decode cX7_readOne 76 = .ok (.if_icmp .ne 7, 3) := by decide +kernel
theorem dX7_readOne_79 : decode cX7_readOne 79 = .ok (.iconst 1, 1) := by decide +kernel
theorem dX7_readOne_80 : decode cX7_readOne 80 = .ok (.goto 4, 3) := by decide +kernel
theorem dX7_readOne_83 : decode cX7_readOne 83 = .ok (.iconst 0, 1) := by decide +kernel
theorem dX7_readOne_84 : decode cX7_readOne 84 = .ok (.istore 6, 2) := by decide +kernel
theorem dX7_readOne_86 : decode cX7_readOne 86 = .ok (.iload 6, 2) := by decide +kernel
theorem dX7_readOne_88 : decode cX7_readOne 88 = .ok (.ifCond .eq 41, 3) := by decide +kernel
theorem dX7_readOne_91 : decode cX7_readOne 91 = .ok (.iload 5, 2) := by decide +kernel
theorem dX7_readOne_93 : decode cX7_readOne 93 = .ok (.bipush 33, 2) := by decide +kernel
theorem dX7_readOne_95 : decode cX7_readOne 95 = .ok (.if_icmp .eq 10, 3) := by decide +kernel
theorem dX7_readOne_98 : decode cX7_readOne 98 = .ok (.iload 5, 2) := by decide +kernel
theorem dX7_readOne_100 : decode cX7_readOne 100 = .ok (.bipush 35, 2) := by decide +kernel
theorem dX7_readOne_102 : decode cX7_readOne 102 = .ok (.if_icmp .ne 27, 3) := by decide +kernel
theorem dX7_readOne_105 : decode cX7_readOne 105 = .ok (.aload_n 0, 1) := by decide +kernel
theorem dX7_readOne_106 : decode cX7_readOne 106 = .ok (.iload 5, 2) := by decide +kernel
theorem dX7_readOne_108 : decode cX7_readOne 108 = .ok (.bipush 33, 2) := by decide +kernel
theorem dX7_readOne_110 : decode cX7_readOne 110 = .ok (.if_icmp .ne 8, 3) := by decide +kernel
theorem dX7_readOne_113 : decode cX7_readOne 113 = .ok (.bipush 36, 2) := by decide +kernel
theorem dX7_readOne_115 : decode cX7_readOne 115 = .ok (.goto 5, 3) := by decide +kernel
theorem dX7_readOne_118 : decode cX7_readOne 118 = .ok (.bipush 37, 2) := by decide +kernel
theorem dX7_readOne_120 : decode cX7_readOne 120 = .ok (.iload_n 3, 1) := by decide +kernel
theorem dX7_readOne_121 : decode cX7_readOne 121 = .ok (.iconst 0, 1) := by decide +kernel
theorem dX7_readOne_122 : decode cX7_readOne 122 = .ok (.invokevirtual 41, 3) := by decide +kernel
theorem dX7_readOne_125 : decode cX7_readOne 125 = .ok (.iload_n 3, 1) := by decide +kernel
theorem dX7_readOne_126 : decode cX7_readOne 126 = .ok (.iconst 2, 1) := by decide +kernel
theorem dX7_readOne_127 : decode cX7_readOne 127 = .ok (.iadd, 1) := by decide +kernel
theorem dX7_readOne_128 : decode cX7_readOne 128 = .ok (.ireturn, 1) := by decide +kernel
theorem dX7_readOne_129 : decode cX7_readOne 129 = .ok (.aload_n 0, 1) := by decide +kernel
theorem dX7_readOne_130 : decode cX7_readOne 130 = .ok (.iload 5, 2) := by decide +kernel
theorem dX7_readOne_132 : decode cX7_readOne 132 = .ok (.iload_n 3, 1) := by decide +kernel
theorem dX7_readOne_133 : decode cX7_readOne 133 = .ok (.iconst 0, 1) := by decide +kernel
theorem dX7_readOne_134 : decode cX7_readOne 134 = .ok (.invokevirtual 41, 3) := by decide +kernel
theorem dX7_readOne_137 : decode cX7_readOne 137 = .ok (.iload_n 3, 1) := by decide +kernel
theorem dX7_readOne_138 : decode cX7_readOne 138 = .ok (.iconst 1, 1) := by decide +kernel
theorem dX7_readOne_139 : decode cX7_readOne 139 = .ok (.iadd, 1) := by decide +kernel
theorem dX7_readOne_140 : decode cX7_readOne 140 = .ok (.ireturn, 1) := by decide +kernel
theorem dX7_read_0 : decode cX7_read 0 = .ok (.aload_n 0, 1) := by decide +kernel
theorem dX7_read_1 : decode cX7_read 1 = .ok (.iconst 0, 1) := by decide +kernel
theorem dX7_read_2 : decode cX7_read 2 = .ok (.putfield 21, 3) := by decide +kernel
theorem dX7_read_5 : decode cX7_read 5 = .ok (.iconst 0, 1) := by decide +kernel
theorem dX7_read_6 : decode cX7_read 6 = .ok (.istore_n 3, 1) := by decide +kernel
theorem dX7_read_7 : decode cX7_read 7 = .ok (.iconst 0, 1) := by decide +kernel
theorem dX7_read_8 : decode cX7_read 8 = .ok (.istore 4, 2) := by decide +kernel
theorem dX7_read_10 : decode cX7_read 10 = .ok (.iload 4, 2) := by decide +kernel
theorem dX7_read_12 : decode cX7_read 12 = .ok (.sipush 400, 3) := by decide +kernel
theorem dX7_read_15 : decode cX7_read 15 = .ok (.if_icmp .ge 36, 3) := by decide +kernel
theorem dX7_read_18 : decode cX7_read 18 = .ok (.iload_n 3, 1) := by decide +kernel
theorem dX7_read_19 : decode cX7_read 19 = .ok (.iload_n 2, 1) := by decide +kernel
theorem dX7_read_20 : decode cX7_read 20 = .ok (.if_icmp .ge 31, 3) := by decide +kernel
theorem dX7_read_23 : decode cX7_read 23 = .ok (.aload_n 1, 1) := by decide +kernel
theorem dX7_read_24 : decode cX7_read 24 = .ok (.iload_n 3, 1) := by decide +kernel
theorem dX7_read_25 : decode cX7_read 25 = .ok (.iaload, 1) := by decide +kernel
theorem dX7_read_26 : decode cX7_read 26 = .ok (.bipush 32, 2) := by decide +kernel
theorem dX7_read_28 : decode cX7_read 28 = .ok (.if_icmp .ne 9, 3) := by decide +kernel
theorem dX7_read_31 : decode cX7_read 31 = .ok (.iload_n 3, 1) := by decide +kernel
theorem dX7_read_32 : decode cX7_read 32 = .ok (.iconst 1, 1) := by decide +kernel
theorem dX7_read_33 : decode cX7_read 33 = .ok (.iadd, 1) := by decide +kernel
theorem dX7_read_34 : decode cX7_read 34 = .ok (.goto 10, 3) := by decide +kernel
theorem dX7_read_37 : decode cX7_read 37 = .ok (.aload_n 0, 1) := by decide +kernel
theorem dX7_read_38 : decode cX7_read 38 = .ok (.aload_n 1, 1) := by decide +kernel
theorem dX7_read_39 : decode cX7_read 39 = .ok (.iload_n 2, 1) := by decide +kernel
theorem dX7_read_40 : decode cX7_read 40 = .ok (.iload_n 3, 1) := by decide +kernel
theorem dX7_read_41 : decode cX7_read 41 = .ok (.invokevirtual 37, 3) := by decide +kernel
theorem dX7_read_44 : decode cX7_read 44 = .ok (.istore_n 3, 1) := by decide +kernel
theorem dX7_read_45 : decode cX7_read 45 = .ok (.iinc 4 1, 3) := by decide +kernel
theorem dX7_read_48 : decode cX7_read 48 = .ok (.goto (-38), 3) := by decide +kernel
theorem dX7_read_51 : decode cX7_read 51 = .ok (.aload_n 0, 1) := by decide +kernel
theorem dX7_read_52 : decode cX7_read 52 = .ok (.bipush 23, 2) := by decide +kernel
theorem dX7_read_54 : decode cX7_read 54 = .ok (.iload_n 2, 1) := by decide +kernel
theorem dX7_read_55 : decode cX7_read 55 = .ok (.iconst 0, 1) := by decide +kernel
theorem dX7_read_56 : decode cX7_read 56 = .ok (.invokevirtual 41, 3) := by decide +kernel
theorem dX7_read_59 : decode cX7_read 59 = .ok (.aload_n 0, 1) := by decide +kernel
theorem dX7_read_60 : decode cX7_read 60 = .ok (.iconst (-1), 1) := by decide +kernel
theorem dX7_read_61 : decode cX7_read 61 = .ok (.putfield 25, 3) := by decide +kernel
theorem dX7_read_64 : decode cX7_read 64 = .ok (.aload_n 0, 1) := by decide +kernel
theorem dX7_read_65 : decode cX7_read 65 = .ok (.invokevirtual 45, 3) := by decide +kernel
theorem dX7_read_68 : decode cX7_read 68 = .ok (.return_, 1) := by decide +kernel
theorem dX5_readPart_0 : decode cX5_readPart 0 = .ok (.aload_n 0, 1) := by decide +kernel
theorem dX5_readPart_1 : decode cX5_readPart 1 = .ok (.iload_n 1, 1) := by decide +kernel
theorem dX5_readPart_2 : decode cX5_readPart 2 = .ok (.invokevirtual 67, 3) := by decide +kernel
theorem dX5_readPart_5 : decode cX5_readPart 5 = .ok (.ifCond .ne 5, 3) := by decide +kernel
theorem dX5_readPart_8 : decode cX5_readPart 8 = .ok (.iconst 0, 1) := by decide +kernel
theorem dX5_readPart_9 : decode cX5_readPart 9 = .ok (.ireturn, 1) := by decide +kernel
theorem dX5_readPart_10 : decode cX5_readPart 10 = .ok (.iconst 0, 1) := by decide +kernel
theorem dX5_readPart_11 : decode cX5_readPart 11 = .ok (.istore_n 2, 1) := by decide +kernel
theorem dX5_readPart_12 : decode cX5_readPart 12 = .ok (.iload_n 2, 1) := by decide +kernel
theorem dX5_readPart_13 : decode cX5_readPart 13 = .ok (.sipush 400, 3) := by decide +kernel
theorem dX5_readPart_16 : decode cX5_readPart 16 = .ok (.if_icmp .ge 47, 3) := by decide +kernel
theorem dX5_readPart_19 : decode cX5_readPart 19 = .ok (.aload_n 0, 1) := by decide +kernel
theorem dX5_readPart_20 : decode cX5_readPart 20 = .ok (.getfield 25, 3) := by decide +kernel
theorem dX5_readPart_23 : decode cX5_readPart 23 = .ok (.getfield 43, 3) := by decide +kernel
theorem dX5_readPart_26 : decode cX5_readPart 26 = .ok (.bipush 19, 2) := by decide +kernel
theorem dX5_readPart_28 : decode cX5_readPart 28 = .ok (.if_icmp .ne 35, 3) := by decide +kernel
theorem dX5_readPart_31 : decode cX5_readPart 31 = .ok (.aload_n 0, 1) := by decide +kernel
theorem dX5_readPart_32 : decode cX5_readPart 32 = .ok (.getfield 25, 3) := by decide +kernel
theorem dX5_readPart_35 : decode cX5_readPart 35 = .ok (.invokevirtual 48, 3) := by decide +kernel
theorem dX5_readPart_38 : decode cX5_readPart 38 = .ok (.aload_n 0, 1) := by decide +kernel
theorem dX5_readPart_39 : decode cX5_readPart 39 = .ok (.iload_n 1, 1) := by decide +kernel
theorem dX5_readPart_40 : decode cX5_readPart 40 = .ok (.invokevirtual 67, 3) := by decide +kernel
theorem dX5_readPart_43 : decode cX5_readPart 43 = .ok (.ifCond .ne 5, 3) := by decide +kernel
theorem dX5_readPart_46 : decode cX5_readPart 46 = .ok (.iconst 0, 1) := by decide +kernel
theorem dX5_readPart_47 : decode cX5_readPart 47 = .ok (.ireturn, 1) := by decide +kernel
theorem dX5_readPart_48 : decode cX5_readPart 48 = .ok (.aload_n 0, 1) := by decide +kernel
theorem dX5_readPart_49 : decode cX5_readPart 49 = .ok (.getfield 12, 3) := by decide +kernel
theorem dX5_readPart_52 : decode cX5_readPart 52 = .ok (.bipush (-19), 2) := by decide +kernel
theorem dX5_readPart_54 : decode cX5_readPart 54 = .ok (.invokevirtual 63, 3) := by decide +kernel
theorem dX5_readPart_57 : decode cX5_readPart 57 = .ok (.iinc 2 1, 3) := by decide +kernel
theorem dX5_readPart_60 : decode cX5_readPart 60 = .ok (.goto (-48), 3) := by decide +kernel
theorem dX5_readPart_63 : decode cX5_readPart 63 = .ok (.iconst 1, 1) := by decide +kernel
theorem dX5_readPart_64 : decode cX5_readPart 64 = .ok (.ireturn, 1) := by decide +kernel
theorem dX5_readTest_0 : decode cX5_readTest 0 = .ok (.aload_n 0, 1) := by decide +kernel
theorem dX5_readTest_1 : decode cX5_readTest 1 = .ok (.iload_n 1, 1) := by decide +kernel
theorem dX5_readTest_2 : decode cX5_readTest 2 = .ok (.invokevirtual 60, 3) := by decide +kernel
theorem dX5_readTest_5 : decode cX5_readTest 5 = .ok (.ifCond .ne 5, 3) := by decide +kernel
theorem dX5_readTest_8 : decode cX5_readTest 8 = .ok (.iconst 0, 1) := by decide +kernel
theorem dX5_readTest_9 : decode cX5_readTest 9 = .ok (.ireturn, 1) := by decide +kernel
theorem dX5_readTest_10 : decode cX5_readTest 10 = .ok (.iconst 0, 1) := by decide +kernel
theorem dX5_readTest_11 : decode cX5_readTest 11 = .ok (.istore_n 2, 1) := by decide +kernel
theorem dX5_readTest_12 : decode cX5_readTest 12 = .ok (.iload_n 2, 1) := by decide +kernel
theorem dX5_readTest_13 : decode cX5_readTest 13 = .ok (.sipush 400, 3) := by decide +kernel
theorem dX5_readTest_16 : decode cX5_readTest 16 = .ok (.if_icmp .ge 47, 3) := by decide +kernel
theorem dX5_readTest_19 : decode cX5_readTest 19 = .ok (.aload_n 0, 1) := by decide +kernel
theorem dX5_readTest_20 : decode cX5_readTest 20 = .ok (.getfield 25, 3) := by decide +kernel
theorem dX5_readTest_23 : decode cX5_readTest 23 = .ok (.getfield 43, 3) := by decide +kernel
theorem dX5_readTest_26 : decode cX5_readTest 26 = .ok (.bipush 18, 2) := by decide +kernel
theorem dX5_readTest_28 : decode cX5_readTest 28 = .ok (.if_icmp .ne 35, 3) := by decide +kernel
theorem dX5_readTest_31 : decode cX5_readTest 31 = .ok (.aload_n 0, 1) := by decide +kernel
theorem dX5_readTest_32 : decode cX5_readTest 32 = .ok (.getfield 25, 3) := by decide +kernel
theorem dX5_readTest_35 : decode cX5_readTest 35 = .ok (.invokevirtual 48, 3) := by decide +kernel
theorem dX5_readTest_38 : decode cX5_readTest 38 = .ok (.aload_n 0, 1) := by decide +kernel
theorem dX5_readTest_39 : decode cX5_readTest 39 = .ok (.iload_n 1, 1) := by decide +kernel
theorem dX5_readTest_40 : decode cX5_readTest 40 = .ok (.invokevirtual 60, 3) := by decide +kernel
theorem dX5_readTest_43 : decode cX5_readTest 43 = .ok (.ifCond .ne 5, 3) := by decide +kernel
theorem dX5_readTest_46 : decode cX5_readTest 46 = .ok (.iconst 0, 1) := by decide +kernel
theorem dX5_readTest_47 : decode cX5_readTest 47 = .ok (.ireturn, 1) := by decide +kernel
theorem dX5_readTest_48 : decode cX5_readTest 48 = .ok (.aload_n 0, 1) := by decide +kernel
theorem dX5_readTest_49 : decode cX5_readTest 49 = .ok (.getfield 12, 3) := by decide +kernel
theorem dX5_readTest_52 : decode cX5_readTest 52 = .ok (.bipush (-18), 2) := by decide +kernel
theorem dX5_readTest_54 : decode cX5_readTest 54 = .ok (.invokevirtual 63, 3) := by decide +kernel
theorem dX5_readTest_57 : decode cX5_readTest 57 = .ok (.iinc 2 1, 3) := by decide +kernel
theorem dX5_readTest_60 : decode cX5_readTest 60 = .ok (.goto (-48), 3) := by decide +kernel
theorem dX5_readTest_63 : decode cX5_readTest 63 = .ok (.iconst 1, 1) := by decide +kernel
theorem dX5_readTest_64 : decode cX5_readTest 64 = .ok (.ireturn, 1) := by decide +kernel
theorem dX5_readWithin_0 : decode cX5_readWithin 0 = .ok (.aload_n 0, 1) := by decide +kernel
theorem dX5_readWithin_1 : decode cX5_readWithin 1 = .ok (.getfield 25, 3) := by decide +kernel
theorem dX5_readWithin_4 : decode cX5_readWithin 4 = .ok (.invokevirtual 48, 3) := by decide +kernel
theorem dX5_readWithin_7 : decode cX5_readWithin 7 = .ok (.iload_n 1, 1) := by decide +kernel
theorem dX5_readWithin_8 : decode cX5_readWithin 8 = .ok (.bipush 20, 2) := by decide +kernel
theorem dX5_readWithin_10 : decode cX5_readWithin 10 = .ok (.if_icmp .ne 24, 3) := by decide +kernel
theorem dX5_readWithin_13 : decode cX5_readWithin 13 = .ok (.aload_n 0, 1) := by decide +kernel
theorem dX5_readWithin_14 : decode cX5_readWithin 14 = .ok (.iload_n 2, 1) := by decide +kernel
theorem dX5_readWithin_15 : decode cX5_readWithin 15 = .ok (.invokevirtual 67, 3) := by decide +kernel
theorem dX5_readWithin_18 : decode cX5_readWithin 18 = .ok (.ifCond .ne 5, 3) := by decide +kernel
theorem dX5_readWithin_21 : decode cX5_readWithin 21 = .ok (.iconst 0, 1) := by decide +kernel
theorem dX5_readWithin_22 : decode cX5_readWithin 22 = .ok (.ireturn, 1) := by decide +kernel
theorem dX5_readWithin_23 : decode cX5_readWithin 23 = .ok (.aload_n 0, 1) := by decide +kernel
theorem dX5_readWithin_24 : decode cX5_readWithin 24 = .ok (.getfield 12, 3) := by decide +kernel
theorem dX5_readWithin_27 : decode cX5_readWithin 27 = .ok (.bipush (-20), 2) := by decide +kernel
theorem dX5_readWithin_29 : decode cX5_readWithin 29 = .ok (.invokevirtual 63, 3) := by decide +kernel
theorem dX5_readWithin_32 : decode cX5_readWithin 32 = .ok (.iconst 1, 1) := by decide +kernel
theorem dX5_readWithin_33 : decode cX5_readWithin 33 = .ok (.ireturn, 1) := by decide +kernel
theorem dX5_readWithin_34 : decode cX5_readWithin 34 = .ok (.aload_n 0, 1) := by decide +kernel
theorem dX5_readWithin_35 : decode cX5_readWithin 35 = .ok (.iload_n 2, 1) := by decide +kernel
theorem dX5_readWithin_36 : decode cX5_readWithin 36 = .ok (.invokevirtual 51, 3) := by decide +kernel
theorem dX5_readWithin_39 : decode cX5_readWithin 39 = .ok (.ifCond .ne 5, 3) := by decide +kernel
theorem dX5_readWithin_42 : decode cX5_readWithin 42 = .ok (.iconst 0, 1) := by decide +kernel
theorem dX5_readWithin_43 : decode cX5_readWithin 43 = .ok (.ireturn, 1) := by decide +kernel
theorem dX5_readWithin_44 : decode cX5_readWithin 44 = .ok (.aload_n 0, 1) := by decide +kernel
theorem dX5_readWithin_45 : decode cX5_readWithin 45 = .ok (.getfield 25, 3) := by decide +kernel
theorem dX5_readWithin_48 : decode cX5_readWithin 48 = .ok (.getfield 43, 3) := by decide +kernel
theorem dX5_readWithin_51 : decode cX5_readWithin 51 = .ok (.bipush 32, 2) := by decide +kernel
theorem dX5_readWithin_53 : decode cX5_readWithin 53 = .ok (.if_icmp .eq 9, 3) := by decide +kernel
theorem dX5_readWithin_56 : decode cX5_readWithin 56 = .ok (.aload_n 0, 1) := by decide +kernel
theorem dX5_readWithin_57 : decode cX5_readWithin 57 = .ok (.iconst 0, 1) := by decide +kernel
theorem dX5_readWithin_58 : decode cX5_readWithin 58 = .ok (.invokevirtual 57, 3) := by decide +kernel
theorem dX5_readWithin_61 : decode cX5_readWithin 61 = .ok (.ireturn, 1) := by decide +kernel
theorem dX5_readWithin_62 : decode cX5_readWithin 62 = .ok (.aload_n 0, 1) := by decide +kernel
theorem dX5_readWithin_63 : decode cX5_readWithin 63 = .ok (.getfield 25, 3) := by decide +kernel
theorem dX5_readWithin_66 : decode cX5_readWithin 66 = .ok (.invokevirtual 48, 3) := by decide +kernel
theorem dX5_readWithin_69 : decode cX5_readWithin 69 = .ok (.iconst 1, 1) := by decide +kernel
theorem dX5_readWithin_70 : decode cX5_readWithin 70 = .ok (.ireturn, 1) := by decide +kernel
def fX8_pass_L5 (L : List Nat) (a1 : Nat) (n1 : Nat) (p2 : Int32) : Nat → Int32 → Int32 → St → Option (Int32 × St)
  | 0, _, _, _ => none
  | n + 1, y3, y4, st => if (st.1 134 6) ≤ y4 then (br (fX8_burn a1 n1 p2 st) (fun s3 => some (y3, s3))) else (bw (fX8_choose L a1 n1 y4 st) (fun x4 s3 => if x4 < 0 then (nm (y4 + (1 : Int32)) (fun x6 => (fX8_pass_L5 L a1 n1 p2 n) y3 x6 s3)) else (bw (fX8_callAt a1 n1 y4 x4 s3) (fun x8 s7 => nm (y3 + x8) (fun x9 => nm (y4 + (1 : Int32)) (fun x10 => (fX8_pass_L5 L a1 n1 p2 n) x9 x10 s7))))))
set_option maxRecDepth 100000 in
theorem wX8_pass_L5 {p : Program} {l : Launch} {e : Env} {s : State} {m : MethodId} {args : Array Value} {below : List Frame} {meth : Method} {c : Code} {E : Ev} (hL : ∀ k, fxC k = true → k ∈ eL E) {L : List Nat} {a1 : Nat} {n1 : Nat} {p2 : Int32} (hLL : L = eL E) (hm1 : a1 ∈ eL E) (ht1 : ty a1 = 10000 + n1) (hn1 : n1 < 10000) {sz : Nat} {res : (Int32 × St)} (X : CX p s m args c E RX8 cX8_pass 6 (Af E sz)) (hr : meth.sig.returnType = (some .int)) (hlk : meth.locks = false) : ∀ (n : Nat) (y3 : Int32) (y4 : Int32) (st : St) (H : Heap) (locs : List Loc), fX8_pass_L5 L a1 n1 p2  n y3 y4 st = some res → Gd E st (Af E sz) s H locs → ∀ ls : Array Slot, lv_has ls 6 [(0, .ref (eq E 50)), (1, .ref (eq E a1)), (2, .int p2), (3, .int y3), (4, .int y4)] → W p l e (rmk 4) s m args below meth c H locs 0 0 (MQ below (QWi E res.2 sz res.1) args s 0 0 (Af E sz)) (F0 m 5 ls []) := by
  have hx := X.1.1
  have hb := X.1.2.1
  intro n
  induction n with
  | zero =>
    intro y3 y4 st H locs hf G ls hl
    cases (show (none : Option (Int32 × St)) = some res from hf)
  | succ n ih =>
    intro y3 y4 st H locs hf G ls hl
    rw [fX8_pass_L5] at hf
    refine lv_iload hx hb dX8_pass_5 (lv_at hl 4 rfl) ?_
    refine lv_aload_n hx hb dX8_pass_7 rfl (lv_at hl 0 rfl) ?_
    refine gf8 X G (hL 50 rfl) rfl 0 (by decide) rfl kf_X8_23 iwX8 dX8_pass_8 ?_
    refine gf1 X G (hL 134 rfl) rfl 6 (by decide) rfl kf_X8_30 iwX1 dX8_pass_11 ?_
    refine lv_icmp_ge (tgt := 49) hx hb dX8_pass_14 (by decide) (fun c1 => ?_) (fun c1 => ?_)
    · have hf := it_t hf c1
      refine lv_aload_n hx hb dX8_pass_49 rfl (lv_at hl 0 rfl) ?_
      refine lv_aload_n hx hb dX8_pass_50 rfl (lv_at hl 1 rfl) ?_
      refine lv_iload_n hx hb dX8_pass_51 rfl (lv_at hl 2 rfl) ?_
      obtain ⟨s3, h2, hf⟩ := br_s hf
      refine cVWv (As := [.ref (eq E a1), .int p2]) (rest := []) X G kc_X8_41 (tX8_burn l E st _ hL hm1 ht1 hn1 p2 h2) (rcv X G (hL 50 rfl) (cO8 rfl) rfl) rfl rfl (rmk_le (by omega) (by decide)) rfl hl.1 rfl (Nat.le_of_ble_eq_true rfl) dX8_pass_52 ⟨Nat.zero_le _, Nat.zero_le _⟩ (fun H locs G => ?_)
      refine lv_iload_n hx hb dX8_pass_55 rfl (lv_at hl 3 rfl) ?_
      exact rtWi X hlk G hr (so_i hf) dX8_pass_56
    · have hf := it_f hf c1
      refine lv_aload_n hx hb dX8_pass_17 rfl (lv_at hl 0 rfl) ?_
      refine lv_aload_n hx hb dX8_pass_18 rfl (lv_at hl 1 rfl) ?_
      refine lv_iload hx hb dX8_pass_19 (lv_at hl 4 rfl) ?_
      obtain ⟨x4, s3, h2, hf⟩ := bw_s hf
      refine cVWi (As := [.ref (eq E a1), .int y4]) (rest := []) X G kc_X8_33 (tX8_choose l E st _ hL hLL hm1 ht1 hn1 y4 h2) (rcv X G (hL 50 rfl) (cO8 rfl) rfl) rfl rfl (rmk_le (by omega) (by decide)) rfl hl.1 rfl (Nat.le_of_ble_eq_true rfl) dX8_pass_21 ⟨Nat.zero_le _, Nat.zero_le _⟩ (fun H locs G => ?_)
      refine lv_istore (lv' := [(5, .int x4), (0, .ref (eq E 50)), (1, .ref (eq E a1)), (2, .int p2), (3, .int y3), (4, .int y4)]) hx hb dX8_pass_24 hl (by decide) rfl (fun ls hl => ?_)
      refine lv_iload hx hb dX8_pass_26 (lv_at hl 0 rfl) ?_
      refine lv_if_lt (tgt := 43) hx hb dX8_pass_28 (by decide) (fun c5 => ?_) (fun c5 => ?_)
      · have hf := it_t hf c5
        obtain ⟨x6, ex6⟩ : ∃ y : Int32, y = (y4 + (1 : Int32)) := ⟨_, rfl⟩
        have hf := nm_s hf x6 ex6
        refine lv_iinc (k := 5) (v := x6) (lv' := [(4, .int x6), (5, .int x4), (0, .ref (eq E 50)), (1, .ref (eq E a1)), (2, .int p2), (3, .int y3)]) hx hb dX8_pass_43 hl rfl (by rw [ex6]; rfl) (by decide) rfl (fun ls hl => ?_)
        refine lv_goto (tgt := 5) hx hb dX8_pass_46 (by decide) ?_
        exact ih y3 x6 s3 _ _ hf G _ (lv_sub hl [2, 3, 4, 5, 0] rfl)
      · have hf := it_f hf c5
        refine lv_iload_n hx hb dX8_pass_31 rfl (lv_at hl 4 rfl) ?_
        refine lv_aload_n hx hb dX8_pass_32 rfl (lv_at hl 1 rfl) ?_
        refine lv_aload_n hx hb dX8_pass_33 rfl (lv_at hl 2 rfl) ?_
        refine lv_iload hx hb dX8_pass_34 (lv_at hl 5 rfl) ?_
        refine lv_iload hx hb dX8_pass_36 (lv_at hl 0 rfl) ?_
        obtain ⟨x8, s7, h6, hf⟩ := bw_s hf
        refine cVWi (As := [.ref (eq E a1), .int y4, .int x4]) (rest := [.int y3]) X G kc_X8_37 (tX8_callAt l E s3 _ hL hm1 ht1 hn1 y4 x4 h6) (rcv X G (hL 50 rfl) (cO8 rfl) rfl) rfl rfl (rmk_le (by omega) (by decide)) rfl hl.1 rfl (Nat.le_of_ble_eq_true rfl) dX8_pass_38 ⟨Nat.zero_le _, Nat.zero_le _⟩ (fun H locs G => ?_)
        refine lv_iadd hx hb dX8_pass_41 ?_
        refine lv_topi (fun x9 ex9 => ?_)
        have hf := nm_s hf x9 ex9
        refine lv_istore_n (lv' := [(3, .int x9), (5, .int x4), (0, .ref (eq E 50)), (1, .ref (eq E a1)), (2, .int p2), (4, .int y4)]) hx hb dX8_pass_42 rfl hl (by decide) rfl (fun ls hl => ?_)
        obtain ⟨x10, ex10⟩ : ∃ y : Int32, y = (y4 + (1 : Int32)) := ⟨_, rfl⟩
        have hf := nm_s hf x10 ex10
        refine lv_iinc (k := 5) (v := x10) (lv' := [(4, .int x10), (3, .int x9), (5, .int x4), (0, .ref (eq E 50)), (1, .ref (eq E a1)), (2, .int p2)]) hx hb dX8_pass_43 hl rfl (by rw [ex10]; rfl) (by decide) rfl (fun ls hl => ?_)
        refine lv_goto (tgt := 5) hx hb dX8_pass_46 (by decide) ?_
        exact ih x9 x10 s7 _ _ hf G _ (lv_sub hl [3, 4, 5, 1, 0] rfl)
def fX8_pass (L : List Nat) (a1 : Nat) (n1 : Nat) (p2 : Int32) (st : St) : Option (Int32 × St) := fX8_pass_L5 L a1 n1 p2 10000 (0 : Int32) (0 : Int32) st
set_option maxRecDepth 100000 in
theorem tX8_pass (l : Launch) (E : Ev) (st : St) (sz : Nat) (hL : ∀ k, fxC k = true → k ∈ eL E) {L : List Nat} {a1 : Nat} {n1 : Nat} (hLL : L = eL E) (hm1 : a1 ∈ eL E) (ht1 : ty a1 = 10000 + n1) (hn1 : n1 < 10000) (p2 : Int32) {res : (Int32 × St)} (hf : fX8_pass L a1 n1 p2 st = some res) : Met l yX8_pass (.code yX8_pass cX8_pass 6 (some .int) :: uW) (rmk 4) (va_Pc [.ref (eq E 50), .ref (eq E a1), .int p2] (Pre E st sz)) (QWi E res.2 sz res.1) 0 0 (Af E sz) := by
  refine Met_in (by decide) (Nat.le_of_ble_eq_true rfl) ?_
  intro p e s m below meth c X hr hlk hz G ls hl
  have hx := X.1.1
  have hb := X.1.2.1
  have hl : lv_has ls 6 [(0, .ref (eq E 50)), (1, .ref (eq E a1)), (2, .int p2)] := hl
  unfold fX8_pass at hf
  refine lv_iconst (v := (0 : Int32)) hx hb dX8_pass_0 (by decide) ?_
  refine lv_istore_n (lv' := [(3, .int (0 : Int32)), (0, .ref (eq E 50)), (1, .ref (eq E a1)), (2, .int p2)]) hx hb dX8_pass_1 rfl hl (by decide) rfl (fun ls hl => ?_)
  refine lv_iconst (v := (0 : Int32)) hx hb dX8_pass_2 (by decide) ?_
  refine lv_istore (lv' := [(4, .int (0 : Int32)), (3, .int (0 : Int32)), (0, .ref (eq E 50)), (1, .ref (eq E a1)), (2, .int p2)]) hx hb dX8_pass_3 hl (by decide) rfl (fun ls hl => ?_)
  exact wX8_pass_L5 hL hLL hm1 ht1 hn1 X hr hlk 10000 (0 : Int32) (0 : Int32) st _ _ hf G _ (lv_sub hl [2, 3, 4, 1, 0] rfl)
def fX6_agrees_L2 (p1 : Int32) (st : St) : Nat → Int32 → Option Int32
  | 0, _ => none
  | n + 1, y2 => if (st.1 120 7) ≤ y2 then (some (1 : Int32)) else (gd (ix y2 10) (if (st.1 125 y2.toNatClampNeg) = p1 then (gd (ix y2 10) (gd (ix ((0 : Int32) + (st.1 126 y2.toNatClampNeg)) 41) (gd (ix y2 10) (if (st.1 83 ((0 : Int32) + (st.1 126 y2.toNatClampNeg)).toNatClampNeg) = (st.1 127 y2.toNatClampNeg) then (nm (y2 + (1 : Int32)) (fun x8 => (fX6_agrees_L2 p1 st n) x8)) else (some (0 : Int32)))))) else (nm (y2 + (1 : Int32)) (fun x4 => (fX6_agrees_L2 p1 st n) x4))))
set_option maxRecDepth 100000 in
theorem wX6_agrees_L2 {p : Program} {l : Launch} {e : Env} {s : State} {m : MethodId} {args : Array Value} {below : List Frame} {meth : Method} {c : Code} {E : Ev} (hL : ∀ k, fxC k = true → k ∈ eL E) {p1 : Int32} {st : St} {sz : Nat} {res : Int32} (X : CX p s m args c E RX6 cX6_agrees 3 (Af E sz)) (hr : meth.sig.returnType = (some .boolean)) (hlk : meth.locks = false) (G : Gd E st (Af E sz) s s.heap []) : ∀ (n : Nat) (y2 : Int32), fX6_agrees_L2 p1 st  n y2 = some res → ∀ ls : Array Slot, lv_has ls 3 [(0, .ref (eq E 80)), (1, .int p1), (2, .int y2)] → W p l e (rmk 0) s m args below meth c s.heap [] 0 0 (MQ below (QRi res) args s 0 0 (NoF)) (F0 m 2 ls []) := by
  have hx := X.1.1
  have hb := X.1.2.1
  intro n
  induction n with
  | zero =>
    intro y2 hf ls hl
    cases (show (none : Option Int32) = some res from hf)
  | succ n ih =>
    intro y2 hf ls hl
    rw [fX6_agrees_L2] at hf
    refine lv_iload_n hx hb dX6_agrees_2 rfl (lv_at hl 2 rfl) ?_
    refine lv_aload_n hx hb dX6_agrees_3 rfl (lv_at hl 0 rfl) ?_
    refine gf6 X G (hL 80 rfl) rfl 0 (by decide) rfl kf_X6_22 iwX6 dX6_agrees_4 ?_
    refine gf2 X G (hL 120 rfl) rfl 7 (by decide) rfl kf_X6_67 iwX2 dX6_agrees_7 ?_
    refine lv_icmp_ge (tgt := 62) hx hb dX6_agrees_10 (by decide) (fun c1 => ?_) (fun c1 => ?_)
    · have hf := it_t hf c1
      refine lv_iconst (v := (1 : Int32)) hx hb dX6_agrees_62 (by decide) ?_
      exact rtRz X hlk hr rfl (so_i hf) dX6_agrees_63
    · have hf := it_f hf c1
      refine lv_aload_n hx hb dX6_agrees_13 rfl (lv_at hl 0 rfl) ?_
      refine gf6 X G (hL 80 rfl) rfl 0 (by decide) rfl kf_X6_22 iwX6 dX6_agrees_14 ?_
      refine gf2 X G (hL 120 rfl) rfl 4 (by decide) rfl kf_X6_70 iwX2 dX6_agrees_17 ?_
      refine lv_iload_n hx hb dX6_agrees_20 rfl (lv_at hl 2 rfl) ?_
      obtain ⟨h2, hf⟩ := gd_s hf
      refine ia_ld (k := 125) (n := 10) X G (hL 125 rfl) rfl (by decide) (ix_in h2) dX6_agrees_21 ?_
      refine lv_iload_n hx hb dX6_agrees_22 rfl (lv_at hl 1 rfl) ?_
      refine lv_icmp_ne (tgt := 56) hx hb dX6_agrees_23 (by decide) (fun c3 => ?_) (fun c3 => ?_)
      · have hf := it_f hf c3
        obtain ⟨x4, ex4⟩ : ∃ y : Int32, y = (y2 + (1 : Int32)) := ⟨_, rfl⟩
        have hf := nm_s hf x4 ex4
        refine lv_iinc (k := 2) (v := x4) (lv' := [(2, .int x4), (0, .ref (eq E 80)), (1, .int p1)]) hx hb dX6_agrees_56 hl rfl (by rw [ex4]; rfl) (by decide) rfl (fun ls hl => ?_)
        refine lv_goto (tgt := 2) hx hb dX6_agrees_59 (by decide) ?_
        exact ih x4 hf _ (lv_sub hl [1, 2, 0] rfl)
      · have hf := it_t hf c3
        refine lv_aload_n hx hb dX6_agrees_26 rfl (lv_at hl 0 rfl) ?_
        refine gf6 X G (hL 80 rfl) rfl 2 (by decide) rfl kf_X6_9 iwX6 dX6_agrees_27 ?_
        refine lv_iconst (v := (0 : Int32)) hx hb dX6_agrees_30 (by decide) ?_
        refine lv_aload_n hx hb dX6_agrees_31 rfl (lv_at hl 0 rfl) ?_
        refine gf6 X G (hL 80 rfl) rfl 0 (by decide) rfl kf_X6_22 iwX6 dX6_agrees_32 ?_
        refine gf2 X G (hL 120 rfl) rfl 5 (by decide) rfl kf_X6_79 iwX2 dX6_agrees_35 ?_
        refine lv_iload_n hx hb dX6_agrees_38 rfl (lv_at hl 2 rfl) ?_
        obtain ⟨h4, hf⟩ := gd_s hf
        refine ia_ld (k := 126) (n := 10) X G (hL 126 rfl) rfl (by decide) (ix_in h4) dX6_agrees_39 ?_
        refine lv_iadd hx hb dX6_agrees_40 ?_
        obtain ⟨h5, hf⟩ := gd_s hf
        refine ia_ld (k := 83) (n := 41) X G (hL 83 rfl) rfl (by decide) (ix_in h5) dX6_agrees_41 ?_
        refine lv_aload_n hx hb dX6_agrees_42 rfl (lv_at hl 0 rfl) ?_
        refine gf6 X G (hL 80 rfl) rfl 0 (by decide) rfl kf_X6_22 iwX6 dX6_agrees_43 ?_
        refine gf2 X G (hL 120 rfl) rfl 6 (by decide) rfl kf_X6_82 iwX2 dX6_agrees_46 ?_
        refine lv_iload_n hx hb dX6_agrees_49 rfl (lv_at hl 2 rfl) ?_
        obtain ⟨h6, hf⟩ := gd_s hf
        refine ia_ld (k := 127) (n := 10) X G (hL 127 rfl) rfl (by decide) (ix_in h6) dX6_agrees_50 ?_
        refine lv_icmp_eq (tgt := 56) hx hb dX6_agrees_51 (by decide) (fun c7 => ?_) (fun c7 => ?_)
        · have hf := it_t hf c7
          obtain ⟨x8, ex8⟩ : ∃ y : Int32, y = (y2 + (1 : Int32)) := ⟨_, rfl⟩
          have hf := nm_s hf x8 ex8
          refine lv_iinc (k := 2) (v := x8) (lv' := [(2, .int x8), (0, .ref (eq E 80)), (1, .int p1)]) hx hb dX6_agrees_56 hl rfl (by rw [ex8]; rfl) (by decide) rfl (fun ls hl => ?_)
          refine lv_goto (tgt := 2) hx hb dX6_agrees_59 (by decide) ?_
          exact ih x8 hf _ (lv_sub hl [1, 2, 0] rfl)
        · have hf := it_f hf c7
          refine lv_iconst (v := (0 : Int32)) hx hb dX6_agrees_54 (by decide) ?_
          exact rtRz X hlk hr rfl (so_i hf) dX6_agrees_55
def fX6_agrees (st : St) (p1 : Int32) : Option Int32 := fX6_agrees_L2 p1 st 10000 (0 : Int32)
set_option maxRecDepth 100000 in
theorem tX6_agrees (l : Launch) (E : Ev) (st : St) (sz : Nat) (hL : ∀ k, fxC k = true → k ∈ eL E) (p1 : Int32) {res : Int32} (hf : fX6_agrees st p1 = some res) : Met l yX6_agrees (.code yX6_agrees cX6_agrees 3 (some .boolean) :: uW) (rmk 0) (va_Pc [.ref (eq E 80), .int p1] (Pre E st sz)) (QRi res) 0 0 (NoF) := by
  refine Met_in (by decide) (Nat.le_of_ble_eq_true rfl) ?_
  intro p e s m below meth c X hr hlk hz G ls hl
  have hx := X.1.1
  have hb := X.1.2.1
  have hl : lv_has ls 3 [(0, .ref (eq E 80)), (1, .int p1)] := hl
  unfold fX6_agrees at hf
  refine lv_iconst (v := (0 : Int32)) hx hb dX6_agrees_0 (by decide) ?_
  refine lv_istore_n (lv' := [(2, .int (0 : Int32)), (0, .ref (eq E 80)), (1, .int p1)]) hx hb dX6_agrees_1 rfl hl (by decide) rfl (fun ls hl => ?_)
  exact wX6_agrees_L2 hL X hr hlk G 10000 (0 : Int32) hf _ (lv_sub hl [1, 2, 0] rfl)
def fX6_fits_L12 (L : List Nat) (o1 : Option Nat) : Nat → Int32 → Int32 → St → Option (Int32 × St)
  | 0, _, _, _ => none
  | n + 1, y2, y3, st => if y2 < y3 then (some ((1 : Int32), st)) else (bw (fX8_pass L 83 41 (0 : Int32) st) (fun x4 s3 => br (fX6_agrees s3 y3) (fun x6 => if x6 = 0 then (some ((0 : Int32), s3)) else (nm (y3 + (1 : Int32)) (fun x8 => (fX6_fits_L12 L o1 n) y2 x8 s3)))))
set_option maxRecDepth 100000 in
theorem wX6_fits_L12 {p : Program} {l : Launch} {e : Env} {s : State} {m : MethodId} {args : Array Value} {below : List Frame} {meth : Method} {c : Code} {E : Ev} (hL : ∀ k, fxC k = true → k ∈ eL E) {L : List Nat} {o1 : Option Nat} (hLL : L = eL E) {sz : Nat} {res : (Int32 × St)} (X : CX p s m args c E RX6 cX6_fits 4 (Af E sz)) (hr : meth.sig.returnType = (some .boolean)) (hlk : meth.locks = false) : ∀ (n : Nat) (y2 : Int32) (y3 : Int32) (st : St) (H : Heap) (locs : List Loc), fX6_fits_L12 L o1  n y2 y3 st = some res → Gd E st (Af E sz) s H locs → ∀ ls : Array Slot, lv_has ls 4 [(0, .ref (eq E 80)), (2, .int y2), (3, .int y3)] → W p l e (rmk 5) s m args below meth c H locs 0 0 (MQ below (QWi E res.2 sz res.1) args s 0 0 (Af E sz)) (F0 m 12 ls []) := by
  have hx := X.1.1
  have hb := X.1.2.1
  intro n
  induction n with
  | zero =>
    intro y2 y3 st H locs hf G ls hl
    cases (show (none : Option (Int32 × St)) = some res from hf)
  | succ n ih =>
    intro y2 y3 st H locs hf G ls hl
    rw [fX6_fits_L12] at hf
    refine lv_iload_n hx hb dX6_fits_12 rfl (lv_at hl 2 rfl) ?_
    refine lv_iload_n hx hb dX6_fits_13 rfl (lv_at hl 1 rfl) ?_
    refine lv_icmp_gt (tgt := 46) hx hb dX6_fits_14 (by decide) (fun c1 => ?_) (fun c1 => ?_)
    · have hf := it_t hf c1
      refine lv_iconst (v := (1 : Int32)) hx hb dX6_fits_46 (by decide) ?_
      exact rtWz X hlk G hr rfl (so_i hf) dX6_fits_47
    · have hf := it_f hf c1
      refine lv_aload_n hx hb dX6_fits_17 rfl (lv_at hl 0 rfl) ?_
      refine gf6 X G (hL 80 rfl) rfl 1 (by decide) rfl kf_X6_26 iwX6 dX6_fits_18 ?_
      refine lv_aload_n hx hb dX6_fits_21 rfl (lv_at hl 0 rfl) ?_
      refine gf6 X G (hL 80 rfl) rfl 2 (by decide) rfl kf_X6_9 iwX6 dX6_fits_22 ?_
      refine lv_iconst (v := (0 : Int32)) hx hb dX6_fits_25 (by decide) ?_
      obtain ⟨x4, s3, h2, hf⟩ := bw_s hf
      refine cVWi (As := [.ref (eq E 83), .int (0 : Int32)]) (rest := []) X G kc_X6_38 (tX8_pass l E st _ hL hLL (hL 83 rfl) rfl (by decide) (0 : Int32) h2) (rcv X G (hL 50 rfl) (cO8 rfl) rfl) rfl rfl (rmk_le (by omega) (by decide)) rfl hl.1 rfl (Nat.le_of_ble_eq_true rfl) dX6_fits_26 ⟨Nat.zero_le _, Nat.zero_le _⟩ (fun H locs G => ?_)
      refine lv_pop hx hb dX6_fits_29 rfl ?_
      refine lv_aload_n hx hb dX6_fits_30 rfl (lv_at hl 0 rfl) ?_
      refine lv_iload_n hx hb dX6_fits_31 rfl (lv_at hl 2 rfl) ?_
      obtain ⟨x6, h5, hf⟩ := br_s hf
      refine cVRi (As := [.int y3]) (rest := []) X G kc_X6_44 (tX6_agrees l E s3 _ hL  y3 h5) (rcv X G (hL 80 rfl) (cO6 rfl) rfl) rfl rfl (rmk_le (by omega) (by decide)) rfl hl.1 rfl (Nat.le_of_ble_eq_true rfl) dX6_fits_32 ⟨Nat.zero_le _, Nat.zero_le _⟩ ?_
      refine lv_if_ne (tgt := 40) hx hb dX6_fits_35 (by decide) (fun c7 => ?_) (fun c7 => ?_)
      · have hf := it_f hf c7
        obtain ⟨x8, ex8⟩ : ∃ y : Int32, y = (y3 + (1 : Int32)) := ⟨_, rfl⟩
        have hf := nm_s hf x8 ex8
        refine lv_iinc (k := 2) (v := x8) (lv' := [(3, .int x8), (0, .ref (eq E 80)), (2, .int y2)]) hx hb dX6_fits_40 hl rfl (by rw [ex8]; rfl) (by decide) rfl (fun ls hl => ?_)
        refine lv_goto (tgt := 12) hx hb dX6_fits_43 (by decide) ?_
        exact ih y2 x8 s3 _ _ hf G _ (lv_sub hl [1, 2, 0] rfl)
      · have hf := it_t hf c7
        refine lv_iconst (v := (0 : Int32)) hx hb dX6_fits_38 (by decide) ?_
        exact rtWz X hlk G hr rfl (so_i hf) dX6_fits_39
def fX6_fits (L : List Nat) (o1 : Option Nat) (st : St) : Option (Int32 × St) := br (fX6_begin o1 st) (fun s2 => br (fX6_lastBookNight s2) (fun x4 => fX6_fits_L12 L o1 10000 x4 (0 : Int32) s2))
set_option maxRecDepth 100000 in
theorem tX6_fits (l : Launch) (E : Ev) (st : St) (sz : Nat) (hL : ∀ k, fxC k = true → k ∈ eL E) {L : List Nat} {o1 : Option Nat} (hLL : L = eL E)  {res : (Int32 × St)} (hf : fX6_fits L o1  st = some res) : Met l yX6_fits (.code yX6_fits cX6_fits 4 (some .boolean) :: uW) (rmk 5) (va_Pc [.ref (eq E 80), va_rf (o1.map E.2.2.2.1)] (Pre E st sz)) (QWi E res.2 sz res.1) 0 0 (Af E sz) := by
  refine Met_in (by decide) (by cases o1 <;> exact Nat.le_of_ble_eq_true rfl) ?_
  intro p e s m below meth c X hr hlk hz G ls hl
  have hx := X.1.1
  have hb := X.1.2.1
  have hl : lv_has ls 4 [(0, .ref (eq E 80)), (1, va_rf (o1.map E.2.2.2.1))] := by cases o1 <;> exact hl
  unfold fX6_fits at hf
  refine lv_aload_n hx hb dX6_fits_0 rfl (lv_at hl 0 rfl) ?_
  refine lv_aload_q hx hb dX6_fits_1 rfl (lv_at hl 1 rfl) ?_
  obtain ⟨s2, h1, hf⟩ := br_s hf
  refine cVWv (As := [va_rf (o1.map E.2.2.2.1)]) (rest := []) X G kc_X6_30 (tX6_begin l E st _ hL   h1) (rcv X G (hL 80 rfl) (cO6 rfl) rfl) rfl rfl (rmk_le (by omega) (by decide)) rfl hl.1 rfl (Nat.le_of_ble_eq_true rfl) dX6_fits_2 ⟨Nat.zero_le _, Nat.zero_le _⟩ (fun H locs G => ?_)
  refine lv_aload_n hx hb dX6_fits_5 rfl (lv_at hl 0 rfl) ?_
  obtain ⟨x4, h3, hf⟩ := br_s hf
  refine cVRi (As := []) (rest := []) X G kc_X6_34 (tX6_lastBookNight l E s2 _ hL   h3) (rcv X G (hL 80 rfl) (cO6 rfl) rfl) rfl rfl (rmk_le (by omega) (by decide)) rfl hl.1 rfl (Nat.le_of_ble_eq_true rfl) dX6_fits_6 ⟨Nat.zero_le _, Nat.zero_le _⟩ ?_
  refine lv_istore_n (lv' := [(2, .int x4), (0, .ref (eq E 80)), (1, va_rf (o1.map E.2.2.2.1))]) hx hb dX6_fits_9 rfl hl (by decide) (by cases o1 <;> rfl) (fun ls hl => ?_)
  refine lv_iconst (v := (0 : Int32)) hx hb dX6_fits_10 (by decide) ?_
  refine lv_istore_n (lv' := [(3, .int (0 : Int32)), (2, .int x4), (0, .ref (eq E 80)), (1, va_rf (o1.map E.2.2.2.1))]) hx hb dX6_fits_11 rfl hl (by decide) (by cases o1 <;> rfl) (fun ls hl => ?_)
  exact wX6_fits_L12 hL hLL X hr hlk 10000 x4 (0 : Int32) s2 _ _ hf G _ (lv_sub hl [2, 1, 0] rfl)
def fX6_add_L17 (L : List Nat) (o1 : Option Nat) (p2 : Int32) : Nat → Int32 → St → Option St
  | 0, _, _ => none
  | n + 1, y3, st => if p2 < y3 then (gd (cpk (0 : Int32) ((st.1 80 4) * (8 : Int32)) (8 : Int32) 41 56) (nm (ur st 84 (va_cpy (st.1 83) (st.1 84) (0 : Int32).toNatClampNeg ((st.1 80 4) * (8 : Int32)).toNatClampNeg (8 : Int32).toNatClampNeg)) (fun s3 => nm (ui s3 80 4 ((s3.1 80 4) + (1 : Int32))) (fun s4 => some s4)))) else (bw (fX8_pass L 83 41 (0 : Int32) st) (fun x4 s3 => nm (y3 + (1 : Int32)) (fun x5 => (fX6_add_L17 L o1 p2 n) x5 s3)))
set_option maxRecDepth 100000 in
theorem wX6_add_L17 {p : Program} {l : Launch} {e : Env} {s : State} {m : MethodId} {args : Array Value} {below : List Frame} {meth : Method} {c : Code} {E : Ev} (hL : ∀ k, fxC k = true → k ∈ eL E) {L : List Nat} {o1 : Option Nat} {p2 : Int32} (hLL : L = eL E) {sz : Nat} {res : St} (X : CX p s m args c E RX6 cX6_add 4 (Af E sz)) (hr : meth.sig.returnType = none) (hlk : meth.locks = false) : ∀ (n : Nat) (y3 : Int32) (st : St) (H : Heap) (locs : List Loc), fX6_add_L17 L o1 p2  n y3 st = some res → Gd E st (Af E sz) s H locs → ∀ ls : Array Slot, lv_has ls 4 [(0, .ref (eq E 80)), (2, .int p2), (3, .int y3)] → W p l e (rmk 5) s m args below meth c H locs 0 0 (MQ below (QWv E res sz) args s 0 0 (Af E sz)) (F0 m 17 ls []) := by
  have hx := X.1.1
  have hb := X.1.2.1
  intro n
  induction n with
  | zero =>
    intro y3 st H locs hf G ls hl
    cases (show (none : Option St) = some res from hf)
  | succ n ih =>
    intro y3 st H locs hf G ls hl
    rw [fX6_add_L17] at hf
    refine lv_iload_n hx hb dX6_add_17 rfl (lv_at hl 2 rfl) ?_
    refine lv_iload_n hx hb dX6_add_18 rfl (lv_at hl 1 rfl) ?_
    refine lv_icmp_gt (tgt := 41) hx hb dX6_add_19 (by decide) (fun c1 => ?_) (fun c1 => ?_)
    · have hf := it_t hf c1
      refine lv_aload_n hx hb dX6_add_41 rfl (lv_at hl 0 rfl) ?_
      refine gf6 X G (hL 80 rfl) rfl 2 (by decide) rfl kf_X6_9 iwX6 dX6_add_42 ?_
      refine lv_iconst (v := (0 : Int32)) hx hb dX6_add_45 (by decide) ?_
      refine lv_aload_n hx hb dX6_add_46 rfl (lv_at hl 0 rfl) ?_
      refine gf6 X G (hL 80 rfl) rfl 3 (by decide) rfl kf_X6_15 iwX6 dX6_add_47 ?_
      refine lv_aload_n hx hb dX6_add_50 rfl (lv_at hl 0 rfl) ?_
      refine gf6 X G (hL 80 rfl) rfl 4 (by decide) rfl kf_X6_18 iwX6 dX6_add_51 ?_
      refine lv_bipush (v := (8 : Int32)) hx hb dX6_add_54 (by decide) ?_
      refine lv_imul hx hb dX6_add_56 ?_
      refine lv_bipush (v := (8 : Int32)) hx hb dX6_add_57 (by decide) ?_
      obtain ⟨h2, hf⟩ := gd_s hf
      refine a_copy (k0 := 83) (n0 := 41) (k1 := 84) (n1 := 56) X G hl.1 (hL 83 rfl) (hL 84 rfl) rfl (by decide) rfl (by decide) km_X6_58 kn_acopy ks_acopy ki_System (cpk_s h2).1 (cpk_s h2).2.1 (cpk_s h2).2.2.1 (cpk_s h2).2.2.2.1 (cpk_s h2).2.2.2.2 (rmk_1 (by omega)) (rmk_l (by omega) (Nat.le_of_ble_eq_true rfl)) dX6_add_59 (fun s3 es3 H locs G => ?_)
      have hf := nm_s hf s3 es3
      refine lv_aload_n hx hb dX6_add_62 rfl (lv_at hl 0 rfl) ?_
      refine lv_dup hx hb dX6_add_63 rfl ?_
      refine gf6 X G (hL 80 rfl) rfl 4 (by decide) rfl kf_X6_18 iwX6 dX6_add_64 ?_
      refine lv_iconst (v := (1 : Int32)) hx hb dX6_add_67 (by decide) ?_
      refine lv_iadd hx hb dX6_add_68 ?_
      refine pf6 X G (hL 80 rfl) rfl 4 (by decide) ps6_4 uio kf_X6_18 iwX6 rfl (ty := .int) (by decide +kernel) rfl rfl dX6_add_69 (fun s4 es4 H locs G => ?_)
      have hf := nm_s hf s4 es4
      exact rtWv X hlk G hr (so_i hf) dX6_add_72
    · have hf := it_f hf c1
      refine lv_aload_n hx hb dX6_add_22 rfl (lv_at hl 0 rfl) ?_
      refine gf6 X G (hL 80 rfl) rfl 1 (by decide) rfl kf_X6_26 iwX6 dX6_add_23 ?_
      refine lv_aload_n hx hb dX6_add_26 rfl (lv_at hl 0 rfl) ?_
      refine gf6 X G (hL 80 rfl) rfl 2 (by decide) rfl kf_X6_9 iwX6 dX6_add_27 ?_
      refine lv_iconst (v := (0 : Int32)) hx hb dX6_add_30 (by decide) ?_
      obtain ⟨x4, s3, h2, hf⟩ := bw_s hf
      refine cVWi (As := [.ref (eq E 83), .int (0 : Int32)]) (rest := []) X G kc_X6_38 (tX8_pass l E st _ hL hLL (hL 83 rfl) rfl (by decide) (0 : Int32) h2) (rcv X G (hL 50 rfl) (cO8 rfl) rfl) rfl rfl (rmk_le (by omega) (by decide)) rfl hl.1 rfl (Nat.le_of_ble_eq_true rfl) dX6_add_31 ⟨Nat.zero_le _, Nat.zero_le _⟩ (fun H locs G => ?_)
      refine lv_pop hx hb dX6_add_34 rfl ?_
      obtain ⟨x5, ex5⟩ : ∃ y : Int32, y = (y3 + (1 : Int32)) := ⟨_, rfl⟩
      have hf := nm_s hf x5 ex5
      refine lv_iinc (k := 2) (v := x5) (lv' := [(3, .int x5), (0, .ref (eq E 80)), (2, .int p2)]) hx hb dX6_add_35 hl rfl (by rw [ex5]; rfl) (by decide) rfl (fun ls hl => ?_)
      refine lv_goto (tgt := 17) hx hb dX6_add_38 (by decide) ?_
      exact ih x5 s3 _ _ hf G _ (lv_sub hl [1, 2, 0] rfl)
def fX6_add (L : List Nat) (o1 : Option Nat) (p2 : Int32) (st : St) : Option St := if (st.1 80 4) ≤ (6 : Int32) then (br (fX6_begin o1 st) (fun s3 => fX6_add_L17 L o1 p2 10000 (0 : Int32) s3)) else (some st)
set_option maxRecDepth 100000 in
theorem tX6_add (l : Launch) (E : Ev) (st : St) (sz : Nat) (hL : ∀ k, fxC k = true → k ∈ eL E) {L : List Nat} {o1 : Option Nat} (hLL : L = eL E) (p2 : Int32) {res : St} (hf : fX6_add L o1 p2 st = some res) : Met l yX6_add (.code yX6_add cX6_add 4 none :: uW) (rmk 5) (va_Pc [.ref (eq E 80), va_rf (o1.map E.2.2.2.1), .int p2] (Pre E st sz)) (QWv E res sz) 0 0 (Af E sz) := by
  refine Met_in (by decide) (by cases o1 <;> exact Nat.le_of_ble_eq_true rfl) ?_
  intro p e s m below meth c X hr hlk hz G ls hl
  have hx := X.1.1
  have hb := X.1.2.1
  have hl : lv_has ls 4 [(0, .ref (eq E 80)), (1, va_rf (o1.map E.2.2.2.1)), (2, .int p2)] := by cases o1 <;> exact hl
  unfold fX6_add at hf
  refine lv_aload_n hx hb dX6_add_0 rfl (lv_at hl 0 rfl) ?_
  refine gf6 X G (hL 80 rfl) rfl 4 (by decide) rfl kf_X6_18 iwX6 dX6_add_1 ?_
  refine lv_bipush (v := (6 : Int32)) hx hb dX6_add_4 (by decide) ?_
  refine lv_icmp_le (tgt := 10) hx hb dX6_add_6 (by decide) (fun c1 => ?_) (fun c1 => ?_)
  · have hf := it_t hf c1
    refine lv_aload_n hx hb dX6_add_10 rfl (lv_at hl 0 rfl) ?_
    refine lv_aload_q hx hb dX6_add_11 rfl (lv_at hl 1 rfl) ?_
    obtain ⟨s3, h2, hf⟩ := br_s hf
    refine cVWv (As := [va_rf (o1.map E.2.2.2.1)]) (rest := []) X G kc_X6_30 (tX6_begin l E st _ hL   h2) (rcv X G (hL 80 rfl) (cO6 rfl) rfl) rfl rfl (rmk_le (by omega) (by decide)) rfl hl.1 rfl (Nat.le_of_ble_eq_true rfl) dX6_add_12 ⟨Nat.zero_le _, Nat.zero_le _⟩ (fun H locs G => ?_)
    refine lv_iconst (v := (0 : Int32)) hx hb dX6_add_15 (by decide) ?_
    refine lv_istore_n (lv' := [(3, .int (0 : Int32)), (0, .ref (eq E 80)), (1, va_rf (o1.map E.2.2.2.1)), (2, .int p2)]) hx hb dX6_add_16 rfl hl (by decide) (by cases o1 <;> rfl) (fun ls hl => ?_)
    exact wX6_add_L17 hL hLL X hr hlk 10000 (0 : Int32) s3 _ _ hf G _ (lv_sub hl [1, 3, 0] rfl)
  · have hf := it_f hf c1
    exact rtWv X hlk G hr (so_i hf) dX6_add_9
def fX6_mostAlike_L18 (p1 : Int32) (st : St) (k4 : Int32 → Int32 → Option Int32) : Nat → Int32 → Int32 → Int32 → Int32 → Option Int32
  | 0, _, _, _, _ => none
  | n + 1, y2, y3, y4, y5 => if (st.1 80 4) ≤ y5 then (nm (if y2 < y4 then y4 else y2) (fun x2 => nm (y3 + (1 : Int32)) (fun x3 => k4 x2 x3))) else (gd (ix ((y3 * (8 : Int32)) + p1) 56) (gd (ix ((y5 * (8 : Int32)) + p1) 56) (if (st.1 84 ((y3 * (8 : Int32)) + p1).toNatClampNeg) = (st.1 84 ((y5 * (8 : Int32)) + p1).toNatClampNeg) then (nm (y4 + (1 : Int32)) (fun x5 => nm (y5 + (1 : Int32)) (fun x6 => (fX6_mostAlike_L18 p1 st k4 n) y2 y3 x5 x6))) else (nm (y5 + (1 : Int32)) (fun x5 => (fX6_mostAlike_L18 p1 st k4 n) y2 y3 y4 x5)))))
set_option maxRecDepth 100000 in
theorem wX6_mostAlike_L18 {p : Program} {l : Launch} {e : Env} {s : State} {m : MethodId} {args : Array Value} {below : List Frame} {meth : Method} {c : Code} {E : Ev} (hL : ∀ k, fxC k = true → k ∈ eL E) {p1 : Int32} {st : St} {sz : Nat} {res : Int32} (X : CX p s m args c E RX6 cX6_mostAlike 6 (Af E sz)) (hr : meth.sig.returnType = (some .int)) (hlk : meth.locks = false) (G : Gd E st (Af E sz) s s.heap []) {k4 : Int32 → Int32 → Option Int32} (hk4 : ∀ (y2 : Int32) (y3 : Int32), k4 y2 y3 = some res → ∀ ls : Array Slot, lv_has ls 6 [(0, .ref (eq E 80)), (1, .int p1), (2, .int y2), (3, .int y3)] → W p l e (rmk 1) s m args below meth c s.heap [] 0 0 (MQ below (QRi res) args s 0 0 (NoF)) (F0 m 4 ls [])) : ∀ (n : Nat) (y2 : Int32) (y3 : Int32) (y4 : Int32) (y5 : Int32), fX6_mostAlike_L18 p1 st k4 n y2 y3 y4 y5 = some res → ∀ ls : Array Slot, lv_has ls 6 [(0, .ref (eq E 80)), (1, .int p1), (2, .int y2), (3, .int y3), (4, .int y4), (5, .int y5)] → W p l e (rmk 1) s m args below meth c s.heap [] 0 0 (MQ below (QRi res) args s 0 0 (NoF)) (F0 m 18 ls []) := by
  have hx := X.1.1
  have hb := X.1.2.1
  intro n
  induction n with
  | zero =>
    intro y2 y3 y4 y5 hf ls hl
    cases (show (none : Option Int32) = some res from hf)
  | succ n ih =>
    intro y2 y3 y4 y5 hf ls hl
    rw [fX6_mostAlike_L18] at hf
    refine lv_iload hx hb dX6_mostAlike_18 (lv_at hl 5 rfl) ?_
    refine lv_aload_n hx hb dX6_mostAlike_20 rfl (lv_at hl 0 rfl) ?_
    refine gf6 X G (hL 80 rfl) rfl 4 (by decide) rfl kf_X6_18 iwX6 dX6_mostAlike_21 ?_
    refine lv_icmp_ge (tgt := 62) hx hb dX6_mostAlike_24 (by decide) (fun c1 => ?_) (fun c1 => ?_)
    · have hf := it_t hf c1
      refine lv_iload_n hx hb dX6_mostAlike_62 rfl (lv_at hl 2 rfl) ?_
      refine lv_iload hx hb dX6_mostAlike_63 (lv_at hl 4 rfl) ?_
      refine va_mmax hx hb (X.1.2.2.1.trans hl.1.symm) X.1.2.2.2.1 (X.1.2.2.2.2 _ km_X6_73) (X.1.2.2.2.2 _ ks_Math_max) (X.1.2.2.2.2 _ ki_Math) (X.1.2.2.2.2 _ kd_Math_max) (rmk_1 (by omega)) (rmk_l (by omega) (Nat.le_of_ble_eq_true rfl)) (Nat.zero_le _) (Nat.zero_le _) dX6_mostAlike_65 ?_
      refine lv_topi (fun x2 ex2 => ?_)
      have hf := nm_s hf x2 ex2
      refine lv_istore_n (lv' := [(2, .int x2), (0, .ref (eq E 80)), (1, .int p1), (3, .int y3), (4, .int y4), (5, .int y5)]) hx hb dX6_mostAlike_68 rfl hl (by decide) rfl (fun ls hl => ?_)
      obtain ⟨x3, ex3⟩ : ∃ y : Int32, y = (y3 + (1 : Int32)) := ⟨_, rfl⟩
      have hf := nm_s hf x3 ex3
      refine lv_iinc (k := 3) (v := x3) (lv' := [(3, .int x3), (2, .int x2), (0, .ref (eq E 80)), (1, .int p1), (4, .int y4), (5, .int y5)]) hx hb dX6_mostAlike_69 hl rfl (by rw [ex3]; rfl) (by decide) rfl (fun ls hl => ?_)
      refine lv_goto (tgt := 4) hx hb dX6_mostAlike_72 (by decide) ?_
      exact hk4 x2 x3 hf _ (lv_sub hl [2, 3, 1, 0] rfl)
    · have hf := it_f hf c1
      refine lv_aload_n hx hb dX6_mostAlike_27 rfl (lv_at hl 0 rfl) ?_
      refine gf6 X G (hL 80 rfl) rfl 3 (by decide) rfl kf_X6_15 iwX6 dX6_mostAlike_28 ?_
      refine lv_iload_n hx hb dX6_mostAlike_31 rfl (lv_at hl 3 rfl) ?_
      refine lv_bipush (v := (8 : Int32)) hx hb dX6_mostAlike_32 (by decide) ?_
      refine lv_imul hx hb dX6_mostAlike_34 ?_
      refine lv_iload_n hx hb dX6_mostAlike_35 rfl (lv_at hl 1 rfl) ?_
      refine lv_iadd hx hb dX6_mostAlike_36 ?_
      obtain ⟨h2, hf⟩ := gd_s hf
      refine ia_ld (k := 84) (n := 56) X G (hL 84 rfl) rfl (by decide) (ix_in h2) dX6_mostAlike_37 ?_
      refine lv_aload_n hx hb dX6_mostAlike_38 rfl (lv_at hl 0 rfl) ?_
      refine gf6 X G (hL 80 rfl) rfl 3 (by decide) rfl kf_X6_15 iwX6 dX6_mostAlike_39 ?_
      refine lv_iload hx hb dX6_mostAlike_42 (lv_at hl 5 rfl) ?_
      refine lv_bipush (v := (8 : Int32)) hx hb dX6_mostAlike_44 (by decide) ?_
      refine lv_imul hx hb dX6_mostAlike_46 ?_
      refine lv_iload_n hx hb dX6_mostAlike_47 rfl (lv_at hl 1 rfl) ?_
      refine lv_iadd hx hb dX6_mostAlike_48 ?_
      obtain ⟨h3, hf⟩ := gd_s hf
      refine ia_ld (k := 84) (n := 56) X G (hL 84 rfl) rfl (by decide) (ix_in h3) dX6_mostAlike_49 ?_
      refine lv_icmp_ne (tgt := 56) hx hb dX6_mostAlike_50 (by decide) (fun c4 => ?_) (fun c4 => ?_)
      · have hf := it_f hf c4
        obtain ⟨x5, ex5⟩ : ∃ y : Int32, y = (y5 + (1 : Int32)) := ⟨_, rfl⟩
        have hf := nm_s hf x5 ex5
        refine lv_iinc (k := 5) (v := x5) (lv' := [(5, .int x5), (0, .ref (eq E 80)), (1, .int p1), (2, .int y2), (3, .int y3), (4, .int y4)]) hx hb dX6_mostAlike_56 hl rfl (by rw [ex5]; rfl) (by decide) rfl (fun ls hl => ?_)
        refine lv_goto (tgt := 18) hx hb dX6_mostAlike_59 (by decide) ?_
        exact ih y2 y3 y4 x5 hf _ (lv_sub hl [1, 2, 3, 4, 5, 0] rfl)
      · have hf := it_t hf c4
        obtain ⟨x5, ex5⟩ : ∃ y : Int32, y = (y4 + (1 : Int32)) := ⟨_, rfl⟩
        have hf := nm_s hf x5 ex5
        refine lv_iinc (k := 4) (v := x5) (lv' := [(4, .int x5), (0, .ref (eq E 80)), (1, .int p1), (2, .int y2), (3, .int y3), (5, .int y5)]) hx hb dX6_mostAlike_53 hl rfl (by rw [ex5]; rfl) (by decide) rfl (fun ls hl => ?_)
        obtain ⟨x6, ex6⟩ : ∃ y : Int32, y = (y5 + (1 : Int32)) := ⟨_, rfl⟩
        have hf := nm_s hf x6 ex6
        refine lv_iinc (k := 5) (v := x6) (lv' := [(5, .int x6), (4, .int x5), (0, .ref (eq E 80)), (1, .int p1), (2, .int y2), (3, .int y3)]) hx hb dX6_mostAlike_56 hl rfl (by rw [ex6]; rfl) (by decide) rfl (fun ls hl => ?_)
        refine lv_goto (tgt := 18) hx hb dX6_mostAlike_59 (by decide) ?_
        exact ih y2 y3 x5 x6 hf _ (lv_sub hl [2, 3, 4, 5, 1, 0] rfl)
def fX6_mostAlike_L4 (p1 : Int32) (st : St) : Nat → Int32 → Int32 → Option Int32
  | 0, _, _ => none
  | n + 1, y2, y3 => if (st.1 80 4) ≤ y3 then (some y2) else (fX6_mostAlike_L18 p1 st (fX6_mostAlike_L4 p1 st n) 10000 y2 y3 (0 : Int32) (0 : Int32))
set_option maxRecDepth 100000 in
theorem wX6_mostAlike_L4 {p : Program} {l : Launch} {e : Env} {s : State} {m : MethodId} {args : Array Value} {below : List Frame} {meth : Method} {c : Code} {E : Ev} (hL : ∀ k, fxC k = true → k ∈ eL E) {p1 : Int32} {st : St} {sz : Nat} {res : Int32} (X : CX p s m args c E RX6 cX6_mostAlike 6 (Af E sz)) (hr : meth.sig.returnType = (some .int)) (hlk : meth.locks = false) (G : Gd E st (Af E sz) s s.heap []) : ∀ (n : Nat) (y2 : Int32) (y3 : Int32), fX6_mostAlike_L4 p1 st  n y2 y3 = some res → ∀ ls : Array Slot, lv_has ls 6 [(0, .ref (eq E 80)), (1, .int p1), (2, .int y2), (3, .int y3)] → W p l e (rmk 1) s m args below meth c s.heap [] 0 0 (MQ below (QRi res) args s 0 0 (NoF)) (F0 m 4 ls []) := by
  have hx := X.1.1
  have hb := X.1.2.1
  intro n
  induction n with
  | zero =>
    intro y2 y3 hf ls hl
    cases (show (none : Option Int32) = some res from hf)
  | succ n ih =>
    intro y2 y3 hf ls hl
    rw [fX6_mostAlike_L4] at hf
    refine lv_iload_n hx hb dX6_mostAlike_4 rfl (lv_at hl 3 rfl) ?_
    refine lv_aload_n hx hb dX6_mostAlike_5 rfl (lv_at hl 0 rfl) ?_
    refine gf6 X G (hL 80 rfl) rfl 4 (by decide) rfl kf_X6_18 iwX6 dX6_mostAlike_6 ?_
    refine lv_icmp_ge (tgt := 75) hx hb dX6_mostAlike_9 (by decide) (fun c1 => ?_) (fun c1 => ?_)
    · have hf := it_t hf c1
      refine lv_iload_n hx hb dX6_mostAlike_75 rfl (lv_at hl 2 rfl) ?_
      exact rtRi X hlk hr (so_i hf) dX6_mostAlike_76
    · have hf := it_f hf c1
      refine lv_iconst (v := (0 : Int32)) hx hb dX6_mostAlike_12 (by decide) ?_
      refine lv_istore (lv' := [(4, .int (0 : Int32)), (0, .ref (eq E 80)), (1, .int p1), (2, .int y2), (3, .int y3)]) hx hb dX6_mostAlike_13 hl (by decide) rfl (fun ls hl => ?_)
      refine lv_iconst (v := (0 : Int32)) hx hb dX6_mostAlike_15 (by decide) ?_
      refine lv_istore (lv' := [(5, .int (0 : Int32)), (4, .int (0 : Int32)), (0, .ref (eq E 80)), (1, .int p1), (2, .int y2), (3, .int y3)]) hx hb dX6_mostAlike_16 hl (by decide) rfl (fun ls hl => ?_)
      exact wX6_mostAlike_L18 hL X hr hlk G ih 10000 y2 y3 (0 : Int32) (0 : Int32) hf _ (lv_sub hl [2, 3, 4, 5, 1, 0] rfl)
def fX6_mostAlike (st : St) (p1 : Int32) : Option Int32 := fX6_mostAlike_L4 p1 st 10000 (0 : Int32) (0 : Int32)
set_option maxRecDepth 100000 in
theorem tX6_mostAlike (l : Launch) (E : Ev) (st : St) (sz : Nat) (hL : ∀ k, fxC k = true → k ∈ eL E) (p1 : Int32) {res : Int32} (hf : fX6_mostAlike st p1 = some res) : Met l yX6_mostAlike (.code yX6_mostAlike cX6_mostAlike 6 (some .int) :: uW) (rmk 1) (va_Pc [.ref (eq E 80), .int p1] (Pre E st sz)) (QRi res) 0 0 (NoF) := by
  refine Met_in (by decide) (Nat.le_of_ble_eq_true rfl) ?_
  intro p e s m below meth c X hr hlk hz G ls hl
  have hx := X.1.1
  have hb := X.1.2.1
  have hl : lv_has ls 6 [(0, .ref (eq E 80)), (1, .int p1)] := hl
  unfold fX6_mostAlike at hf
  refine lv_iconst (v := (0 : Int32)) hx hb dX6_mostAlike_0 (by decide) ?_
  refine lv_istore_n (lv' := [(2, .int (0 : Int32)), (0, .ref (eq E 80)), (1, .int p1)]) hx hb dX6_mostAlike_1 rfl hl (by decide) rfl (fun ls hl => ?_)
  refine lv_iconst (v := (0 : Int32)) hx hb dX6_mostAlike_2 (by decide) ?_
  refine lv_istore_n (lv' := [(3, .int (0 : Int32)), (2, .int (0 : Int32)), (0, .ref (eq E 80)), (1, .int p1)]) hx hb dX6_mostAlike_3 rfl hl (by decide) rfl (fun ls hl => ?_)
  exact wX6_mostAlike_L4 hL X hr hlk G 10000 (0 : Int32) (0 : Int32) hf _ (lv_sub hl [2, 3, 1, 0] rfl)
def fX7_isLetter (p1 : Int32) : Option Int32 := if p1 < (97 : Int32) then (some (0 : Int32)) else (if (122 : Int32) < p1 then (some (0 : Int32)) else (some (1 : Int32)))
set_option maxRecDepth 100000 in
theorem tX7_isLetter (l : Launch) (E : Ev) (st : St) (sz : Nat) (p1 : Int32) {res : Int32} (hf : fX7_isLetter  p1 = some res) : Met l yX7_isLetter (.code yX7_isLetter cX7_isLetter 1 (some .boolean) :: uW) (rmk 0) (va_Pc [.int p1] (Pre E st sz)) (QRi res) 0 0 (NoF) := by
  refine Met_in (by decide) (Nat.le_of_ble_eq_true rfl) ?_
  intro p e s m below meth c X hr hlk hz G ls hl
  have hx := X.1.1
  have hb := X.1.2.1
  have hl : lv_has ls 1 [(0, .int p1)] := hl
  unfold fX7_isLetter at hf
  refine lv_iload_n hx hb dX7_isLetter_0 rfl (lv_at hl 0 rfl) ?_
  refine lv_bipush (v := (97 : Int32)) hx hb dX7_isLetter_1 (by decide) ?_
  refine lv_icmp_lt (tgt := 16) hx hb dX7_isLetter_3 (by decide) (fun c1 => ?_) (fun c1 => ?_)
  · have hf := it_t hf c1
    refine lv_iconst (v := (0 : Int32)) hx hb dX7_isLetter_16 (by decide) ?_
    exact rtRz X hlk hr rfl (so_i hf) dX7_isLetter_17
  · have hf := it_f hf c1
    refine lv_iload_n hx hb dX7_isLetter_6 rfl (lv_at hl 0 rfl) ?_
    refine lv_bipush (v := (122 : Int32)) hx hb dX7_isLetter_7 (by decide) ?_
    refine lv_icmp_gt (tgt := 16) hx hb dX7_isLetter_9 (by decide) (fun c2 => ?_) (fun c2 => ?_)
    · have hf := it_t hf c2
      refine lv_iconst (v := (0 : Int32)) hx hb dX7_isLetter_16 (by decide) ?_
      exact rtRz X hlk hr rfl (so_i hf) dX7_isLetter_17
    · have hf := it_f hf c2
      refine lv_iconst (v := (1 : Int32)) hx hb dX7_isLetter_12 (by decide) ?_
      refine lv_goto (tgt := 17) hx hb dX7_isLetter_13 (by decide) ?_
      exact rtRz X hlk hr rfl (so_i hf) dX7_isLetter_17
def fX7_isWord_L3 (a1 : Nat) (n1 : Nat) (p2 : Int32) (p3 : Int32) (p4 : Int32) (st : St) : Nat → Int32 → Option Int32
  | 0, _ => none
  | n + 1, y4 => if p4 ≤ y4 then (some (1 : Int32)) else (gd (ix ((p2 + y4) - p3) n1) (br (fJ0_charAt_5068e 1 y4) (fun x4 => if (st.1 a1 ((p2 + y4) - p3).toNatClampNeg) = x4 then (nm (y4 + (1 : Int32)) (fun x6 => (fX7_isWord_L3 a1 n1 p2 p3 p4 st n) x6)) else (some (0 : Int32)))))
set_option maxRecDepth 100000 in
theorem wX7_isWord_L3 {p : Program} {l : Launch} {e : Env} {s : State} {m : MethodId} {args : Array Value} {below : List Frame} {meth : Method} {c : Code} {E : Ev} (hL : ∀ k, fxC k = true → k ∈ eL E) {a1 : Nat} {n1 : Nat} {p2 : Int32} {p3 : Int32} {p4 : Int32} (hm1 : a1 ∈ eL E) (ht1 : ty a1 = 10000 + n1) (hn1 : n1 < 10000) {st : St} {sz : Nat} {res : Int32} (X : CX p s m args c E RX7 cX7_isWord 5 (Af E sz)) (hr : meth.sig.returnType = (some .boolean)) (hlk : meth.locks = false) (G : Gd E st (Af E sz) s s.heap []) : ∀ (n : Nat) (y4 : Int32), fX7_isWord_L3 a1 n1 p2 p3 p4 st  n y4 = some res → ∀ ls : Array Slot, lv_has ls 5 [(0, .ref (eq E a1)), (1, .int p2), (2, .int p3), (3, .int p4), (4, .int y4)] → W p l e (rmk 4) s m args below meth c s.heap [] 0 0 (MQ below (QRi res) args s 0 0 (NoF)) (F0 m 3 ls []) := by
  have hx := X.1.1
  have hb := X.1.2.1
  intro n
  induction n with
  | zero =>
    intro y4 hf ls hl
    cases (show (none : Option Int32) = some res from hf)
  | succ n ih =>
    intro y4 hf ls hl
    rw [fX7_isWord_L3] at hf
    refine lv_iload hx hb dX7_isWord_3 (lv_at hl 4 rfl) ?_
    refine lv_iload_n hx hb dX7_isWord_5 rfl (lv_at hl 3 rfl) ?_
    refine lv_icmp_ge (tgt := 35) hx hb dX7_isWord_6 (by decide) (fun c1 => ?_) (fun c1 => ?_)
    · have hf := it_t hf c1
      refine lv_iconst (v := (1 : Int32)) hx hb dX7_isWord_35 (by decide) ?_
      exact rtRz X hlk hr rfl (so_i hf) dX7_isWord_36
    · have hf := it_f hf c1
      refine lv_aload_n hx hb dX7_isWord_9 rfl (lv_at hl 0 rfl) ?_
      refine lv_iload_n hx hb dX7_isWord_10 rfl (lv_at hl 1 rfl) ?_
      refine lv_iload hx hb dX7_isWord_11 (lv_at hl 4 rfl) ?_
      refine lv_iadd hx hb dX7_isWord_13 ?_
      refine lv_iload_n hx hb dX7_isWord_14 rfl (lv_at hl 2 rfl) ?_
      refine lv_isub hx hb dX7_isWord_15 ?_
      obtain ⟨h2, hf⟩ := gd_s hf
      refine ia_ld (k := a1) (n := n1) X G hm1 ht1 hn1 (ix_in h2) dX7_isWord_16 ?_
      refine va_ldcS hx hb X.1.2.2.2.1 (X.2.2.2.2 1 (by decide)) dX7_isWord_17 ?_
      refine lv_iload hx hb dX7_isWord_19 (lv_at hl 4 rfl) ?_
      obtain ⟨x4, h3, hf⟩ := br_s hf
      refine cVRi (As := [.int y4]) (rest := [.int (st.1 a1 ((p2 + y4) - p3).toNatClampNeg)]) X G kc_X7_78 (tJ0_charAt_5068e l E st _ (by decide) y4 h3) (vk_recv X.2.2.2.1.1 (by decide) G.2.2) rfl rfl (rmk_le (by omega) (by decide)) rfl hl.1 rfl (Nat.le_of_ble_eq_true rfl) dX7_isWord_21 ⟨Nat.zero_le _, Nat.zero_le _⟩ ?_
      refine lv_icmp_eq (tgt := 29) hx hb dX7_isWord_24 (by decide) (fun c5 => ?_) (fun c5 => ?_)
      · have hf := it_t hf c5
        obtain ⟨x6, ex6⟩ : ∃ y : Int32, y = (y4 + (1 : Int32)) := ⟨_, rfl⟩
        have hf := nm_s hf x6 ex6
        refine lv_iinc (k := 4) (v := x6) (lv' := [(4, .int x6), (0, .ref (eq E a1)), (1, .int p2), (2, .int p3), (3, .int p4)]) hx hb dX7_isWord_29 hl rfl (by rw [ex6]; rfl) (by decide) rfl (fun ls hl => ?_)
        refine lv_goto (tgt := 3) hx hb dX7_isWord_32 (by decide) ?_
        exact ih x6 hf _ (lv_sub hl [1, 2, 3, 4, 0] rfl)
      · have hf := it_f hf c5
        refine lv_iconst (v := (0 : Int32)) hx hb dX7_isWord_27 (by decide) ?_
        exact rtRz X hlk hr rfl (so_i hf) dX7_isWord_28
def fX7_isWord (a1 : Nat) (n1 : Nat) (st : St) (p2 : Int32) (p3 : Int32) (p4 : Int32) : Option Int32 := fX7_isWord_L3 a1 n1 p2 p3 p4 st 10000 p3
set_option maxRecDepth 100000 in
theorem tX7_isWord (l : Launch) (E : Ev) (st : St) (sz : Nat) (hL : ∀ k, fxC k = true → k ∈ eL E) {a1 : Nat} {n1 : Nat} (hm1 : a1 ∈ eL E) (ht1 : ty a1 = 10000 + n1) (hn1 : n1 < 10000) (p2 : Int32) (p3 : Int32) (p4 : Int32) {res : Int32} (hf : fX7_isWord a1 n1 st p2 p3 p4 = some res) : Met l yX7_isWord (.code yX7_isWord cX7_isWord 5 (some .boolean) :: uW) (rmk 4) (va_Pc [.ref (eq E a1), .int p2, .int p3, .int p4] (Pre E st sz)) (QRi res) 0 0 (NoF) := by
  refine Met_in (by decide) (Nat.le_of_ble_eq_true rfl) ?_
  intro p e s m below meth c X hr hlk hz G ls hl
  have hx := X.1.1
  have hb := X.1.2.1
  have hl : lv_has ls 5 [(0, .ref (eq E a1)), (1, .int p2), (2, .int p3), (3, .int p4)] := hl
  unfold fX7_isWord at hf
  refine lv_iload_n hx hb dX7_isWord_0 rfl (lv_at hl 2 rfl) ?_
  refine lv_istore (lv' := [(4, .int p3), (0, .ref (eq E a1)), (1, .int p2), (2, .int p3), (3, .int p4)]) hx hb dX7_isWord_1 hl (by decide) rfl (fun ls hl => ?_)
  exact wX7_isWord_L3 hL hm1 ht1 hn1 X hr hlk G 10000 p3 hf _ (lv_sub hl [1, 2, 3, 4, 0] rfl)
def fX7_wordOf_B58 (a1 : Nat) (n1 : Nat) (p2 : Int32) (p3 : Int32) (st : St) (k8 : Int32 → Int32 → Int32 → Option Int32) (y3 : Int32) (y5 : Int32) : Option Int32 := nm (y3 + (1 : Int32)) (fun x1 => nm (y5 + (1 : Int32)) (fun x2 => nm (y5 + (1 : Int32)) (fun x3 => k8 x1 x2 x3)))
set_option maxRecDepth 100000 in
theorem wX7_wordOf_B58 {p : Program} {l : Launch} {e : Env} {s : State} {m : MethodId} {args : Array Value} {below : List Frame} {meth : Method} {c : Code} {E : Ev} (hL : ∀ k, fxC k = true → k ∈ eL E) {a1 : Nat} {n1 : Nat} {p2 : Int32} {p3 : Int32} (hm1 : a1 ∈ eL E) (ht1 : ty a1 = 10000 + n1) (hn1 : n1 < 10000) {st : St} {sz : Nat} {res : Int32} (X : CX p s m args c E RX7 cX7_wordOf 6 (Af E sz)) (hr : meth.sig.returnType = (some .int)) (hlk : meth.locks = false) (G : Gd E st (Af E sz) s s.heap []) {k8 : Int32 → Int32 → Int32 → Option Int32} (hk8 : ∀ (y3 : Int32) (y4 : Int32) (y5 : Int32), k8 y3 y4 y5 = some res → ∀ ls : Array Slot, lv_has ls 6 [(0, .ref (eq E a1)), (1, .int p2), (2, .int p3), (3, .int y3), (4, .int y4), (5, .int y5)] → W p l e (rmk 5) s m args below meth c s.heap [] 0 0 (MQ below (QRi res) args s 0 0 (NoF)) (F0 m 8 ls [])) : ∀ (y3 : Int32) (y5 : Int32), fX7_wordOf_B58 a1 n1 p2 p3 st k8 y3 y5 = some res → ∀ ls : Array Slot, lv_has ls 6 [(0, .ref (eq E a1)), (1, .int p2), (2, .int p3), (3, .int y3), (5, .int y5)] → W p l e (rmk 5) s m args below meth c s.heap [] 0 0 (MQ below (QRi res) args s 0 0 (NoF)) (F0 m 58 ls []) := by
  have hx := X.1.1
  have hb := X.1.2.1
  intro y3 y5 hf ls hl
  unfold fX7_wordOf_B58 at hf
  obtain ⟨x1, ex1⟩ : ∃ y : Int32, y = (y3 + (1 : Int32)) := ⟨_, rfl⟩
  have hf := nm_s hf x1 ex1
  refine lv_iinc (k := 3) (v := x1) (lv' := [(3, .int x1), (0, .ref (eq E a1)), (1, .int p2), (2, .int p3), (5, .int y5)]) hx hb dX7_wordOf_58 hl rfl (by rw [ex1]; rfl) (by decide) rfl (fun ls hl => ?_)
  refine lv_iload hx hb dX7_wordOf_61 (lv_at hl 4 rfl) ?_
  refine lv_iconst (v := (1 : Int32)) hx hb dX7_wordOf_63 (by decide) ?_
  refine lv_iadd hx hb dX7_wordOf_64 ?_
  refine lv_topi (fun x2 ex2 => ?_)
  have hf := nm_s hf x2 ex2
  refine lv_istore (lv' := [(4, .int x2), (3, .int x1), (0, .ref (eq E a1)), (1, .int p2), (2, .int p3), (5, .int y5)]) hx hb dX7_wordOf_65 hl (by decide) rfl (fun ls hl => ?_)
  obtain ⟨x3, ex3⟩ : ∃ y : Int32, y = (y5 + (1 : Int32)) := ⟨_, rfl⟩
  have hf := nm_s hf x3 ex3
  refine lv_iinc (k := 5) (v := x3) (lv' := [(5, .int x3), (4, .int x2), (3, .int x1), (0, .ref (eq E a1)), (1, .int p2), (2, .int p3)]) hx hb dX7_wordOf_67 hl rfl (by rw [ex3]; rfl) (by decide) rfl (fun ls hl => ?_)
  refine lv_goto (tgt := 8) hx hb dX7_wordOf_70 (by decide) ?_
  exact hk8 x1 x2 x3 hf _ (lv_sub hl [3, 4, 5, 2, 1, 0] rfl)
def fX7_wordOf_L8 (a1 : Nat) (n1 : Nat) (p2 : Int32) (p3 : Int32) (st : St) : Nat → Int32 → Int32 → Int32 → Option Int32
  | 0, _, _, _ => none
  | n + 1, y3, y4, y5 => br (fJ0_length_8abf5 1) (fun x2 => if x2 ≤ y5 then (some (24 : Int32)) else (br (fJ0_charAt_5068e 1 y5) (fun x5 => if x5 = (32 : Int32) then (if (y5 - y4) = (p3 - p2) then (br (fX7_isWord a1 n1 st p2 y4 y5) (fun x9 => if x9 = 0 then (fX7_wordOf_B58 a1 n1 p2 p3 st (fX7_wordOf_L8 a1 n1 p2 p3 st n) y3 y5) else (some y3))) else (fX7_wordOf_B58 a1 n1 p2 p3 st (fX7_wordOf_L8 a1 n1 p2 p3 st n) y3 y5)) else (nm (y5 + (1 : Int32)) (fun x7 => (fX7_wordOf_L8 a1 n1 p2 p3 st n) y3 y4 x7)))))
set_option maxRecDepth 100000 in
theorem wX7_wordOf_L8 {p : Program} {l : Launch} {e : Env} {s : State} {m : MethodId} {args : Array Value} {below : List Frame} {meth : Method} {c : Code} {E : Ev} (hL : ∀ k, fxC k = true → k ∈ eL E) {a1 : Nat} {n1 : Nat} {p2 : Int32} {p3 : Int32} (hm1 : a1 ∈ eL E) (ht1 : ty a1 = 10000 + n1) (hn1 : n1 < 10000) {st : St} {sz : Nat} {res : Int32} (X : CX p s m args c E RX7 cX7_wordOf 6 (Af E sz)) (hr : meth.sig.returnType = (some .int)) (hlk : meth.locks = false) (G : Gd E st (Af E sz) s s.heap []) : ∀ (n : Nat) (y3 : Int32) (y4 : Int32) (y5 : Int32), fX7_wordOf_L8 a1 n1 p2 p3 st  n y3 y4 y5 = some res → ∀ ls : Array Slot, lv_has ls 6 [(0, .ref (eq E a1)), (1, .int p2), (2, .int p3), (3, .int y3), (4, .int y4), (5, .int y5)] → W p l e (rmk 5) s m args below meth c s.heap [] 0 0 (MQ below (QRi res) args s 0 0 (NoF)) (F0 m 8 ls []) := by
  have hx := X.1.1
  have hb := X.1.2.1
  intro n
  induction n with
  | zero =>
    intro y3 y4 y5 hf ls hl
    cases (show (none : Option Int32) = some res from hf)
  | succ n ih =>
    intro y3 y4 y5 hf ls hl
    rw [fX7_wordOf_L8] at hf
    refine lv_iload hx hb dX7_wordOf_8 (lv_at hl 5 rfl) ?_
    refine va_ldcS hx hb X.1.2.2.2.1 (X.2.2.2.2 1 (by decide)) dX7_wordOf_10 ?_
    obtain ⟨x2, h1, hf⟩ := br_s hf
    refine cVRi (As := []) (rest := [.int y5]) X G kc_X7_74 (tJ0_length_8abf5 l E st _ (by decide)  h1) (vk_recv X.2.2.2.1.1 (by decide) G.2.2) rfl rfl (rmk_le (by omega) (by decide)) rfl hl.1 rfl (Nat.le_of_ble_eq_true rfl) dX7_wordOf_12 ⟨Nat.zero_le _, Nat.zero_le _⟩ ?_
    refine lv_icmp_ge (tgt := 73) hx hb dX7_wordOf_15 (by decide) (fun c3 => ?_) (fun c3 => ?_)
    · have hf := it_t hf c3
      refine lv_bipush (v := (24 : Int32)) hx hb dX7_wordOf_73 (by decide) ?_
      exact rtRi X hlk hr (so_i hf) dX7_wordOf_75
    · have hf := it_f hf c3
      refine va_ldcS hx hb X.1.2.2.2.1 (X.2.2.2.2 1 (by decide)) dX7_wordOf_18 ?_
      refine lv_iload hx hb dX7_wordOf_20 (lv_at hl 5 rfl) ?_
      obtain ⟨x5, h4, hf⟩ := br_s hf
      refine cVRi (As := [.int y5]) (rest := []) X G kc_X7_78 (tJ0_charAt_5068e l E st _ (by decide) y5 h4) (vk_recv X.2.2.2.1.1 (by decide) G.2.2) rfl rfl (rmk_le (by omega) (by decide)) rfl hl.1 rfl (Nat.le_of_ble_eq_true rfl) dX7_wordOf_22 ⟨Nat.zero_le _, Nat.zero_le _⟩ ?_
      refine lv_bipush (v := (32 : Int32)) hx hb dX7_wordOf_25 (by decide) ?_
      refine lv_icmp_eq (tgt := 33) hx hb dX7_wordOf_27 (by decide) (fun c6 => ?_) (fun c6 => ?_)
      · have hf := it_t hf c6
        refine lv_iload hx hb dX7_wordOf_33 (lv_at hl 5 rfl) ?_
        refine lv_iload hx hb dX7_wordOf_35 (lv_at hl 4 rfl) ?_
        refine lv_isub hx hb dX7_wordOf_37 ?_
        refine lv_iload_n hx hb dX7_wordOf_38 rfl (lv_at hl 2 rfl) ?_
        refine lv_iload_n hx hb dX7_wordOf_39 rfl (lv_at hl 1 rfl) ?_
        refine lv_isub hx hb dX7_wordOf_40 ?_
        refine lv_icmp_ne (tgt := 58) hx hb dX7_wordOf_41 (by decide) (fun c7 => ?_) (fun c7 => ?_)
        · have hf := it_f hf c7
          exact wX7_wordOf_B58 hL hm1 ht1 hn1 X hr hlk G ih y3 y5 hf _ (lv_sub hl [0, 1, 2, 3, 5] rfl)
        · have hf := it_t hf c7
          refine lv_aload_n hx hb dX7_wordOf_44 rfl (lv_at hl 0 rfl) ?_
          refine lv_iload_n hx hb dX7_wordOf_45 rfl (lv_at hl 1 rfl) ?_
          refine lv_iload hx hb dX7_wordOf_46 (lv_at hl 4 rfl) ?_
          refine lv_iload hx hb dX7_wordOf_48 (lv_at hl 5 rfl) ?_
          obtain ⟨x9, h8, hf⟩ := br_s hf
          refine cSRi (As := [.ref (eq E a1), .int p2, .int y4, .int y5]) (rest := []) X G kc_X7_82 (tX7_isWord l E st _ hL hm1 ht1 hn1 p2 y4 y5 h8) rfl rfl (rmk_le (by omega) (by decide)) rfl hl.1 rfl (Nat.le_of_ble_eq_true rfl) dX7_wordOf_50 ⟨Nat.zero_le _, Nat.zero_le _⟩ ?_
          refine lv_if_eq (tgt := 58) hx hb dX7_wordOf_53 (by decide) (fun c10 => ?_) (fun c10 => ?_)
          · have hf := it_t hf c10
            exact wX7_wordOf_B58 hL hm1 ht1 hn1 X hr hlk G ih y3 y5 hf _ (lv_sub hl [0, 1, 2, 3, 5] rfl)
          · have hf := it_f hf c10
            refine lv_iload_n hx hb dX7_wordOf_56 rfl (lv_at hl 3 rfl) ?_
            exact rtRi X hlk hr (so_i hf) dX7_wordOf_57
      · have hf := it_f hf c6
        refine lv_goto (tgt := 67) hx hb dX7_wordOf_30 (by decide) ?_
        obtain ⟨x7, ex7⟩ : ∃ y : Int32, y = (y5 + (1 : Int32)) := ⟨_, rfl⟩
        have hf := nm_s hf x7 ex7
        refine lv_iinc (k := 5) (v := x7) (lv' := [(5, .int x7), (0, .ref (eq E a1)), (1, .int p2), (2, .int p3), (3, .int y3), (4, .int y4)]) hx hb dX7_wordOf_67 hl rfl (by rw [ex7]; rfl) (by decide) rfl (fun ls hl => ?_)
        refine lv_goto (tgt := 8) hx hb dX7_wordOf_70 (by decide) ?_
        exact ih y3 y4 x7 hf _ (lv_sub hl [1, 2, 3, 4, 5, 0] rfl)
def fX7_wordOf (a1 : Nat) (n1 : Nat) (st : St) (p2 : Int32) (p3 : Int32) : Option Int32 := fX7_wordOf_L8 a1 n1 p2 p3 st 10000 (0 : Int32) (0 : Int32) (0 : Int32)
set_option maxRecDepth 100000 in
theorem tX7_wordOf (l : Launch) (E : Ev) (st : St) (sz : Nat) (hL : ∀ k, fxC k = true → k ∈ eL E) {a1 : Nat} {n1 : Nat} (hm1 : a1 ∈ eL E) (ht1 : ty a1 = 10000 + n1) (hn1 : n1 < 10000) (p2 : Int32) (p3 : Int32) {res : Int32} (hf : fX7_wordOf a1 n1 st p2 p3 = some res) : Met l yX7_wordOf (.code yX7_wordOf cX7_wordOf 6 (some .int) :: uW) (rmk 5) (va_Pc [.ref (eq E a1), .int p2, .int p3] (Pre E st sz)) (QRi res) 0 0 (NoF) := by
  refine Met_in (by decide) (Nat.le_of_ble_eq_true rfl) ?_
  intro p e s m below meth c X hr hlk hz G ls hl
  have hx := X.1.1
  have hb := X.1.2.1
  have hl : lv_has ls 6 [(0, .ref (eq E a1)), (1, .int p2), (2, .int p3)] := hl
  unfold fX7_wordOf at hf
  refine lv_iconst (v := (0 : Int32)) hx hb dX7_wordOf_0 (by decide) ?_
  refine lv_istore_n (lv' := [(3, .int (0 : Int32)), (0, .ref (eq E a1)), (1, .int p2), (2, .int p3)]) hx hb dX7_wordOf_1 rfl hl (by decide) rfl (fun ls hl => ?_)
  refine lv_iconst (v := (0 : Int32)) hx hb dX7_wordOf_2 (by decide) ?_
  refine lv_istore (lv' := [(4, .int (0 : Int32)), (3, .int (0 : Int32)), (0, .ref (eq E a1)), (1, .int p2), (2, .int p3)]) hx hb dX7_wordOf_3 hl (by decide) rfl (fun ls hl => ?_)
  refine lv_iconst (v := (0 : Int32)) hx hb dX7_wordOf_5 (by decide) ?_
  refine lv_istore (lv' := [(5, .int (0 : Int32)), (4, .int (0 : Int32)), (3, .int (0 : Int32)), (0, .ref (eq E a1)), (1, .int p2), (2, .int p3)]) hx hb dX7_wordOf_6 hl (by decide) rfl (fun ls hl => ?_)
  exact wX7_wordOf_L8 hL hm1 ht1 hn1 X hr hlk G 10000 (0 : Int32) (0 : Int32) (0 : Int32) hf _ (lv_sub hl [3, 4, 5, 2, 1, 0] rfl)
def fX7_add (p1 : Int32) (p2 : Int32) (p3 : Int32) (st : St) : Option St := if (400 : Int32) < (st.1 20 3) then (some st) else (gd (ix (st.1 20 3) 401) (nm (ui st 21 (st.1 20 3).toNatClampNeg p1) (fun s3 => gd (ix (s3.1 20 3) 401) (nm (ui s3 22 (s3.1 20 3).toNatClampNeg p2) (fun s5 => gd (ix (s5.1 20 3) 401) (nm (ui s5 23 (s5.1 20 3).toNatClampNeg p3) (fun s7 => nm (ui s7 20 3 ((s7.1 20 3) + (1 : Int32))) (fun s8 => some s8))))))))
set_option maxRecDepth 100000 in
theorem tX7_add (l : Launch) (E : Ev) (st : St) (sz : Nat) (hL : ∀ k, fxC k = true → k ∈ eL E) (p1 : Int32) (p2 : Int32) (p3 : Int32) {res : St} (hf : fX7_add  p1 p2 p3 st = some res) : Met l yX7_add (.code yX7_add cX7_add 4 none :: uW) (rmk 0) (va_Pc [.ref (eq E 20), .int p1, .int p2, .int p3] (Pre E st sz)) (QWv E res sz) 0 0 (Af E sz) := by
  refine Met_in (by decide) (Nat.le_of_ble_eq_true rfl) ?_
  intro p e s m below meth c X hr hlk hz G ls hl
  have hx := X.1.1
  have hb := X.1.2.1
  have hl : lv_has ls 4 [(0, .ref (eq E 20)), (1, .int p1), (2, .int p2), (3, .int p3)] := hl
  unfold fX7_add at hf
  refine lv_aload_n hx hb dX7_add_0 rfl (lv_at hl 0 rfl) ?_
  refine gf7 X G (hL 20 rfl) rfl 3 (by decide) rfl kf_X7_21 iwX7 dX7_add_1 ?_
  refine lv_sipush (v := (400 : Int32)) hx hb dX7_add_4 (by decide) ?_
  refine lv_icmp_gt (tgt := 50) hx hb dX7_add_7 (by decide) (fun c1 => ?_) (fun c1 => ?_)
  · have hf := it_t hf c1
    exact rtWv X hlk G hr (so_i hf) dX7_add_50
  · have hf := it_f hf c1
    refine lv_aload_n hx hb dX7_add_10 rfl (lv_at hl 0 rfl) ?_
    refine gf7 X G (hL 20 rfl) rfl 0 (by decide) rfl kf_X7_9 iwX7 dX7_add_11 ?_
    refine lv_aload_n hx hb dX7_add_14 rfl (lv_at hl 0 rfl) ?_
    refine gf7 X G (hL 20 rfl) rfl 3 (by decide) rfl kf_X7_21 iwX7 dX7_add_15 ?_
    refine lv_iload_n hx hb dX7_add_18 rfl (lv_at hl 1 rfl) ?_
    obtain ⟨h2, hf⟩ := gd_s hf
    refine ia_st (k := 21) (n := 401) X G (hL 21 rfl) rfl (by decide) (ix_in h2) dX7_add_19 (fun s3 es3 H locs G => ?_)
    have hf := nm_s hf s3 es3
    refine lv_aload_n hx hb dX7_add_20 rfl (lv_at hl 0 rfl) ?_
    refine gf7 X G (hL 20 rfl) rfl 1 (by decide) rfl kf_X7_15 iwX7 dX7_add_21 ?_
    refine lv_aload_n hx hb dX7_add_24 rfl (lv_at hl 0 rfl) ?_
    refine gf7 X G (hL 20 rfl) rfl 3 (by decide) rfl kf_X7_21 iwX7 dX7_add_25 ?_
    refine lv_iload_n hx hb dX7_add_28 rfl (lv_at hl 2 rfl) ?_
    obtain ⟨h4, hf⟩ := gd_s hf
    refine ia_st (k := 22) (n := 401) X G (hL 22 rfl) rfl (by decide) (ix_in h4) dX7_add_29 (fun s5 es5 H locs G => ?_)
    have hf := nm_s hf s5 es5
    refine lv_aload_n hx hb dX7_add_30 rfl (lv_at hl 0 rfl) ?_
    refine gf7 X G (hL 20 rfl) rfl 2 (by decide) rfl kf_X7_18 iwX7 dX7_add_31 ?_
    refine lv_aload_n hx hb dX7_add_34 rfl (lv_at hl 0 rfl) ?_
    refine gf7 X G (hL 20 rfl) rfl 3 (by decide) rfl kf_X7_21 iwX7 dX7_add_35 ?_
    refine lv_iload_n hx hb dX7_add_38 rfl (lv_at hl 3 rfl) ?_
    obtain ⟨h6, hf⟩ := gd_s hf
    refine ia_st (k := 23) (n := 401) X G (hL 23 rfl) rfl (by decide) (ix_in h6) dX7_add_39 (fun s7 es7 H locs G => ?_)
    have hf := nm_s hf s7 es7
    refine lv_aload_n hx hb dX7_add_40 rfl (lv_at hl 0 rfl) ?_
    refine lv_dup hx hb dX7_add_41 rfl ?_
    refine gf7 X G (hL 20 rfl) rfl 3 (by decide) rfl kf_X7_21 iwX7 dX7_add_42 ?_
    refine lv_iconst (v := (1 : Int32)) hx hb dX7_add_45 (by decide) ?_
    refine lv_iadd hx hb dX7_add_46 ?_
    refine pf7 X G (hL 20 rfl) rfl 3 (by decide) ps7_3 uio kf_X7_21 iwX7 rfl (ty := .int) (by decide +kernel) rfl rfl dX7_add_47 (fun s8 es8 H locs G => ?_)
    have hf := nm_s hf s8 es8
    exact rtWv X hlk G hr (so_i hf) dX7_add_50
def fX7_readWord_B27 (a1 : Nat) (n1 : Nat) (p2 : Int32) (p3 : Int32) (y4 : Int32) (st : St) : Option (Int32 × St) := br (fX7_wordOf a1 n1 st p3 y4) (fun x2 => br (fX7_add x2 p3 (0 : Int32) st) (fun s4 => some (y4, s4)))
set_option maxRecDepth 100000 in
theorem wX7_readWord_B27 {p : Program} {l : Launch} {e : Env} {s : State} {m : MethodId} {args : Array Value} {below : List Frame} {meth : Method} {c : Code} {E : Ev} (hL : ∀ k, fxC k = true → k ∈ eL E) {a1 : Nat} {n1 : Nat} {p2 : Int32} {p3 : Int32} (hm1 : a1 ∈ eL E) (ht1 : ty a1 = 10000 + n1) (hn1 : n1 < 10000) {sz : Nat} {res : (Int32 × St)} (X : CX p s m args c E RX7 cX7_readWord 5 (Af E sz)) (hr : meth.sig.returnType = (some .int)) (hlk : meth.locks = false) : ∀ (y4 : Int32) (st : St) (H : Heap) (locs : List Loc), fX7_readWord_B27 a1 n1 p2 p3  y4 st = some res → Gd E st (Af E sz) s H locs → ∀ ls : Array Slot, lv_has ls 5 [(0, .ref (eq E 20)), (1, .ref (eq E a1)), (3, .int p3), (4, .int y4)] → W p l e (rmk 6) s m args below meth c H locs 0 0 (MQ below (QWi E res.2 sz res.1) args s 0 0 (Af E sz)) (F0 m 27 ls []) := by
  have hx := X.1.1
  have hb := X.1.2.1
  intro y4 st H locs hf G ls hl
  unfold fX7_readWord_B27 at hf
  refine lv_aload_n hx hb dX7_readWord_27 rfl (lv_at hl 0 rfl) ?_
  refine lv_aload_n hx hb dX7_readWord_28 rfl (lv_at hl 1 rfl) ?_
  refine lv_iload_n hx hb dX7_readWord_29 rfl (lv_at hl 2 rfl) ?_
  refine lv_iload hx hb dX7_readWord_30 (lv_at hl 3 rfl) ?_
  obtain ⟨x2, h1, hf⟩ := br_s hf
  refine cSRi (As := [.ref (eq E a1), .int p3, .int y4]) (rest := [.ref (eq E 20)]) X G kc_X7_69 (tX7_wordOf l E st _ hL hm1 ht1 hn1 p3 y4 h1) rfl rfl (rmk_le (by omega) (by decide)) rfl hl.1 rfl (Nat.le_of_ble_eq_true rfl) dX7_readWord_32 ⟨Nat.zero_le _, Nat.zero_le _⟩ ?_
  refine lv_iload_n hx hb dX7_readWord_35 rfl (lv_at hl 2 rfl) ?_
  refine lv_iconst (v := (0 : Int32)) hx hb dX7_readWord_36 (by decide) ?_
  obtain ⟨s4, h3, hf⟩ := br_s hf
  refine cVWv (As := [.int x2, .int p3, .int (0 : Int32)]) (rest := []) X G kc_X7_41 (tX7_add l E st _ hL  x2 p3 (0 : Int32) h3) (rcv X G (hL 20 rfl) (cO7 rfl) rfl) rfl rfl (rmk_le (by omega) (by decide)) rfl hl.1 rfl (Nat.le_of_ble_eq_true rfl) dX7_readWord_37 ⟨Nat.zero_le _, Nat.zero_le _⟩ (fun H locs G => ?_)
  refine lv_iload hx hb dX7_readWord_40 (lv_at hl 3 rfl) ?_
  exact rtWi X hlk G hr (so_i hf) dX7_readWord_42
def fX7_readWord_L5 (a1 : Nat) (n1 : Nat) (p2 : Int32) (p3 : Int32) : Nat → Int32 → St → Option (Int32 × St)
  | 0, _, _ => none
  | n + 1, y4, st => if p2 ≤ y4 then (fX7_readWord_B27 a1 n1 p2 p3 y4 st) else (gd (ix y4 n1) (br (fX7_isLetter (st.1 a1 y4.toNatClampNeg)) (fun x4 => if x4 = 0 then (fX7_readWord_B27 a1 n1 p2 p3 y4 st) else (nm (y4 + (1 : Int32)) (fun x6 => (fX7_readWord_L5 a1 n1 p2 p3 n) x6 st)))))
set_option maxRecDepth 100000 in
theorem wX7_readWord_L5 {p : Program} {l : Launch} {e : Env} {s : State} {m : MethodId} {args : Array Value} {below : List Frame} {meth : Method} {c : Code} {E : Ev} (hL : ∀ k, fxC k = true → k ∈ eL E) {a1 : Nat} {n1 : Nat} {p2 : Int32} {p3 : Int32} (hm1 : a1 ∈ eL E) (ht1 : ty a1 = 10000 + n1) (hn1 : n1 < 10000) {sz : Nat} {res : (Int32 × St)} (X : CX p s m args c E RX7 cX7_readWord 5 (Af E sz)) (hr : meth.sig.returnType = (some .int)) (hlk : meth.locks = false) : ∀ (n : Nat) (y4 : Int32) (st : St) (H : Heap) (locs : List Loc), fX7_readWord_L5 a1 n1 p2 p3  n y4 st = some res → Gd E st (Af E sz) s H locs → ∀ ls : Array Slot, lv_has ls 5 [(0, .ref (eq E 20)), (1, .ref (eq E a1)), (2, .int p2), (3, .int p3), (4, .int y4)] → W p l e (rmk 6) s m args below meth c H locs 0 0 (MQ below (QWi E res.2 sz res.1) args s 0 0 (Af E sz)) (F0 m 5 ls []) := by
  have hx := X.1.1
  have hb := X.1.2.1
  intro n
  induction n with
  | zero =>
    intro y4 st H locs hf G ls hl
    cases (show (none : Option (Int32 × St)) = some res from hf)
  | succ n ih =>
    intro y4 st H locs hf G ls hl
    rw [fX7_readWord_L5] at hf
    refine lv_iload hx hb dX7_readWord_5 (lv_at hl 4 rfl) ?_
    refine lv_iload_n hx hb dX7_readWord_7 rfl (lv_at hl 2 rfl) ?_
    refine lv_icmp_ge (tgt := 27) hx hb dX7_readWord_8 (by decide) (fun c1 => ?_) (fun c1 => ?_)
    · have hf := it_t hf c1
      exact wX7_readWord_B27 hL hm1 ht1 hn1 X hr hlk y4 st _ _ hf G _ (lv_sub hl [0, 1, 3, 4] rfl)
    · have hf := it_f hf c1
      refine lv_aload_n hx hb dX7_readWord_11 rfl (lv_at hl 1 rfl) ?_
      refine lv_iload hx hb dX7_readWord_12 (lv_at hl 4 rfl) ?_
      obtain ⟨h2, hf⟩ := gd_s hf
      refine ia_ld (k := a1) (n := n1) X G hm1 ht1 hn1 (ix_in h2) dX7_readWord_14 ?_
      obtain ⟨x4, h3, hf⟩ := br_s hf
      refine cSRi (As := [.int (st.1 a1 y4.toNatClampNeg)]) (rest := []) X G kc_X7_48 (tX7_isLetter l E st _  (st.1 a1 y4.toNatClampNeg) h3) rfl rfl (rmk_le (by omega) (by decide)) rfl hl.1 rfl (Nat.le_of_ble_eq_true rfl) dX7_readWord_15 ⟨Nat.zero_le _, Nat.zero_le _⟩ ?_
      refine lv_if_eq (tgt := 27) hx hb dX7_readWord_18 (by decide) (fun c5 => ?_) (fun c5 => ?_)
      · have hf := it_t hf c5
        exact wX7_readWord_B27 hL hm1 ht1 hn1 X hr hlk y4 st _ _ hf G _ (lv_sub hl [0, 1, 3, 4] rfl)
      · have hf := it_f hf c5
        obtain ⟨x6, ex6⟩ : ∃ y : Int32, y = (y4 + (1 : Int32)) := ⟨_, rfl⟩
        have hf := nm_s hf x6 ex6
        refine lv_iinc (k := 4) (v := x6) (lv' := [(4, .int x6), (0, .ref (eq E 20)), (1, .ref (eq E a1)), (2, .int p2), (3, .int p3)]) hx hb dX7_readWord_21 hl rfl (by rw [ex6]; rfl) (by decide) rfl (fun ls hl => ?_)
        refine lv_goto (tgt := 5) hx hb dX7_readWord_24 (by decide) ?_
        exact ih x6 st _ _ hf G _ (lv_sub hl [1, 2, 3, 4, 0] rfl)
def fX7_readWord (a1 : Nat) (n1 : Nat) (p2 : Int32) (p3 : Int32) (st : St) : Option (Int32 × St) := nm (p3 + (1 : Int32)) (fun x1 => fX7_readWord_L5 a1 n1 p2 p3 10000 x1 st)
set_option maxRecDepth 100000 in
theorem tX7_readWord (l : Launch) (E : Ev) (st : St) (sz : Nat) (hL : ∀ k, fxC k = true → k ∈ eL E) {a1 : Nat} {n1 : Nat} (hm1 : a1 ∈ eL E) (ht1 : ty a1 = 10000 + n1) (hn1 : n1 < 10000) (p2 : Int32) (p3 : Int32) {res : (Int32 × St)} (hf : fX7_readWord a1 n1 p2 p3 st = some res) : Met l yX7_readWord (.code yX7_readWord cX7_readWord 5 (some .int) :: uW) (rmk 6) (va_Pc [.ref (eq E 20), .ref (eq E a1), .int p2, .int p3] (Pre E st sz)) (QWi E res.2 sz res.1) 0 0 (Af E sz) := by
  refine Met_in (by decide) (Nat.le_of_ble_eq_true rfl) ?_
  intro p e s m below meth c X hr hlk hz G ls hl
  have hx := X.1.1
  have hb := X.1.2.1
  have hl : lv_has ls 5 [(0, .ref (eq E 20)), (1, .ref (eq E a1)), (2, .int p2), (3, .int p3)] := hl
  unfold fX7_readWord at hf
  refine lv_iload_n hx hb dX7_readWord_0 rfl (lv_at hl 3 rfl) ?_
  refine lv_iconst (v := (1 : Int32)) hx hb dX7_readWord_1 (by decide) ?_
  refine lv_iadd hx hb dX7_readWord_2 ?_
  refine lv_topi (fun x1 ex1 => ?_)
  have hf := nm_s hf x1 ex1
  refine lv_istore (lv' := [(4, .int x1), (0, .ref (eq E 20)), (1, .ref (eq E a1)), (2, .int p2), (3, .int p3)]) hx hb dX7_readWord_3 hl (by decide) rfl (fun ls hl => ?_)
  exact wX7_readWord_L5 hL hm1 ht1 hn1 X hr hlk 10000 x1 st _ _ hf G _ (lv_sub hl [1, 2, 3, 4, 0] rfl)
def fX7_isDigit (p1 : Int32) : Option Int32 := if p1 < (48 : Int32) then (some (0 : Int32)) else (if (57 : Int32) < p1 then (some (0 : Int32)) else (some (1 : Int32)))
set_option maxRecDepth 100000 in
theorem tX7_isDigit (l : Launch) (E : Ev) (st : St) (sz : Nat) (p1 : Int32) {res : Int32} (hf : fX7_isDigit  p1 = some res) : Met l yX7_isDigit (.code yX7_isDigit cX7_isDigit 1 (some .boolean) :: uW) (rmk 0) (va_Pc [.int p1] (Pre E st sz)) (QRi res) 0 0 (NoF) := by
  refine Met_in (by decide) (Nat.le_of_ble_eq_true rfl) ?_
  intro p e s m below meth c X hr hlk hz G ls hl
  have hx := X.1.1
  have hb := X.1.2.1
  have hl : lv_has ls 1 [(0, .int p1)] := hl
  unfold fX7_isDigit at hf
  refine lv_iload_n hx hb dX7_isDigit_0 rfl (lv_at hl 0 rfl) ?_
  refine lv_bipush (v := (48 : Int32)) hx hb dX7_isDigit_1 (by decide) ?_
  refine lv_icmp_lt (tgt := 16) hx hb dX7_isDigit_3 (by decide) (fun c1 => ?_) (fun c1 => ?_)
  · have hf := it_t hf c1
    refine lv_iconst (v := (0 : Int32)) hx hb dX7_isDigit_16 (by decide) ?_
    exact rtRz X hlk hr rfl (so_i hf) dX7_isDigit_17
  · have hf := it_f hf c1
    refine lv_iload_n hx hb dX7_isDigit_6 rfl (lv_at hl 0 rfl) ?_
    refine lv_bipush (v := (57 : Int32)) hx hb dX7_isDigit_7 (by decide) ?_
    refine lv_icmp_gt (tgt := 16) hx hb dX7_isDigit_9 (by decide) (fun c2 => ?_) (fun c2 => ?_)
    · have hf := it_t hf c2
      refine lv_iconst (v := (0 : Int32)) hx hb dX7_isDigit_16 (by decide) ?_
      exact rtRz X hlk hr rfl (so_i hf) dX7_isDigit_17
    · have hf := it_f hf c2
      refine lv_iconst (v := (1 : Int32)) hx hb dX7_isDigit_12 (by decide) ?_
      refine lv_goto (tgt := 17) hx hb dX7_isDigit_13 (by decide) ?_
      exact rtRz X hlk hr rfl (so_i hf) dX7_isDigit_17
def fX7_readNumber_B51 (a1 : Nat) (n1 : Nat) (p2 : Int32) (p3 : Int32) (y4 : Int32) (y5 : Int32) (st : St) : Option (Int32 × St) := if (y4 - p3) ≤ (5 : Int32) then (br (fX7_add (21 : Int32) p3 y5 st) (fun s3 => some (y4, s3))) else (br (fX7_add (22 : Int32) p3 y5 st) (fun s3 => some (y4, s3)))
set_option maxRecDepth 100000 in
theorem wX7_readNumber_B51 {p : Program} {l : Launch} {e : Env} {s : State} {m : MethodId} {args : Array Value} {below : List Frame} {meth : Method} {c : Code} {E : Ev} (hL : ∀ k, fxC k = true → k ∈ eL E) {a1 : Nat} {n1 : Nat} {p2 : Int32} {p3 : Int32} (hm1 : a1 ∈ eL E) (ht1 : ty a1 = 10000 + n1) (hn1 : n1 < 10000) {sz : Nat} {res : (Int32 × St)} (X : CX p s m args c E RX7 cX7_readNumber 6 (Af E sz)) (hr : meth.sig.returnType = (some .int)) (hlk : meth.locks = false) : ∀ (y4 : Int32) (y5 : Int32) (st : St) (H : Heap) (locs : List Loc), fX7_readNumber_B51 a1 n1 p2 p3  y4 y5 st = some res → Gd E st (Af E sz) s H locs → ∀ ls : Array Slot, lv_has ls 6 [(0, .ref (eq E 20)), (3, .int p3), (4, .int y4), (5, .int y5)] → W p l e (rmk 1) s m args below meth c H locs 0 0 (MQ below (QWi E res.2 sz res.1) args s 0 0 (Af E sz)) (F0 m 51 ls []) := by
  have hx := X.1.1
  have hb := X.1.2.1
  intro y4 y5 st H locs hf G ls hl
  unfold fX7_readNumber_B51 at hf
  refine lv_aload_n hx hb dX7_readNumber_51 rfl (lv_at hl 0 rfl) ?_
  refine lv_iload hx hb dX7_readNumber_52 (lv_at hl 2 rfl) ?_
  refine lv_iload_n hx hb dX7_readNumber_54 rfl (lv_at hl 1 rfl) ?_
  refine lv_isub hx hb dX7_readNumber_55 ?_
  refine lv_iconst (v := (5 : Int32)) hx hb dX7_readNumber_56 (by decide) ?_
  refine lv_icmp_le (tgt := 65) hx hb dX7_readNumber_57 (by decide) (fun c1 => ?_) (fun c1 => ?_)
  · have hf := it_t hf c1
    refine lv_bipush (v := (21 : Int32)) hx hb dX7_readNumber_65 (by decide) ?_
    refine lv_iload_n hx hb dX7_readNumber_67 rfl (lv_at hl 1 rfl) ?_
    refine lv_iload hx hb dX7_readNumber_68 (lv_at hl 3 rfl) ?_
    obtain ⟨s3, h2, hf⟩ := br_s hf
    refine cVWv (As := [.int (21 : Int32), .int p3, .int y5]) (rest := []) X G kc_X7_41 (tX7_add l E st _ hL  (21 : Int32) p3 y5 h2) (rcv X G (hL 20 rfl) (cO7 rfl) rfl) rfl rfl (rmk_le (by omega) (by decide)) rfl hl.1 rfl (Nat.le_of_ble_eq_true rfl) dX7_readNumber_70 ⟨Nat.zero_le _, Nat.zero_le _⟩ (fun H locs G => ?_)
    refine lv_iload hx hb dX7_readNumber_73 (lv_at hl 2 rfl) ?_
    exact rtWi X hlk G hr (so_i hf) dX7_readNumber_75
  · have hf := it_f hf c1
    refine lv_bipush (v := (22 : Int32)) hx hb dX7_readNumber_60 (by decide) ?_
    refine lv_goto (tgt := 67) hx hb dX7_readNumber_62 (by decide) ?_
    refine lv_iload_n hx hb dX7_readNumber_67 rfl (lv_at hl 1 rfl) ?_
    refine lv_iload hx hb dX7_readNumber_68 (lv_at hl 3 rfl) ?_
    obtain ⟨s3, h2, hf⟩ := br_s hf
    refine cVWv (As := [.int (22 : Int32), .int p3, .int y5]) (rest := []) X G kc_X7_41 (tX7_add l E st _ hL  (22 : Int32) p3 y5 h2) (rcv X G (hL 20 rfl) (cO7 rfl) rfl) rfl rfl (rmk_le (by omega) (by decide)) rfl hl.1 rfl (Nat.le_of_ble_eq_true rfl) dX7_readNumber_70 ⟨Nat.zero_le _, Nat.zero_le _⟩ (fun H locs G => ?_)
    refine lv_iload hx hb dX7_readNumber_73 (lv_at hl 2 rfl) ?_
    exact rtWi X hlk G hr (so_i hf) dX7_readNumber_75
def fX7_readNumber_L6 (a1 : Nat) (n1 : Nat) (p2 : Int32) (p3 : Int32) : Nat → Int32 → Int32 → St → Option (Int32 × St)
  | 0, _, _, _ => none
  | n + 1, y4, y5, st => if p2 ≤ y4 then (fX7_readNumber_B51 a1 n1 p2 p3 y4 y5 st) else (gd (ix y4 n1) (br (fX7_isDigit (st.1 a1 y4.toNatClampNeg)) (fun x4 => if x4 = 0 then (fX7_readNumber_B51 a1 n1 p2 p3 y4 y5 st) else (if (5 : Int32) ≤ (y4 - p3) then (nm (y4 + (1 : Int32)) (fun x7 => (fX7_readNumber_L6 a1 n1 p2 p3 n) x7 y5 st)) else (gd (ix y4 n1) (nm (((y5 * (10 : Int32)) + (st.1 a1 y4.toNatClampNeg)) - (48 : Int32)) (fun x8 => nm (y4 + (1 : Int32)) (fun x9 => (fX7_readNumber_L6 a1 n1 p2 p3 n) x9 x8 st))))))))
set_option maxRecDepth 100000 in
theorem wX7_readNumber_L6 {p : Program} {l : Launch} {e : Env} {s : State} {m : MethodId} {args : Array Value} {below : List Frame} {meth : Method} {c : Code} {E : Ev} (hL : ∀ k, fxC k = true → k ∈ eL E) {a1 : Nat} {n1 : Nat} {p2 : Int32} {p3 : Int32} (hm1 : a1 ∈ eL E) (ht1 : ty a1 = 10000 + n1) (hn1 : n1 < 10000) {sz : Nat} {res : (Int32 × St)} (X : CX p s m args c E RX7 cX7_readNumber 6 (Af E sz)) (hr : meth.sig.returnType = (some .int)) (hlk : meth.locks = false) : ∀ (n : Nat) (y4 : Int32) (y5 : Int32) (st : St) (H : Heap) (locs : List Loc), fX7_readNumber_L6 a1 n1 p2 p3  n y4 y5 st = some res → Gd E st (Af E sz) s H locs → ∀ ls : Array Slot, lv_has ls 6 [(0, .ref (eq E 20)), (1, .ref (eq E a1)), (2, .int p2), (3, .int p3), (4, .int y4), (5, .int y5)] → W p l e (rmk 1) s m args below meth c H locs 0 0 (MQ below (QWi E res.2 sz res.1) args s 0 0 (Af E sz)) (F0 m 6 ls []) := by
  have hx := X.1.1
  have hb := X.1.2.1
  intro n
  induction n with
  | zero =>
    intro y4 y5 st H locs hf G ls hl
    cases (show (none : Option (Int32 × St)) = some res from hf)
  | succ n ih =>
    intro y4 y5 st H locs hf G ls hl
    rw [fX7_readNumber_L6] at hf
    refine lv_iload hx hb dX7_readNumber_6 (lv_at hl 4 rfl) ?_
    refine lv_iload_n hx hb dX7_readNumber_8 rfl (lv_at hl 2 rfl) ?_
    refine lv_icmp_ge (tgt := 51) hx hb dX7_readNumber_9 (by decide) (fun c1 => ?_) (fun c1 => ?_)
    · have hf := it_t hf c1
      exact wX7_readNumber_B51 hL hm1 ht1 hn1 X hr hlk y4 y5 st _ _ hf G _ (lv_sub hl [0, 3, 4, 5] rfl)
    · have hf := it_f hf c1
      refine lv_aload_n hx hb dX7_readNumber_12 rfl (lv_at hl 1 rfl) ?_
      refine lv_iload hx hb dX7_readNumber_13 (lv_at hl 4 rfl) ?_
      obtain ⟨h2, hf⟩ := gd_s hf
      refine ia_ld (k := a1) (n := n1) X G hm1 ht1 hn1 (ix_in h2) dX7_readNumber_15 ?_
      obtain ⟨x4, h3, hf⟩ := br_s hf
      refine cSRi (As := [.int (st.1 a1 y4.toNatClampNeg)]) (rest := []) X G kc_X7_55 (tX7_isDigit l E st _  (st.1 a1 y4.toNatClampNeg) h3) rfl rfl (rmk_le (by omega) (by decide)) rfl hl.1 rfl (Nat.le_of_ble_eq_true rfl) dX7_readNumber_16 ⟨Nat.zero_le _, Nat.zero_le _⟩ ?_
      refine lv_if_eq (tgt := 51) hx hb dX7_readNumber_19 (by decide) (fun c5 => ?_) (fun c5 => ?_)
      · have hf := it_t hf c5
        exact wX7_readNumber_B51 hL hm1 ht1 hn1 X hr hlk y4 y5 st _ _ hf G _ (lv_sub hl [0, 3, 4, 5] rfl)
      · have hf := it_f hf c5
        refine lv_iload hx hb dX7_readNumber_22 (lv_at hl 4 rfl) ?_
        refine lv_iload_n hx hb dX7_readNumber_24 rfl (lv_at hl 3 rfl) ?_
        refine lv_isub hx hb dX7_readNumber_25 ?_
        refine lv_iconst (v := (5 : Int32)) hx hb dX7_readNumber_26 (by decide) ?_
        refine lv_icmp_ge (tgt := 45) hx hb dX7_readNumber_27 (by decide) (fun c6 => ?_) (fun c6 => ?_)
        · have hf := it_t hf c6
          obtain ⟨x7, ex7⟩ : ∃ y : Int32, y = (y4 + (1 : Int32)) := ⟨_, rfl⟩
          have hf := nm_s hf x7 ex7
          refine lv_iinc (k := 4) (v := x7) (lv' := [(4, .int x7), (0, .ref (eq E 20)), (1, .ref (eq E a1)), (2, .int p2), (3, .int p3), (5, .int y5)]) hx hb dX7_readNumber_45 hl rfl (by rw [ex7]; rfl) (by decide) rfl (fun ls hl => ?_)
          refine lv_goto (tgt := 6) hx hb dX7_readNumber_48 (by decide) ?_
          exact ih x7 y5 st _ _ hf G _ (lv_sub hl [1, 2, 3, 4, 0, 5] rfl)
        · have hf := it_f hf c6
          refine lv_iload hx hb dX7_readNumber_30 (lv_at hl 5 rfl) ?_
          refine lv_bipush (v := (10 : Int32)) hx hb dX7_readNumber_32 (by decide) ?_
          refine lv_imul hx hb dX7_readNumber_34 ?_
          refine lv_aload_n hx hb dX7_readNumber_35 rfl (lv_at hl 1 rfl) ?_
          refine lv_iload hx hb dX7_readNumber_36 (lv_at hl 4 rfl) ?_
          obtain ⟨h7, hf⟩ := gd_s hf
          refine ia_ld (k := a1) (n := n1) X G hm1 ht1 hn1 (ix_in h7) dX7_readNumber_38 ?_
          refine lv_iadd hx hb dX7_readNumber_39 ?_
          refine lv_bipush (v := (48 : Int32)) hx hb dX7_readNumber_40 (by decide) ?_
          refine lv_isub hx hb dX7_readNumber_42 ?_
          refine lv_topi (fun x8 ex8 => ?_)
          have hf := nm_s hf x8 ex8
          refine lv_istore (lv' := [(5, .int x8), (0, .ref (eq E 20)), (1, .ref (eq E a1)), (2, .int p2), (3, .int p3), (4, .int y4)]) hx hb dX7_readNumber_43 hl (by decide) rfl (fun ls hl => ?_)
          obtain ⟨x9, ex9⟩ : ∃ y : Int32, y = (y4 + (1 : Int32)) := ⟨_, rfl⟩
          have hf := nm_s hf x9 ex9
          refine lv_iinc (k := 5) (v := x9) (lv' := [(4, .int x9), (5, .int x8), (0, .ref (eq E 20)), (1, .ref (eq E a1)), (2, .int p2), (3, .int p3)]) hx hb dX7_readNumber_45 hl rfl (by rw [ex9]; rfl) (by decide) rfl (fun ls hl => ?_)
          refine lv_goto (tgt := 6) hx hb dX7_readNumber_48 (by decide) ?_
          exact ih x9 x8 st _ _ hf G _ (lv_sub hl [2, 3, 4, 5, 0, 1] rfl)
def fX7_readNumber (a1 : Nat) (n1 : Nat) (p2 : Int32) (p3 : Int32) (st : St) : Option (Int32 × St) := fX7_readNumber_L6 a1 n1 p2 p3 10000 p3 (0 : Int32) st
set_option maxRecDepth 100000 in
theorem tX7_readNumber (l : Launch) (E : Ev) (st : St) (sz : Nat) (hL : ∀ k, fxC k = true → k ∈ eL E) {a1 : Nat} {n1 : Nat} (hm1 : a1 ∈ eL E) (ht1 : ty a1 = 10000 + n1) (hn1 : n1 < 10000) (p2 : Int32) (p3 : Int32) {res : (Int32 × St)} (hf : fX7_readNumber a1 n1 p2 p3 st = some res) : Met l yX7_readNumber (.code yX7_readNumber cX7_readNumber 6 (some .int) :: uW) (rmk 1) (va_Pc [.ref (eq E 20), .ref (eq E a1), .int p2, .int p3] (Pre E st sz)) (QWi E res.2 sz res.1) 0 0 (Af E sz) := by
  refine Met_in (by decide) (Nat.le_of_ble_eq_true rfl) ?_
  intro p e s m below meth c X hr hlk hz G ls hl
  have hx := X.1.1
  have hb := X.1.2.1
  have hl : lv_has ls 6 [(0, .ref (eq E 20)), (1, .ref (eq E a1)), (2, .int p2), (3, .int p3)] := hl
  unfold fX7_readNumber at hf
  refine lv_iload_n hx hb dX7_readNumber_0 rfl (lv_at hl 3 rfl) ?_
  refine lv_istore (lv' := [(4, .int p3), (0, .ref (eq E 20)), (1, .ref (eq E a1)), (2, .int p2), (3, .int p3)]) hx hb dX7_readNumber_1 hl (by decide) rfl (fun ls hl => ?_)
  refine lv_iconst (v := (0 : Int32)) hx hb dX7_readNumber_3 (by decide) ?_
  refine lv_istore (lv' := [(5, .int (0 : Int32)), (4, .int p3), (0, .ref (eq E 20)), (1, .ref (eq E a1)), (2, .int p2), (3, .int p3)]) hx hb dX7_readNumber_4 hl (by decide) rfl (fun ls hl => ?_)
  exact wX7_readNumber_L6 hL hm1 ht1 hn1 X hr hlk 10000 p3 (0 : Int32) st _ _ hf G _ (lv_sub hl [2, 3, 4, 5, 1, 0] rfl)
def fJ1_canEncode_9a6ad (p1 : Int32) : Option Int32 := if p1 < 0 then (some (0 : Int32)) else (if (255 : Int32) < p1 then (some (0 : Int32)) else (some (1 : Int32)))
set_option maxRecDepth 100000 in
theorem tJ1_canEncode_9a6ad (l : Launch) (E : Ev) (st : St) (sz : Nat) (p1 : Int32) {res : Int32} (hf : fJ1_canEncode_9a6ad  p1 = some res) : Met l yJ1_canEncode_9a6ad (.code yJ1_canEncode_9a6ad cJ1_canEncode_9a6ad 1 (some .boolean) :: uW) (rmk 0) (va_Pc [.int p1] (Pre E st sz)) (QRi res) 0 0 (NoF) := by
  refine Met_in (by decide) (Nat.le_of_ble_eq_true rfl) ?_
  intro p e s m below meth c X hr hlk hz G ls hl
  have hx := X.1.1
  have hb := X.1.2.1
  have hl : lv_has ls 1 [(0, .int p1)] := hl
  unfold fJ1_canEncode_9a6ad at hf
  refine lv_iload_n hx hb dJ1_canEncode_9a6ad_0 rfl (lv_at hl 0 rfl) ?_
  refine lv_if_lt (tgt := 15) hx hb dJ1_canEncode_9a6ad_1 (by decide) (fun c1 => ?_) (fun c1 => ?_)
  · have hf := it_t hf c1
    refine lv_iconst (v := (0 : Int32)) hx hb dJ1_canEncode_9a6ad_15 (by decide) ?_
    exact rtRz X hlk hr rfl (so_i hf) dJ1_canEncode_9a6ad_16
  · have hf := it_f hf c1
    refine lv_iload_n hx hb dJ1_canEncode_9a6ad_4 rfl (lv_at hl 0 rfl) ?_
    refine lv_sipush (v := (255 : Int32)) hx hb dJ1_canEncode_9a6ad_5 (by decide) ?_
    refine lv_icmp_gt (tgt := 15) hx hb dJ1_canEncode_9a6ad_8 (by decide) (fun c2 => ?_) (fun c2 => ?_)
    · have hf := it_t hf c2
      refine lv_iconst (v := (0 : Int32)) hx hb dJ1_canEncode_9a6ad_15 (by decide) ?_
      exact rtRz X hlk hr rfl (so_i hf) dJ1_canEncode_9a6ad_16
    · have hf := it_f hf c2
      refine lv_iconst (v := (1 : Int32)) hx hb dJ1_canEncode_9a6ad_11 (by decide) ?_
      refine lv_goto (tgt := 16) hx hb dJ1_canEncode_9a6ad_12 (by decide) ?_
      exact rtRz X hlk hr rfl (so_i hf) dJ1_canEncode_9a6ad_16
def fJ1_indexOfChar_4cfef_L7 (j1 : Nat) (p2 : Int32) (p3 : Int32) (p4 : Int32) : Nat → Int32 → Int32 → Option Int32
  | 0, _, _ => none
  | n + 1, y4, y5 => if p4 ≤ y5 then (some (-1 : Int32)) else (gd (ix y5 (slen.getD j1 0)) (if ((sbyt.getD j1 []).getD y5.toNatClampNeg 0) = y4 then (some y5) else (nm (y5 + (1 : Int32)) (fun x4 => (fJ1_indexOfChar_4cfef_L7 j1 p2 p3 p4 n) y4 x4))))
set_option maxRecDepth 100000 in
theorem wJ1_indexOfChar_4cfef_L7 {p : Program} {l : Launch} {e : Env} {s : State} {m : MethodId} {args : Array Value} {below : List Frame} {meth : Method} {c : Code} {E : Ev} {j1 : Nat} {p2 : Int32} {p3 : Int32} {p4 : Int32} (hj1 : j1 < 23) {st : St} {sz : Nat} {res : Int32} (X : CX p s m args c E "java/lang/StringLatin1" cJ1_indexOfChar_4cfef 6 (Af E sz)) (hr : meth.sig.returnType = (some .int)) (hlk : meth.locks = false) (G : Gd E st (Af E sz) s s.heap []) : ∀ (n : Nat) (y4 : Int32) (y5 : Int32), fJ1_indexOfChar_4cfef_L7 j1 p2 p3 p4  n y4 y5 = some res → ∀ ls : Array Slot, lv_has ls 6 [(0, .ref (eV E j1)), (3, .int p4), (4, .int y4), (5, .int y5)] → W p l e (rmk 0) s m args below meth c s.heap [] 0 0 (MQ below (QRi res) args s 0 0 (NoF)) (F0 m 7 ls []) := by
  have hx := X.1.1
  have hb := X.1.2.1
  intro n
  induction n with
  | zero =>
    intro y4 y5 hf ls hl
    cases (show (none : Option Int32) = some res from hf)
  | succ n ih =>
    intro y4 y5 hf ls hl
    rw [fJ1_indexOfChar_4cfef_L7] at hf
    refine lv_iload hx hb dJ1_indexOfChar_4cfef_7 (lv_at hl 3 rfl) ?_
    refine lv_iload_n hx hb dJ1_indexOfChar_4cfef_9 rfl (lv_at hl 1 rfl) ?_
    refine lv_icmp_ge (tgt := 31) hx hb dJ1_indexOfChar_4cfef_10 (by decide) (fun c1 => ?_) (fun c1 => ?_)
    · have hf := it_t hf c1
      refine lv_iconst (v := (-1 : Int32)) hx hb dJ1_indexOfChar_4cfef_31 (by decide) ?_
      exact rtRi X hlk hr (so_i hf) dJ1_indexOfChar_4cfef_32
    · have hf := it_f hf c1
      refine lv_aload_n hx hb dJ1_indexOfChar_4cfef_13 rfl (lv_at hl 0 rfl) ?_
      refine lv_iload hx hb dJ1_indexOfChar_4cfef_14 (lv_at hl 3 rfl) ?_
      obtain ⟨h2, hf⟩ := gd_s hf
      refine va_tb hx hb ((X.2.2.2.1.1.1 j1 hj1).2.2.2) G.2.2 (ix_in h2) rfl dJ1_indexOfChar_4cfef_16 ?_
      refine lv_iload hx hb dJ1_indexOfChar_4cfef_17 (lv_at hl 2 rfl) ?_
      refine lv_icmp_ne (tgt := 25) hx hb dJ1_indexOfChar_4cfef_19 (by decide) (fun c3 => ?_) (fun c3 => ?_)
      · have hf := it_f hf c3
        obtain ⟨x4, ex4⟩ : ∃ y : Int32, y = (y5 + (1 : Int32)) := ⟨_, rfl⟩
        have hf := nm_s hf x4 ex4
        refine lv_iinc (k := 3) (v := x4) (lv' := [(5, .int x4), (0, .ref (eV E j1)), (3, .int p4), (4, .int y4)]) hx hb dJ1_indexOfChar_4cfef_25 hl rfl (by rw [ex4]; rfl) (by decide) rfl (fun ls hl => ?_)
        refine lv_goto (tgt := 7) hx hb dJ1_indexOfChar_4cfef_28 (by decide) ?_
        exact ih y4 x4 hf _ (lv_sub hl [1, 2, 3, 0] rfl)
      · have hf := it_t hf c3
        refine lv_iload hx hb dJ1_indexOfChar_4cfef_22 (lv_at hl 3 rfl) ?_
        exact rtRi X hlk hr (so_i hf) dJ1_indexOfChar_4cfef_24
def fJ1_indexOfChar_4cfef (j1 : Nat) (p2 : Int32) (p3 : Int32) (p4 : Int32) : Option Int32 := nm (Int8.toInt32 (Int32.toInt8 p2)) (fun x1 => fJ1_indexOfChar_4cfef_L7 j1 p2 p3 p4 10000 x1 p3)
set_option maxRecDepth 100000 in
theorem tJ1_indexOfChar_4cfef (l : Launch) (E : Ev) (st : St) (sz : Nat) {j1 : Nat} (hj1 : j1 < 23) (p2 : Int32) (p3 : Int32) (p4 : Int32) {res : Int32} (hf : fJ1_indexOfChar_4cfef j1 p2 p3 p4 = some res) : Met l yJ1_indexOfChar_4cfef (.code yJ1_indexOfChar_4cfef cJ1_indexOfChar_4cfef 6 (some .int) :: uW) (rmk 0) (va_Pc [.ref (eV E j1), .int p2, .int p3, .int p4] (Pre E st sz)) (QRi res) 0 0 (NoF) := by
  refine Met_in (by decide) (Nat.le_of_ble_eq_true rfl) ?_
  intro p e s m below meth c X hr hlk hz G ls hl
  have hx := X.1.1
  have hb := X.1.2.1
  have hl : lv_has ls 6 [(0, .ref (eV E j1)), (1, .int p2), (2, .int p3), (3, .int p4)] := hl
  unfold fJ1_indexOfChar_4cfef at hf
  refine lv_iload_n hx hb dJ1_indexOfChar_4cfef_0 rfl (lv_at hl 1 rfl) ?_
  refine lv_i2b hx hb dJ1_indexOfChar_4cfef_1 rfl ?_
  refine lv_topi (fun x1 ex1 => ?_)
  have hf := nm_s hf x1 ex1
  refine lv_istore (lv' := [(4, .int x1), (0, .ref (eV E j1)), (1, .int p2), (2, .int p3), (3, .int p4)]) hx hb dJ1_indexOfChar_4cfef_2 hl (by decide) rfl (fun ls hl => ?_)
  refine lv_iload_n hx hb dJ1_indexOfChar_4cfef_4 rfl (lv_at hl 3 rfl) ?_
  refine lv_istore (lv' := [(5, .int p3), (4, .int x1), (0, .ref (eV E j1)), (1, .int p2), (2, .int p3), (3, .int p4)]) hx hb dJ1_indexOfChar_4cfef_5 hl (by decide) rfl (fun ls hl => ?_)
  exact wJ1_indexOfChar_4cfef_L7 hj1 X hr hlk G 10000 x1 p3 hf _ (lv_sub hl [2, 5, 1, 0] rfl)
def fJ1_indexOf_4cfef (j1 : Nat) (p2 : Int32) (p3 : Int32) (p4 : Int32) : Option Int32 := br (fJ1_canEncode_9a6ad p2) (fun x2 => if x2 = 0 then (some (-1 : Int32)) else (nm (if p3 < (0 : Int32) then (0 : Int32) else p3) (fun x4 => nm (if (Int32.ofNat (slen.getD j1 0)) < p4 then (Int32.ofNat (slen.getD j1 0)) else p4) (fun x5 => if x4 < x5 then (br (fJ1_indexOfChar_4cfef j1 p2 x4 x5) (fun x8 => some x8)) else (some (-1 : Int32))))))
set_option maxRecDepth 100000 in
theorem tJ1_indexOf_4cfef (l : Launch) (E : Ev) (st : St) (sz : Nat) {j1 : Nat} (hj1 : j1 < 23) (p2 : Int32) (p3 : Int32) (p4 : Int32) {res : Int32} (hf : fJ1_indexOf_4cfef j1 p2 p3 p4 = some res) : Met l yJ1_indexOf_4cfef (.code yJ1_indexOf_4cfef cJ1_indexOf_4cfef 4 (some .int) :: uW) (rmk 1) (va_Pc [.ref (eV E j1), .int p2, .int p3, .int p4] (Pre E st sz)) (QRi res) 0 0 (NoF) := by
  refine Met_in (by decide) (Nat.le_of_ble_eq_true rfl) ?_
  intro p e s m below meth c X hr hlk hz G ls hl
  have hx := X.1.1
  have hb := X.1.2.1
  have hl : lv_has ls 4 [(0, .ref (eV E j1)), (1, .int p2), (2, .int p3), (3, .int p4)] := hl
  unfold fJ1_indexOf_4cfef at hf
  refine lv_iload_n hx hb dJ1_indexOf_4cfef_0 rfl (lv_at hl 1 rfl) ?_
  obtain ⟨x2, h1, hf⟩ := br_s hf
  refine cSRi (As := [.int p2]) (rest := []) X G kc_J1_88 (tJ1_canEncode_9a6ad l E st _  p2 h1) rfl rfl (rmk_le (by omega) (by decide)) rfl hl.1 rfl (Nat.le_of_ble_eq_true rfl) dJ1_indexOf_4cfef_1 ⟨Nat.zero_le _, Nat.zero_le _⟩ ?_
  refine lv_if_ne (tgt := 9) hx hb dJ1_indexOf_4cfef_4 (by decide) (fun c3 => ?_) (fun c3 => ?_)
  · have hf := it_f hf c3
    refine lv_iload_n hx hb dJ1_indexOf_4cfef_9 rfl (lv_at hl 2 rfl) ?_
    refine lv_iconst (v := (0 : Int32)) hx hb dJ1_indexOf_4cfef_10 (by decide) ?_
    refine va_mmax hx hb (X.1.2.2.1.trans hl.1.symm) X.1.2.2.2.1 (X.1.2.2.2.2 _ km_J1_92) (X.1.2.2.2.2 _ ks_Math_max) (X.1.2.2.2.2 _ ki_Math) (X.1.2.2.2.2 _ kd_Math_max) (rmk_1 (by omega)) (rmk_l (by omega) (Nat.le_of_ble_eq_true rfl)) (Nat.zero_le _) (Nat.zero_le _) dJ1_indexOf_4cfef_11 ?_
    refine lv_topi (fun x4 ex4 => ?_)
    have hf := nm_s hf x4 ex4
    refine lv_istore_n (lv' := [(2, .int x4), (0, .ref (eV E j1)), (1, .int p2), (3, .int p4)]) hx hb dJ1_indexOf_4cfef_14 rfl hl (by decide) rfl (fun ls hl => ?_)
    refine lv_iload_n hx hb dJ1_indexOf_4cfef_15 rfl (lv_at hl 3 rfl) ?_
    refine lv_aload_n hx hb dJ1_indexOf_4cfef_16 rfl (lv_at hl 1 rfl) ?_
    refine va_tlen hx hb ((X.2.2.2.1.1.1 j1 hj1).2.2.2) G.2.2 rfl dJ1_indexOf_4cfef_17 ?_
    refine va_mmin hx hb (X.1.2.2.1.trans hl.1.symm) X.1.2.2.2.1 (X.1.2.2.2.2 _ km_J1_38) (X.1.2.2.2.2 _ ks_Math_min) (X.1.2.2.2.2 _ ki_Math) (X.1.2.2.2.2 _ kd_Math_min) (rmk_1 (by omega)) (rmk_l (by omega) (Nat.le_of_ble_eq_true rfl)) (Nat.zero_le _) (Nat.zero_le _) dJ1_indexOf_4cfef_18 ?_
    refine lv_topi (fun x5 ex5 => ?_)
    have hf := nm_s hf x5 ex5
    refine lv_istore_n (lv' := [(3, .int x5), (2, .int x4), (0, .ref (eV E j1)), (1, .int p2)]) hx hb dJ1_indexOf_4cfef_21 rfl hl (by decide) rfl (fun ls hl => ?_)
    refine lv_iload_n hx hb dJ1_indexOf_4cfef_22 rfl (lv_at hl 1 rfl) ?_
    refine lv_iload_n hx hb dJ1_indexOf_4cfef_23 rfl (lv_at hl 0 rfl) ?_
    refine lv_icmp_lt (tgt := 29) hx hb dJ1_indexOf_4cfef_24 (by decide) (fun c6 => ?_) (fun c6 => ?_)
    · have hf := it_t hf c6
      refine lv_aload_n hx hb dJ1_indexOf_4cfef_29 rfl (lv_at hl 2 rfl) ?_
      refine lv_iload_n hx hb dJ1_indexOf_4cfef_30 rfl (lv_at hl 3 rfl) ?_
      refine lv_iload_n hx hb dJ1_indexOf_4cfef_31 rfl (lv_at hl 1 rfl) ?_
      refine lv_iload_n hx hb dJ1_indexOf_4cfef_32 rfl (lv_at hl 0 rfl) ?_
      obtain ⟨x8, h7, hf⟩ := br_s hf
      refine cSRi (As := [.ref (eV E j1), .int p2, .int x4, .int x5]) (rest := []) X G kc_J1_95 (tJ1_indexOfChar_4cfef l E st _ hj1 p2 x4 x5 h7) rfl rfl (rmk_le (by omega) (by decide)) rfl hl.1 rfl (Nat.le_of_ble_eq_true rfl) dJ1_indexOf_4cfef_33 ⟨Nat.zero_le _, Nat.zero_le _⟩ ?_
      exact rtRi X hlk hr (so_i hf) dJ1_indexOf_4cfef_36
    · have hf := it_f hf c6
      refine lv_iconst (v := (-1 : Int32)) hx hb dJ1_indexOf_4cfef_27 (by decide) ?_
      exact rtRi X hlk hr (so_i hf) dJ1_indexOf_4cfef_28
  · have hf := it_t hf c3
    refine lv_iconst (v := (-1 : Int32)) hx hb dJ1_indexOf_4cfef_7 (by decide) ?_
    exact rtRi X hlk hr (so_i hf) dJ1_indexOf_4cfef_8
def fJ0_indexOf_7cf53 (j0 : Nat) (p1 : Int32) (p2 : Int32) : Option Int32 := br (fJ0_isLatin1_aae02 j0) (fun x2 => if x2 = 0 then (br (fJ0_length_8abf5 j0) (fun x5 => none)) else (br (fJ0_length_8abf5 j0) (fun x5 => br (fJ1_indexOf_4cfef j0 p1 p2 x5) (fun x7 => some x7))))
set_option maxRecDepth 100000 in
theorem tJ0_indexOf_7cf53 (l : Launch) (E : Ev) (st : St) (sz : Nat) {j0 : Nat} (hj0 : j0 < 23) (p1 : Int32) (p2 : Int32) {res : Int32} (hf : fJ0_indexOf_7cf53 j0 p1 p2 = some res) : Met l yJ0_indexOf_7cf53 (.code yJ0_indexOf_7cf53 cJ0_indexOf_7cf53 3 (some .int) :: uW) (rmk 2) (va_Pc [.ref (eK E j0), .int p1, .int p2] (Pre E st sz)) (QRi res) 0 0 (NoF) := by
  refine Met_in (by decide) (Nat.le_of_ble_eq_true rfl) ?_
  intro p e s m below meth c X hr hlk hz G ls hl
  have hx := X.1.1
  have hb := X.1.2.1
  have hl : lv_has ls 3 [(0, .ref (eK E j0)), (1, .int p1), (2, .int p2)] := hl
  unfold fJ0_indexOf_7cf53 at hf
  refine lv_aload_n hx hb dJ0_indexOf_7cf53_0 rfl (lv_at hl 0 rfl) ?_
  obtain ⟨x2, h1, hf⟩ := br_s hf
  refine cVRi (As := []) (rest := []) X G kc_J0_492 (tJ0_isLatin1_aae02 l E st _ hj0  h1) (vk_recv X.2.2.2.1.1 hj0 G.2.2) rfl rfl (rmk_le (by omega) (by decide)) rfl hl.1 rfl (Nat.le_of_ble_eq_true rfl) dJ0_indexOf_7cf53_1 ⟨Nat.zero_le _, Nat.zero_le _⟩ ?_
  refine lv_if_eq (tgt := 23) hx hb dJ0_indexOf_7cf53_4 (by decide) (fun c3 => ?_) (fun c3 => ?_)
  · have hf := it_t hf c3
    refine lv_aload_n hx hb dJ0_indexOf_7cf53_23 rfl (lv_at hl 0 rfl) ?_
    refine vk_getf hx hb ((X.2.2.2.1.1.1 j0 hj0).2.2.1) G.2.2 X.1.2.2.2.1 (X.1.2.2.2.2 _ kf_J0_9) (fun _ h9 => h9) dJ0_indexOf_7cf53_24 ?_
    refine lv_iload_n hx hb dJ0_indexOf_7cf53_27 rfl (lv_at hl 1 rfl) ?_
    refine lv_iload_n hx hb dJ0_indexOf_7cf53_28 rfl (lv_at hl 2 rfl) ?_
    refine lv_aload_n hx hb dJ0_indexOf_7cf53_29 rfl (lv_at hl 0 rfl) ?_
    obtain ⟨x5, h4, hf⟩ := br_s hf
    refine cVRi (As := []) (rest := [.int p2, .int p1, .ref (eV E j0)]) X G kc_J0_505 (tJ0_length_8abf5 l E st _ hj0  h4) (vk_recv X.2.2.2.1.1 hj0 G.2.2) rfl rfl (rmk_le (by omega) (by decide)) rfl hl.1 rfl (Nat.le_of_ble_eq_true rfl) dJ0_indexOf_7cf53_30 ⟨Nat.zero_le _, Nat.zero_le _⟩ ?_
    cases hf
  · have hf := it_f hf c3
    refine lv_aload_n hx hb dJ0_indexOf_7cf53_7 rfl (lv_at hl 0 rfl) ?_
    refine vk_getf hx hb ((X.2.2.2.1.1.1 j0 hj0).2.2.1) G.2.2 X.1.2.2.2.1 (X.1.2.2.2.2 _ kf_J0_9) (fun _ h9 => h9) dJ0_indexOf_7cf53_8 ?_
    refine lv_iload_n hx hb dJ0_indexOf_7cf53_11 rfl (lv_at hl 1 rfl) ?_
    refine lv_iload_n hx hb dJ0_indexOf_7cf53_12 rfl (lv_at hl 2 rfl) ?_
    refine lv_aload_n hx hb dJ0_indexOf_7cf53_13 rfl (lv_at hl 0 rfl) ?_
    obtain ⟨x5, h4, hf⟩ := br_s hf
    refine cVRi (As := []) (rest := [.int p2, .int p1, .ref (eV E j0)]) X G kc_J0_505 (tJ0_length_8abf5 l E st _ hj0  h4) (vk_recv X.2.2.2.1.1 hj0 G.2.2) rfl rfl (rmk_le (by omega) (by decide)) rfl hl.1 rfl (Nat.le_of_ble_eq_true rfl) dJ0_indexOf_7cf53_14 ⟨Nat.zero_le _, Nat.zero_le _⟩ ?_
    obtain ⟨x7, h6, hf⟩ := br_s hf
    refine cSRi (As := [.ref (eV E j0), .int p1, .int p2, .int x5]) (rest := []) X G kc_J0_637 (tJ1_indexOf_4cfef l E st _ hj0 p1 p2 x5 h6) rfl rfl (rmk_le (by omega) (by decide)) rfl hl.1 rfl (Nat.le_of_ble_eq_true rfl) dJ0_indexOf_7cf53_17 ⟨Nat.zero_le _, Nat.zero_le _⟩ ?_
    refine lv_goto (tgt := 36) hx hb dJ0_indexOf_7cf53_20 (by decide) ?_
    exact rtRi X hlk hr (so_i hf) dJ0_indexOf_7cf53_36
def fJ0_indexOf_0f7a4 (j0 : Nat) (p1 : Int32) : Option Int32 := br (fJ0_indexOf_7cf53 j0 p1 (0 : Int32)) (fun x2 => some x2)
set_option maxRecDepth 100000 in
theorem tJ0_indexOf_0f7a4 (l : Launch) (E : Ev) (st : St) (sz : Nat) {j0 : Nat} (hj0 : j0 < 23) (p1 : Int32) {res : Int32} (hf : fJ0_indexOf_0f7a4 j0 p1 = some res) : Met l yJ0_indexOf_0f7a4 (.code yJ0_indexOf_0f7a4 cJ0_indexOf_0f7a4 2 (some .int) :: uW) (rmk 3) (va_Pc [.ref (eK E j0), .int p1] (Pre E st sz)) (QRi res) 0 0 (NoF) := by
  refine Met_in (by decide) (Nat.le_of_ble_eq_true rfl) ?_
  intro p e s m below meth c X hr hlk hz G ls hl
  have hx := X.1.1
  have hb := X.1.2.1
  have hl : lv_has ls 2 [(0, .ref (eK E j0)), (1, .int p1)] := hl
  unfold fJ0_indexOf_0f7a4 at hf
  refine lv_aload_n hx hb dJ0_indexOf_0f7a4_0 rfl (lv_at hl 0 rfl) ?_
  refine lv_iload_n hx hb dJ0_indexOf_0f7a4_1 rfl (lv_at hl 1 rfl) ?_
  refine lv_iconst (v := (0 : Int32)) hx hb dJ0_indexOf_0f7a4_2 (by decide) ?_
  obtain ⟨x2, h1, hf⟩ := br_s hf
  refine cVRi (As := [.int p1, .int (0 : Int32)]) (rest := []) X G kc_J0_633 (tJ0_indexOf_7cf53 l E st _ hj0 p1 (0 : Int32) h1) (vk_recv X.2.2.2.1.1 hj0 G.2.2) rfl rfl (rmk_le (by omega) (by decide)) rfl hl.1 rfl (Nat.le_of_ble_eq_true rfl) dJ0_indexOf_0f7a4_3 ⟨Nat.zero_le _, Nat.zero_le _⟩ ?_
  exact rtRi X hlk hr (so_i hf) dJ0_indexOf_0f7a4_6
def fX7_readOne_B129 (a1 : Nat) (n1 : Nat) (p2 : Int32) (p3 : Int32) (y5 : Int32) (st : St) : Option (Int32 × St) := br (fX7_add y5 p3 (0 : Int32) st) (fun s2 => some ((p3 + (1 : Int32)), s2))
set_option maxRecDepth 100000 in
theorem wX7_readOne_B129 {p : Program} {l : Launch} {e : Env} {s : State} {m : MethodId} {args : Array Value} {below : List Frame} {meth : Method} {c : Code} {E : Ev} (hL : ∀ k, fxC k = true → k ∈ eL E) {a1 : Nat} {n1 : Nat} {p2 : Int32} {p3 : Int32} (hm1 : a1 ∈ eL E) (ht1 : ty a1 = 10000 + n1) (hn1 : n1 < 10000) {sz : Nat} {res : (Int32 × St)} (X : CX p s m args c E RX7 cX7_readOne 7 (Af E sz)) (hr : meth.sig.returnType = (some .int)) (hlk : meth.locks = false) : ∀ (y5 : Int32) (st : St) (H : Heap) (locs : List Loc), fX7_readOne_B129 a1 n1 p2 p3  y5 st = some res → Gd E st (Af E sz) s H locs → ∀ ls : Array Slot, lv_has ls 7 [(0, .ref (eq E 20)), (3, .int p3), (5, .int y5)] → W p l e (rmk 7) s m args below meth c H locs 0 0 (MQ below (QWi E res.2 sz res.1) args s 0 0 (Af E sz)) (F0 m 129 ls []) := by
  have hx := X.1.1
  have hb := X.1.2.1
  intro y5 st H locs hf G ls hl
  unfold fX7_readOne_B129 at hf
  refine lv_aload_n hx hb dX7_readOne_129 rfl (lv_at hl 0 rfl) ?_
  refine lv_iload hx hb dX7_readOne_130 (lv_at hl 2 rfl) ?_
  refine lv_iload_n hx hb dX7_readOne_132 rfl (lv_at hl 1 rfl) ?_
  refine lv_iconst (v := (0 : Int32)) hx hb dX7_readOne_133 (by decide) ?_
  obtain ⟨s2, h1, hf⟩ := br_s hf
  refine cVWv (As := [.int y5, .int p3, .int (0 : Int32)]) (rest := []) X G kc_X7_41 (tX7_add l E st _ hL  y5 p3 (0 : Int32) h1) (rcv X G (hL 20 rfl) (cO7 rfl) rfl) rfl rfl (rmk_le (by omega) (by decide)) rfl hl.1 rfl (Nat.le_of_ble_eq_true rfl) dX7_readOne_134 ⟨Nat.zero_le _, Nat.zero_le _⟩ (fun H locs G => ?_)
  refine lv_iload_n hx hb dX7_readOne_137 rfl (lv_at hl 1 rfl) ?_
  refine lv_iconst (v := (1 : Int32)) hx hb dX7_readOne_138 (by decide) ?_
  refine lv_iadd hx hb dX7_readOne_139 ?_
  exact rtWi X hlk G hr (so_i hf) dX7_readOne_140
def fX7_readOne_B120 (a1 : Nat) (n1 : Nat) (p2 : Int32) (p3 : Int32) (z0 : Int32) (st : St) : Option (Int32 × St) := br (fX7_add z0 p3 (0 : Int32) st) (fun s2 => some ((p3 + (2 : Int32)), s2))
set_option maxRecDepth 100000 in
theorem wX7_readOne_B120 {p : Program} {l : Launch} {e : Env} {s : State} {m : MethodId} {args : Array Value} {below : List Frame} {meth : Method} {c : Code} {E : Ev} (hL : ∀ k, fxC k = true → k ∈ eL E) {a1 : Nat} {n1 : Nat} {p2 : Int32} {p3 : Int32} (hm1 : a1 ∈ eL E) (ht1 : ty a1 = 10000 + n1) (hn1 : n1 < 10000) {sz : Nat} {res : (Int32 × St)} (X : CX p s m args c E RX7 cX7_readOne 7 (Af E sz)) (hr : meth.sig.returnType = (some .int)) (hlk : meth.locks = false) : ∀ (z0 : Int32) (st : St) (H : Heap) (locs : List Loc), fX7_readOne_B120 a1 n1 p2 p3  z0 st = some res → Gd E st (Af E sz) s H locs → ∀ ls : Array Slot, lv_has ls 7 [(3, .int p3)] → W p l e (rmk 7) s m args below meth c H locs 0 0 (MQ below (QWi E res.2 sz res.1) args s 0 0 (Af E sz)) (F0 m 120 ls [.int z0, .ref (eq E 20)]) := by
  have hx := X.1.1
  have hb := X.1.2.1
  intro z0 st H locs hf G ls hl
  unfold fX7_readOne_B120 at hf
  refine lv_iload_n hx hb dX7_readOne_120 rfl (lv_at hl 0 rfl) ?_
  refine lv_iconst (v := (0 : Int32)) hx hb dX7_readOne_121 (by decide) ?_
  obtain ⟨s2, h1, hf⟩ := br_s hf
  refine cVWv (As := [.int z0, .int p3, .int (0 : Int32)]) (rest := []) X G kc_X7_41 (tX7_add l E st _ hL  z0 p3 (0 : Int32) h1) (rcv X G (hL 20 rfl) (cO7 rfl) rfl) rfl rfl (rmk_le (by omega) (by decide)) rfl hl.1 rfl (Nat.le_of_ble_eq_true rfl) dX7_readOne_122 ⟨Nat.zero_le _, Nat.zero_le _⟩ (fun H locs G => ?_)
  refine lv_iload_n hx hb dX7_readOne_125 rfl (lv_at hl 0 rfl) ?_
  refine lv_iconst (v := (2 : Int32)) hx hb dX7_readOne_126 (by decide) ?_
  refine lv_iadd hx hb dX7_readOne_127 ?_
  exact rtWi X hlk G hr (so_i hf) dX7_readOne_128
def fX7_readOne_B105 (a1 : Nat) (n1 : Nat) (p2 : Int32) (p3 : Int32) (y5 : Int32) (st : St) : Option (Int32 × St) := if y5 = (33 : Int32) then (fX7_readOne_B120 a1 n1 p2 p3 (36 : Int32) st) else (fX7_readOne_B120 a1 n1 p2 p3 (37 : Int32) st)
set_option maxRecDepth 100000 in
theorem wX7_readOne_B105 {p : Program} {l : Launch} {e : Env} {s : State} {m : MethodId} {args : Array Value} {below : List Frame} {meth : Method} {c : Code} {E : Ev} (hL : ∀ k, fxC k = true → k ∈ eL E) {a1 : Nat} {n1 : Nat} {p2 : Int32} {p3 : Int32} (hm1 : a1 ∈ eL E) (ht1 : ty a1 = 10000 + n1) (hn1 : n1 < 10000) {sz : Nat} {res : (Int32 × St)} (X : CX p s m args c E RX7 cX7_readOne 7 (Af E sz)) (hr : meth.sig.returnType = (some .int)) (hlk : meth.locks = false) : ∀ (y5 : Int32) (st : St) (H : Heap) (locs : List Loc), fX7_readOne_B105 a1 n1 p2 p3  y5 st = some res → Gd E st (Af E sz) s H locs → ∀ ls : Array Slot, lv_has ls 7 [(0, .ref (eq E 20)), (3, .int p3), (5, .int y5)] → W p l e (rmk 7) s m args below meth c H locs 0 0 (MQ below (QWi E res.2 sz res.1) args s 0 0 (Af E sz)) (F0 m 105 ls []) := by
  have hx := X.1.1
  have hb := X.1.2.1
  intro y5 st H locs hf G ls hl
  unfold fX7_readOne_B105 at hf
  refine lv_aload_n hx hb dX7_readOne_105 rfl (lv_at hl 0 rfl) ?_
  refine lv_iload hx hb dX7_readOne_106 (lv_at hl 2 rfl) ?_
  refine lv_bipush (v := (33 : Int32)) hx hb dX7_readOne_108 (by decide) ?_
  refine lv_icmp_ne (tgt := 118) hx hb dX7_readOne_110 (by decide) (fun c1 => ?_) (fun c1 => ?_)
  · have hf := it_f hf c1
    refine lv_bipush (v := (37 : Int32)) hx hb dX7_readOne_118 (by decide) ?_
    exact wX7_readOne_B120 hL hm1 ht1 hn1 X hr hlk (37 : Int32) st _ _ hf G _ (lv_sub hl [1] rfl)
  · have hf := it_t hf c1
    refine lv_bipush (v := (36 : Int32)) hx hb dX7_readOne_113 (by decide) ?_
    refine lv_goto (tgt := 120) hx hb dX7_readOne_115 (by decide) ?_
    exact wX7_readOne_B120 hL hm1 ht1 hn1 X hr hlk (36 : Int32) st _ _ hf G _ (lv_sub hl [1] rfl)
def fX7_readOne_B84 (a1 : Nat) (n1 : Nat) (p2 : Int32) (p3 : Int32) (y5 : Int32) (z0 : Int32) (st : St) : Option (Int32 × St) := if z0 = 0 then (fX7_readOne_B129 a1 n1 p2 p3 y5 st) else (if y5 = (33 : Int32) then (fX7_readOne_B105 a1 n1 p2 p3 y5 st) else (if y5 = (35 : Int32) then (fX7_readOne_B105 a1 n1 p2 p3 y5 st) else (fX7_readOne_B129 a1 n1 p2 p3 y5 st)))
set_option maxRecDepth 100000 in
theorem wX7_readOne_B84 {p : Program} {l : Launch} {e : Env} {s : State} {m : MethodId} {args : Array Value} {below : List Frame} {meth : Method} {c : Code} {E : Ev} (hL : ∀ k, fxC k = true → k ∈ eL E) {a1 : Nat} {n1 : Nat} {p2 : Int32} {p3 : Int32} (hm1 : a1 ∈ eL E) (ht1 : ty a1 = 10000 + n1) (hn1 : n1 < 10000) {sz : Nat} {res : (Int32 × St)} (X : CX p s m args c E RX7 cX7_readOne 7 (Af E sz)) (hr : meth.sig.returnType = (some .int)) (hlk : meth.locks = false) : ∀ (y5 : Int32) (z0 : Int32) (st : St) (H : Heap) (locs : List Loc), fX7_readOne_B84 a1 n1 p2 p3  y5 z0 st = some res → Gd E st (Af E sz) s H locs → ∀ ls : Array Slot, lv_has ls 7 [(0, .ref (eq E 20)), (3, .int p3), (5, .int y5)] → W p l e (rmk 7) s m args below meth c H locs 0 0 (MQ below (QWi E res.2 sz res.1) args s 0 0 (Af E sz)) (F0 m 84 ls [.int z0]) := by
  have hx := X.1.1
  have hb := X.1.2.1
  intro y5 z0 st H locs hf G ls hl
  unfold fX7_readOne_B84 at hf
  refine lv_istore (lv' := [(6, .int z0), (0, .ref (eq E 20)), (3, .int p3), (5, .int y5)]) hx hb dX7_readOne_84 hl (by decide) rfl (fun ls hl => ?_)
  refine lv_iload hx hb dX7_readOne_86 (lv_at hl 0 rfl) ?_
  refine lv_if_eq (tgt := 129) hx hb dX7_readOne_88 (by decide) (fun c1 => ?_) (fun c1 => ?_)
  · have hf := it_t hf c1
    exact wX7_readOne_B129 hL hm1 ht1 hn1 X hr hlk y5 st _ _ hf G _ (lv_sub hl [1, 2, 3] rfl)
  · have hf := it_f hf c1
    refine lv_iload hx hb dX7_readOne_91 (lv_at hl 3 rfl) ?_
    refine lv_bipush (v := (33 : Int32)) hx hb dX7_readOne_93 (by decide) ?_
    refine lv_icmp_eq (tgt := 105) hx hb dX7_readOne_95 (by decide) (fun c2 => ?_) (fun c2 => ?_)
    · have hf := it_t hf c2
      exact wX7_readOne_B105 hL hm1 ht1 hn1 X hr hlk y5 st _ _ hf G _ (lv_sub hl [1, 2, 3] rfl)
    · have hf := it_f hf c2
      refine lv_iload hx hb dX7_readOne_98 (lv_at hl 3 rfl) ?_
      refine lv_bipush (v := (35 : Int32)) hx hb dX7_readOne_100 (by decide) ?_
      refine lv_icmp_ne (tgt := 129) hx hb dX7_readOne_102 (by decide) (fun c3 => ?_) (fun c3 => ?_)
      · have hf := it_f hf c3
        exact wX7_readOne_B129 hL hm1 ht1 hn1 X hr hlk y5 st _ _ hf G _ (lv_sub hl [1, 2, 3] rfl)
      · have hf := it_t hf c3
        exact wX7_readOne_B105 hL hm1 ht1 hn1 X hr hlk y5 st _ _ hf G _ (lv_sub hl [1, 2, 3] rfl)
def fX7_readOne_B83 (a1 : Nat) (n1 : Nat) (p2 : Int32) (p3 : Int32) (y5 : Int32) (st : St) : Option (Int32 × St) := fX7_readOne_B84 a1 n1 p2 p3 y5 (0 : Int32) st
set_option maxRecDepth 100000 in
theorem wX7_readOne_B83 {p : Program} {l : Launch} {e : Env} {s : State} {m : MethodId} {args : Array Value} {below : List Frame} {meth : Method} {c : Code} {E : Ev} (hL : ∀ k, fxC k = true → k ∈ eL E) {a1 : Nat} {n1 : Nat} {p2 : Int32} {p3 : Int32} (hm1 : a1 ∈ eL E) (ht1 : ty a1 = 10000 + n1) (hn1 : n1 < 10000) {sz : Nat} {res : (Int32 × St)} (X : CX p s m args c E RX7 cX7_readOne 7 (Af E sz)) (hr : meth.sig.returnType = (some .int)) (hlk : meth.locks = false) : ∀ (y5 : Int32) (st : St) (H : Heap) (locs : List Loc), fX7_readOne_B83 a1 n1 p2 p3  y5 st = some res → Gd E st (Af E sz) s H locs → ∀ ls : Array Slot, lv_has ls 7 [(0, .ref (eq E 20)), (3, .int p3), (5, .int y5)] → W p l e (rmk 7) s m args below meth c H locs 0 0 (MQ below (QWi E res.2 sz res.1) args s 0 0 (Af E sz)) (F0 m 83 ls []) := by
  have hx := X.1.1
  have hb := X.1.2.1
  intro y5 st H locs hf G ls hl
  unfold fX7_readOne_B83 at hf
  refine lv_iconst (v := (0 : Int32)) hx hb dX7_readOne_83 (by decide) ?_
  exact wX7_readOne_B84 hL hm1 ht1 hn1 X hr hlk y5 (0 : Int32) st _ _ hf G _ (lv_sub hl [0, 1, 2] rfl)
def fX7_readOne_B60 (a1 : Nat) (n1 : Nat) (p2 : Int32) (p3 : Int32) (z0 : Int32) (st : St) : Option (Int32 × St) := if p2 ≤ (p3 + (1 : Int32)) then (fX7_readOne_B83 a1 n1 p2 p3 z0 st) else (gd (ix (p3 + (1 : Int32)) n1) (if (st.1 a1 (p3 + (1 : Int32)).toNatClampNeg) = (61 : Int32) then (fX7_readOne_B84 a1 n1 p2 p3 z0 (1 : Int32) st) else (fX7_readOne_B83 a1 n1 p2 p3 z0 st)))
set_option maxRecDepth 100000 in
theorem wX7_readOne_B60 {p : Program} {l : Launch} {e : Env} {s : State} {m : MethodId} {args : Array Value} {below : List Frame} {meth : Method} {c : Code} {E : Ev} (hL : ∀ k, fxC k = true → k ∈ eL E) {a1 : Nat} {n1 : Nat} {p2 : Int32} {p3 : Int32} (hm1 : a1 ∈ eL E) (ht1 : ty a1 = 10000 + n1) (hn1 : n1 < 10000) {sz : Nat} {res : (Int32 × St)} (X : CX p s m args c E RX7 cX7_readOne 7 (Af E sz)) (hr : meth.sig.returnType = (some .int)) (hlk : meth.locks = false) : ∀ (z0 : Int32) (st : St) (H : Heap) (locs : List Loc), fX7_readOne_B60 a1 n1 p2 p3  z0 st = some res → Gd E st (Af E sz) s H locs → ∀ ls : Array Slot, lv_has ls 7 [(0, .ref (eq E 20)), (1, .ref (eq E a1)), (2, .int p2), (3, .int p3)] → W p l e (rmk 7) s m args below meth c H locs 0 0 (MQ below (QWi E res.2 sz res.1) args s 0 0 (Af E sz)) (F0 m 60 ls [.int z0]) := by
  have hx := X.1.1
  have hb := X.1.2.1
  intro z0 st H locs hf G ls hl
  unfold fX7_readOne_B60 at hf
  refine lv_istore (lv' := [(5, .int z0), (0, .ref (eq E 20)), (1, .ref (eq E a1)), (2, .int p2), (3, .int p3)]) hx hb dX7_readOne_60 hl (by decide) rfl (fun ls hl => ?_)
  refine lv_iload_n hx hb dX7_readOne_62 rfl (lv_at hl 4 rfl) ?_
  refine lv_iconst (v := (1 : Int32)) hx hb dX7_readOne_63 (by decide) ?_
  refine lv_iadd hx hb dX7_readOne_64 ?_
  refine lv_iload_n hx hb dX7_readOne_65 rfl (lv_at hl 3 rfl) ?_
  refine lv_icmp_ge (tgt := 83) hx hb dX7_readOne_66 (by decide) (fun c1 => ?_) (fun c1 => ?_)
  · have hf := it_t hf c1
    exact wX7_readOne_B83 hL hm1 ht1 hn1 X hr hlk z0 st _ _ hf G _ (lv_sub hl [1, 4, 0] rfl)
  · have hf := it_f hf c1
    refine lv_aload_n hx hb dX7_readOne_69 rfl (lv_at hl 2 rfl) ?_
    refine lv_iload_n hx hb dX7_readOne_70 rfl (lv_at hl 4 rfl) ?_
    refine lv_iconst (v := (1 : Int32)) hx hb dX7_readOne_71 (by decide) ?_
    refine lv_iadd hx hb dX7_readOne_72 ?_
    obtain ⟨h2, hf⟩ := gd_s hf
    refine ia_ld (k := a1) (n := n1) X G hm1 ht1 hn1 (ix_in h2) dX7_readOne_73 ?_
    refine lv_bipush (v := (61 : Int32)) hx hb dX7_readOne_74 (by decide) ?_
    refine lv_icmp_ne (tgt := 83) hx hb dX7_readOne_76 (by decide) (fun c3 => ?_) (fun c3 => ?_)
    · have hf := it_f hf c3
      exact wX7_readOne_B83 hL hm1 ht1 hn1 X hr hlk z0 st _ _ hf G _ (lv_sub hl [1, 4, 0] rfl)
    · have hf := it_t hf c3
      refine lv_iconst (v := (1 : Int32)) hx hb dX7_readOne_79 (by decide) ?_
      refine lv_goto (tgt := 84) hx hb dX7_readOne_80 (by decide) ?_
      exact wX7_readOne_B84 hL hm1 ht1 hn1 X hr hlk z0 (1 : Int32) st _ _ hf G _ (lv_sub hl [1, 4, 0] rfl)
def fX7_readOne (a1 : Nat) (n1 : Nat) (p2 : Int32) (p3 : Int32) (st : St) : Option (Int32 × St) := gd (ix p3 n1) (br (fX7_isLetter (st.1 a1 p3.toNatClampNeg)) (fun x3 => if x3 = 0 then (gd (ix p3 n1) (br (fX7_isDigit (st.1 a1 p3.toNatClampNeg)) (fun x7 => if x7 = 0 then (gd (ix p3 n1) (br (fJ0_indexOf_0f7a4 0 (UInt32.toInt32 (Int32.toUInt32 (st.1 a1 p3.toNatClampNeg) % 65536))) (fun x11 => if 0 ≤ x11 then (fX7_readOne_B60 a1 n1 p2 p3 ((25 : Int32) + x11) st) else (fX7_readOne_B60 a1 n1 p2 p3 (24 : Int32) st)))) else (bw (fX7_readNumber a1 n1 p2 p3 st) (fun x11 s10 => some (x11, s10)))))) else (bw (fX7_readWord a1 n1 p2 p3 st) (fun x7 s6 => some (x7, s6)))))
set_option maxRecDepth 100000 in
theorem tX7_readOne (l : Launch) (E : Ev) (st : St) (sz : Nat) (hL : ∀ k, fxC k = true → k ∈ eL E) {a1 : Nat} {n1 : Nat} (hm1 : a1 ∈ eL E) (ht1 : ty a1 = 10000 + n1) (hn1 : n1 < 10000) (p2 : Int32) (p3 : Int32) {res : (Int32 × St)} (hf : fX7_readOne a1 n1 p2 p3 st = some res) : Met l yX7_readOne (.code yX7_readOne cX7_readOne 7 (some .int) :: uW) (rmk 7) (va_Pc [.ref (eq E 20), .ref (eq E a1), .int p2, .int p3] (Pre E st sz)) (QWi E res.2 sz res.1) 0 0 (Af E sz) := by
  refine Met_in (by decide) (Nat.le_of_ble_eq_true rfl) ?_
  intro p e s m below meth c X hr hlk hz G ls hl
  have hx := X.1.1
  have hb := X.1.2.1
  have hl : lv_has ls 7 [(0, .ref (eq E 20)), (1, .ref (eq E a1)), (2, .int p2), (3, .int p3)] := hl
  unfold fX7_readOne at hf
  refine lv_aload_n hx hb dX7_readOne_0 rfl (lv_at hl 1 rfl) ?_
  refine lv_iload_n hx hb dX7_readOne_1 rfl (lv_at hl 3 rfl) ?_
  obtain ⟨h1, hf⟩ := gd_s hf
  refine ia_ld (k := a1) (n := n1) X G hm1 ht1 hn1 (ix_in h1) dX7_readOne_2 ?_
  obtain ⟨x3, h2, hf⟩ := br_s hf
  refine cSRi (As := [.int (st.1 a1 p3.toNatClampNeg)]) (rest := []) X G kc_X7_48 (tX7_isLetter l E st _  (st.1 a1 p3.toNatClampNeg) h2) rfl rfl (rmk_le (by omega) (by decide)) rfl hl.1 rfl (Nat.le_of_ble_eq_true rfl) dX7_readOne_3 ⟨Nat.zero_le _, Nat.zero_le _⟩ ?_
  refine lv_if_eq (tgt := 17) hx hb dX7_readOne_6 (by decide) (fun c4 => ?_) (fun c4 => ?_)
  · have hf := it_t hf c4
    refine lv_aload_n hx hb dX7_readOne_17 rfl (lv_at hl 1 rfl) ?_
    refine lv_iload_n hx hb dX7_readOne_18 rfl (lv_at hl 3 rfl) ?_
    obtain ⟨h5, hf⟩ := gd_s hf
    refine ia_ld (k := a1) (n := n1) X G hm1 ht1 hn1 (ix_in h5) dX7_readOne_19 ?_
    obtain ⟨x7, h6, hf⟩ := br_s hf
    refine cSRi (As := [.int (st.1 a1 p3.toNatClampNeg)]) (rest := []) X G kc_X7_55 (tX7_isDigit l E st _  (st.1 a1 p3.toNatClampNeg) h6) rfl rfl (rmk_le (by omega) (by decide)) rfl hl.1 rfl (Nat.le_of_ble_eq_true rfl) dX7_readOne_20 ⟨Nat.zero_le _, Nat.zero_le _⟩ ?_
    refine lv_if_eq (tgt := 34) hx hb dX7_readOne_23 (by decide) (fun c8 => ?_) (fun c8 => ?_)
    · have hf := it_t hf c8
      refine va_ldcS hx hb X.1.2.2.2.1 (X.2.2.2.2 0 (by decide)) dX7_readOne_34 ?_
      refine lv_aload_n hx hb dX7_readOne_36 rfl (lv_at hl 1 rfl) ?_
      refine lv_iload_n hx hb dX7_readOne_37 rfl (lv_at hl 3 rfl) ?_
      obtain ⟨h9, hf⟩ := gd_s hf
      refine ia_ld (k := a1) (n := n1) X G hm1 ht1 hn1 (ix_in h9) dX7_readOne_38 ?_
      refine lv_i2c hx hb dX7_readOne_39 rfl ?_
      obtain ⟨x11, h10, hf⟩ := br_s hf
      refine cVRi (As := [.int (UInt32.toInt32 (Int32.toUInt32 (st.1 a1 p3.toNatClampNeg) % 65536))]) (rest := []) X G kc_X7_63 (tJ0_indexOf_0f7a4 l E st _ (by decide) (UInt32.toInt32 (Int32.toUInt32 (st.1 a1 p3.toNatClampNeg) % 65536)) h10) (vk_recv X.2.2.2.1.1 (by decide) G.2.2) rfl rfl (rmk_le (by omega) (by decide)) rfl hl.1 rfl (Nat.le_of_ble_eq_true rfl) dX7_readOne_40 ⟨Nat.zero_le _, Nat.zero_le _⟩ ?_
      refine lv_istore (lv' := [(4, .int x11), (0, .ref (eq E 20)), (1, .ref (eq E a1)), (2, .int p2), (3, .int p3)]) hx hb dX7_readOne_43 hl (by decide) rfl (fun ls hl => ?_)
      refine lv_iload hx hb dX7_readOne_45 (lv_at hl 0 rfl) ?_
      refine lv_if_ge (tgt := 55) hx hb dX7_readOne_47 (by decide) (fun c12 => ?_) (fun c12 => ?_)
      · have hf := it_t hf c12
        refine lv_bipush (v := (25 : Int32)) hx hb dX7_readOne_55 (by decide) ?_
        refine lv_iload hx hb dX7_readOne_57 (lv_at hl 0 rfl) ?_
        refine lv_iadd hx hb dX7_readOne_59 ?_
        exact wX7_readOne_B60 hL hm1 ht1 hn1 X hr hlk ((25 : Int32) + x11) st _ _ hf G _ (lv_sub hl [1, 2, 3, 4] rfl)
      · have hf := it_f hf c12
        refine lv_bipush (v := (24 : Int32)) hx hb dX7_readOne_50 (by decide) ?_
        refine lv_goto (tgt := 60) hx hb dX7_readOne_52 (by decide) ?_
        exact wX7_readOne_B60 hL hm1 ht1 hn1 X hr hlk (24 : Int32) st _ _ hf G _ (lv_sub hl [1, 2, 3, 4] rfl)
    · have hf := it_f hf c8
      refine lv_aload_n hx hb dX7_readOne_26 rfl (lv_at hl 0 rfl) ?_
      refine lv_aload_n hx hb dX7_readOne_27 rfl (lv_at hl 1 rfl) ?_
      refine lv_iload_n hx hb dX7_readOne_28 rfl (lv_at hl 2 rfl) ?_
      refine lv_iload_n hx hb dX7_readOne_29 rfl (lv_at hl 3 rfl) ?_
      obtain ⟨x11, s10, h9, hf⟩ := bw_s hf
      refine cVWi (As := [.ref (eq E a1), .int p2, .int p3]) (rest := []) X G kc_X7_58 (tX7_readNumber l E st _ hL hm1 ht1 hn1 p2 p3 h9) (rcv X G (hL 20 rfl) (cO7 rfl) rfl) rfl rfl (rmk_le (by omega) (by decide)) rfl hl.1 rfl (Nat.le_of_ble_eq_true rfl) dX7_readOne_30 ⟨Nat.zero_le _, Nat.zero_le _⟩ (fun H locs G => ?_)
      exact rtWi X hlk G hr (so_i hf) dX7_readOne_33
  · have hf := it_f hf c4
    refine lv_aload_n hx hb dX7_readOne_9 rfl (lv_at hl 0 rfl) ?_
    refine lv_aload_n hx hb dX7_readOne_10 rfl (lv_at hl 1 rfl) ?_
    refine lv_iload_n hx hb dX7_readOne_11 rfl (lv_at hl 2 rfl) ?_
    refine lv_iload_n hx hb dX7_readOne_12 rfl (lv_at hl 3 rfl) ?_
    obtain ⟨x7, s6, h5, hf⟩ := bw_s hf
    refine cVWi (As := [.ref (eq E a1), .int p2, .int p3]) (rest := []) X G kc_X7_52 (tX7_readWord l E st _ hL hm1 ht1 hn1 p2 p3 h5) (rcv X G (hL 20 rfl) (cO7 rfl) rfl) rfl rfl (rmk_le (by omega) (by decide)) rfl hl.1 rfl (Nat.le_of_ble_eq_true rfl) dX7_readOne_13 ⟨Nat.zero_le _, Nat.zero_le _⟩ (fun H locs G => ?_)
    exact rtWi X hlk G hr (so_i hf) dX7_readOne_16
def fX7_read_B51 (a1 : Nat) (n1 : Nat) (p2 : Int32) (st : St) : Option St := br (fX7_add (23 : Int32) p2 (0 : Int32) st) (fun s2 => nm (ui s2 20 4 (-1 : Int32)) (fun s3 => br (fX7_step s3) (fun s5 => some s5)))
set_option maxRecDepth 100000 in
theorem wX7_read_B51 {p : Program} {l : Launch} {e : Env} {s : State} {m : MethodId} {args : Array Value} {below : List Frame} {meth : Method} {c : Code} {E : Ev} (hL : ∀ k, fxC k = true → k ∈ eL E) {a1 : Nat} {n1 : Nat} {p2 : Int32} (hm1 : a1 ∈ eL E) (ht1 : ty a1 = 10000 + n1) (hn1 : n1 < 10000) {sz : Nat} {res : St} (X : CX p s m args c E RX7 cX7_read 5 (Af E sz)) (hr : meth.sig.returnType = none) (hlk : meth.locks = false) : ∀  (st : St) (H : Heap) (locs : List Loc), fX7_read_B51 a1 n1 p2   st = some res → Gd E st (Af E sz) s H locs → ∀ ls : Array Slot, lv_has ls 5 [(0, .ref (eq E 20)), (2, .int p2)] → W p l e (rmk 8) s m args below meth c H locs 0 0 (MQ below (QWv E res sz) args s 0 0 (Af E sz)) (F0 m 51 ls []) := by
  have hx := X.1.1
  have hb := X.1.2.1
  intro  st H locs hf G ls hl
  unfold fX7_read_B51 at hf
  refine lv_aload_n hx hb dX7_read_51 rfl (lv_at hl 0 rfl) ?_
  refine lv_bipush (v := (23 : Int32)) hx hb dX7_read_52 (by decide) ?_
  refine lv_iload_n hx hb dX7_read_54 rfl (lv_at hl 1 rfl) ?_
  refine lv_iconst (v := (0 : Int32)) hx hb dX7_read_55 (by decide) ?_
  obtain ⟨s2, h1, hf⟩ := br_s hf
  refine cVWv (As := [.int (23 : Int32), .int p2, .int (0 : Int32)]) (rest := []) X G kc_X7_41 (tX7_add l E st _ hL  (23 : Int32) p2 (0 : Int32) h1) (rcv X G (hL 20 rfl) (cO7 rfl) rfl) rfl rfl (rmk_le (by omega) (by decide)) rfl hl.1 rfl (Nat.le_of_ble_eq_true rfl) dX7_read_56 ⟨Nat.zero_le _, Nat.zero_le _⟩ (fun H locs G => ?_)
  refine lv_aload_n hx hb dX7_read_59 rfl (lv_at hl 0 rfl) ?_
  refine lv_iconst (v := (-1 : Int32)) hx hb dX7_read_60 (by decide) ?_
  refine pf7 X G (hL 20 rfl) rfl 4 (by decide) ps7_4 uio kf_X7_25 iwX7 rfl (ty := .int) (by decide +kernel) rfl rfl dX7_read_61 (fun s3 es3 H locs G => ?_)
  have hf := nm_s hf s3 es3
  refine lv_aload_n hx hb dX7_read_64 rfl (lv_at hl 0 rfl) ?_
  obtain ⟨s5, h4, hf⟩ := br_s hf
  refine cVWv (As := []) (rest := []) X G kc_X7_45 (tX7_step l E s3 _ hL   h4) (rcv X G (hL 20 rfl) (cO7 rfl) rfl) rfl rfl (rmk_le (by omega) (by decide)) rfl hl.1 rfl (Nat.le_of_ble_eq_true rfl) dX7_read_65 ⟨Nat.zero_le _, Nat.zero_le _⟩ (fun H locs G => ?_)
  exact rtWv X hlk G hr (so_i hf) dX7_read_68
def fX7_read_L10 (a1 : Nat) (n1 : Nat) (p2 : Int32) : Nat → Int32 → Int32 → St → Option St
  | 0, _, _, _ => none
  | n + 1, y3, y4, st => if (400 : Int32) ≤ y4 then (fX7_read_B51 a1 n1 p2 st) else (if p2 ≤ y3 then (fX7_read_B51 a1 n1 p2 st) else (gd (ix y3 n1) (if (st.1 a1 y3.toNatClampNeg) = (32 : Int32) then (nm (y3 + (1 : Int32)) (fun x5 => nm (y4 + (1 : Int32)) (fun x6 => (fX7_read_L10 a1 n1 p2 n) x5 x6 st))) else (bw (fX7_readOne a1 n1 p2 y3 st) (fun x7 s6 => nm (y4 + (1 : Int32)) (fun x8 => (fX7_read_L10 a1 n1 p2 n) x7 x8 s6))))))
set_option maxRecDepth 100000 in
theorem wX7_read_L10 {p : Program} {l : Launch} {e : Env} {s : State} {m : MethodId} {args : Array Value} {below : List Frame} {meth : Method} {c : Code} {E : Ev} (hL : ∀ k, fxC k = true → k ∈ eL E) {a1 : Nat} {n1 : Nat} {p2 : Int32} (hm1 : a1 ∈ eL E) (ht1 : ty a1 = 10000 + n1) (hn1 : n1 < 10000) {sz : Nat} {res : St} (X : CX p s m args c E RX7 cX7_read 5 (Af E sz)) (hr : meth.sig.returnType = none) (hlk : meth.locks = false) : ∀ (n : Nat) (y3 : Int32) (y4 : Int32) (st : St) (H : Heap) (locs : List Loc), fX7_read_L10 a1 n1 p2  n y3 y4 st = some res → Gd E st (Af E sz) s H locs → ∀ ls : Array Slot, lv_has ls 5 [(0, .ref (eq E 20)), (1, .ref (eq E a1)), (2, .int p2), (3, .int y3), (4, .int y4)] → W p l e (rmk 8) s m args below meth c H locs 0 0 (MQ below (QWv E res sz) args s 0 0 (Af E sz)) (F0 m 10 ls []) := by
  have hx := X.1.1
  have hb := X.1.2.1
  intro n
  induction n with
  | zero =>
    intro y3 y4 st H locs hf G ls hl
    cases (show (none : Option St) = some res from hf)
  | succ n ih =>
    intro y3 y4 st H locs hf G ls hl
    rw [fX7_read_L10] at hf
    refine lv_iload hx hb dX7_read_10 (lv_at hl 4 rfl) ?_
    refine lv_sipush (v := (400 : Int32)) hx hb dX7_read_12 (by decide) ?_
    refine lv_icmp_ge (tgt := 51) hx hb dX7_read_15 (by decide) (fun c1 => ?_) (fun c1 => ?_)
    · have hf := it_t hf c1
      exact wX7_read_B51 hL hm1 ht1 hn1 X hr hlk st _ _ hf G _ (lv_sub hl [0, 2] rfl)
    · have hf := it_f hf c1
      refine lv_iload_n hx hb dX7_read_18 rfl (lv_at hl 3 rfl) ?_
      refine lv_iload_n hx hb dX7_read_19 rfl (lv_at hl 2 rfl) ?_
      refine lv_icmp_ge (tgt := 51) hx hb dX7_read_20 (by decide) (fun c2 => ?_) (fun c2 => ?_)
      · have hf := it_t hf c2
        exact wX7_read_B51 hL hm1 ht1 hn1 X hr hlk st _ _ hf G _ (lv_sub hl [0, 2] rfl)
      · have hf := it_f hf c2
        refine lv_aload_n hx hb dX7_read_23 rfl (lv_at hl 1 rfl) ?_
        refine lv_iload_n hx hb dX7_read_24 rfl (lv_at hl 3 rfl) ?_
        obtain ⟨h3, hf⟩ := gd_s hf
        refine ia_ld (k := a1) (n := n1) X G hm1 ht1 hn1 (ix_in h3) dX7_read_25 ?_
        refine lv_bipush (v := (32 : Int32)) hx hb dX7_read_26 (by decide) ?_
        refine lv_icmp_ne (tgt := 37) hx hb dX7_read_28 (by decide) (fun c4 => ?_) (fun c4 => ?_)
        · have hf := it_f hf c4
          refine lv_aload_n hx hb dX7_read_37 rfl (lv_at hl 0 rfl) ?_
          refine lv_aload_n hx hb dX7_read_38 rfl (lv_at hl 1 rfl) ?_
          refine lv_iload_n hx hb dX7_read_39 rfl (lv_at hl 2 rfl) ?_
          refine lv_iload_n hx hb dX7_read_40 rfl (lv_at hl 3 rfl) ?_
          obtain ⟨x7, s6, h5, hf⟩ := bw_s hf
          refine cVWi (As := [.ref (eq E a1), .int p2, .int y3]) (rest := []) X G kc_X7_37 (tX7_readOne l E st _ hL hm1 ht1 hn1 p2 y3 h5) (rcv X G (hL 20 rfl) (cO7 rfl) rfl) rfl rfl (rmk_le (by omega) (by decide)) rfl hl.1 rfl (Nat.le_of_ble_eq_true rfl) dX7_read_41 ⟨Nat.zero_le _, Nat.zero_le _⟩ (fun H locs G => ?_)
          refine lv_istore_n (lv' := [(3, .int x7), (0, .ref (eq E 20)), (1, .ref (eq E a1)), (2, .int p2), (4, .int y4)]) hx hb dX7_read_44 rfl hl (by decide) rfl (fun ls hl => ?_)
          obtain ⟨x8, ex8⟩ : ∃ y : Int32, y = (y4 + (1 : Int32)) := ⟨_, rfl⟩
          have hf := nm_s hf x8 ex8
          refine lv_iinc (k := 4) (v := x8) (lv' := [(4, .int x8), (3, .int x7), (0, .ref (eq E 20)), (1, .ref (eq E a1)), (2, .int p2)]) hx hb dX7_read_45 hl rfl (by rw [ex8]; rfl) (by decide) rfl (fun ls hl => ?_)
          refine lv_goto (tgt := 10) hx hb dX7_read_48 (by decide) ?_
          exact ih x7 x8 s6 _ _ hf G _ (lv_sub hl [2, 3, 4, 1, 0] rfl)
        · have hf := it_t hf c4
          refine lv_iload_n hx hb dX7_read_31 rfl (lv_at hl 3 rfl) ?_
          refine lv_iconst (v := (1 : Int32)) hx hb dX7_read_32 (by decide) ?_
          refine lv_iadd hx hb dX7_read_33 ?_
          refine lv_goto (tgt := 44) hx hb dX7_read_34 (by decide) ?_
          refine lv_topi (fun x5 ex5 => ?_)
          have hf := nm_s hf x5 ex5
          refine lv_istore_n (lv' := [(3, .int x5), (0, .ref (eq E 20)), (1, .ref (eq E a1)), (2, .int p2), (4, .int y4)]) hx hb dX7_read_44 rfl hl (by decide) rfl (fun ls hl => ?_)
          obtain ⟨x6, ex6⟩ : ∃ y : Int32, y = (y4 + (1 : Int32)) := ⟨_, rfl⟩
          have hf := nm_s hf x6 ex6
          refine lv_iinc (k := 4) (v := x6) (lv' := [(4, .int x6), (3, .int x5), (0, .ref (eq E 20)), (1, .ref (eq E a1)), (2, .int p2)]) hx hb dX7_read_45 hl rfl (by rw [ex6]; rfl) (by decide) rfl (fun ls hl => ?_)
          refine lv_goto (tgt := 10) hx hb dX7_read_48 (by decide) ?_
          exact ih x5 x6 st _ _ hf G _ (lv_sub hl [2, 3, 4, 1, 0] rfl)
def fX7_read (a1 : Nat) (n1 : Nat) (p2 : Int32) (st : St) : Option St := nm (ui st 20 3 (0 : Int32)) (fun s1 => fX7_read_L10 a1 n1 p2 10000 (0 : Int32) (0 : Int32) s1)
set_option maxRecDepth 100000 in
theorem tX7_read (l : Launch) (E : Ev) (st : St) (sz : Nat) (hL : ∀ k, fxC k = true → k ∈ eL E) {a1 : Nat} {n1 : Nat} (hm1 : a1 ∈ eL E) (ht1 : ty a1 = 10000 + n1) (hn1 : n1 < 10000) (p2 : Int32) {res : St} (hf : fX7_read a1 n1 p2 st = some res) : Met l yX7_read (.code yX7_read cX7_read 5 none :: uW) (rmk 8) (va_Pc [.ref (eq E 20), .ref (eq E a1), .int p2] (Pre E st sz)) (QWv E res sz) 0 0 (Af E sz) := by
  refine Met_in (by decide) (Nat.le_of_ble_eq_true rfl) ?_
  intro p e s m below meth c X hr hlk hz G ls hl
  have hx := X.1.1
  have hb := X.1.2.1
  have hl : lv_has ls 5 [(0, .ref (eq E 20)), (1, .ref (eq E a1)), (2, .int p2)] := hl
  unfold fX7_read at hf
  refine lv_aload_n hx hb dX7_read_0 rfl (lv_at hl 0 rfl) ?_
  refine lv_iconst (v := (0 : Int32)) hx hb dX7_read_1 (by decide) ?_
  refine pf7 X G (hL 20 rfl) rfl 3 (by decide) ps7_3 uio kf_X7_21 iwX7 rfl (ty := .int) (by decide +kernel) rfl rfl dX7_read_2 (fun s1 es1 H locs G => ?_)
  have hf := nm_s hf s1 es1
  refine lv_iconst (v := (0 : Int32)) hx hb dX7_read_5 (by decide) ?_
  refine lv_istore_n (lv' := [(3, .int (0 : Int32)), (0, .ref (eq E 20)), (1, .ref (eq E a1)), (2, .int p2)]) hx hb dX7_read_6 rfl hl (by decide) rfl (fun ls hl => ?_)
  refine lv_iconst (v := (0 : Int32)) hx hb dX7_read_7 (by decide) ?_
  refine lv_istore (lv' := [(4, .int (0 : Int32)), (3, .int (0 : Int32)), (0, .ref (eq E 20)), (1, .ref (eq E a1)), (2, .int p2)]) hx hb dX7_read_8 hl (by decide) rfl (fun ls hl => ?_)
  exact wX7_read_L10 hL hm1 ht1 hn1 X hr hlk 10000 (0 : Int32) (0 : Int32) s1 _ _ hf G _ (lv_sub hl [2, 3, 4, 1, 0] rfl)
def fX5_readPart_L12 (L : List Nat) (g : Int32 → St → Option (Int32 × St)) (p1 : Int32) : Nat → Int32 → St → Option (Int32 × St)
  | 0, _, _ => none
  | n + 1, y2, st => if (400 : Int32) ≤ y2 then (some ((1 : Int32), st)) else (if (st.1 20 5) = (19 : Int32) then (br (fX7_step st) (fun s4 => bw (g p1 s4) (fun x7 s6 => if x7 = 0 then (some ((0 : Int32), s6)) else (br (s6.2.2 40 1) (fun r9 => gd (okRb L r9) (br (fX4_put r9 (-19 : Int32) s6) (fun s13 => nm (y2 + (1 : Int32)) (fun x14 => (fX5_readPart_L12 L g p1 n) x14 s13)))))))) else (some ((1 : Int32), st)))
set_option maxRecDepth 100000 in
theorem wX5_readPart_L12 {kg : Nat} {p : Program} {l : Launch} {e : Env} {s : State} {m : MethodId} {args : Array Value} {below : List Frame} {meth : Method} {c : Code} {E : Ev} (hL : ∀ k, fxC k = true → k ∈ eL E) {L : List Nat} {g : Int32 → St → Option (Int32 × St)} {p1 : Int32} (hLL : L = eL E) (hg : ∀ (st : St) (sz : Nat) (p1 : Int32) (res : Int32 × St), g p1 st = some res → Met l yX5_readFact (.code yX5_readFact cX5_readFact 4 (some .boolean) :: uW) (rmk kg) (va_Pc [.ref (eq E 40), .int p1] (Pre E st sz)) (QWi E res.2 sz res.1) 0 0 (Af E sz)) {sz : Nat} {res : (Int32 × St)} (X : CX p s m args c E RX5 cX5_readPart 3 (Af E sz)) (hr : meth.sig.returnType = (some .boolean)) (hlk : meth.locks = false) : ∀ (n : Nat) (y2 : Int32) (st : St) (H : Heap) (locs : List Loc), fX5_readPart_L12 L g p1  n y2 st = some res → Gd E st (Af E sz) s H locs → ∀ ls : Array Slot, lv_has ls 3 [(0, .ref (eq E 40)), (1, .int p1), (2, .int y2)] → W p l e (rmk (kg + 3)) s m args below meth c H locs 0 0 (MQ below (QWi E res.2 sz res.1) args s 0 0 (Af E sz)) (F0 m 12 ls []) := by
  have hx := X.1.1
  have hb := X.1.2.1
  intro n
  induction n with
  | zero =>
    intro y2 st H locs hf G ls hl
    cases (show (none : Option (Int32 × St)) = some res from hf)
  | succ n ih =>
    intro y2 st H locs hf G ls hl
    rw [fX5_readPart_L12] at hf
    refine lv_iload_n hx hb dX5_readPart_12 rfl (lv_at hl 2 rfl) ?_
    refine lv_sipush (v := (400 : Int32)) hx hb dX5_readPart_13 (by decide) ?_
    refine lv_icmp_ge (tgt := 63) hx hb dX5_readPart_16 (by decide) (fun c1 => ?_) (fun c1 => ?_)
    · have hf := it_t hf c1
      refine lv_iconst (v := (1 : Int32)) hx hb dX5_readPart_63 (by decide) ?_
      exact rtWz X hlk G hr rfl (so_i hf) dX5_readPart_64
    · have hf := it_f hf c1
      refine lv_aload_n hx hb dX5_readPart_19 rfl (lv_at hl 0 rfl) ?_
      refine gf5 X G (hL 40 rfl) rfl 0 (by decide) rfl kf_X5_25 iwX5 dX5_readPart_20 ?_
      refine gf7 X G (hL 20 rfl) rfl 5 (by decide) rfl kf_X5_43 iwX7 dX5_readPart_23 ?_
      refine lv_bipush (v := (19 : Int32)) hx hb dX5_readPart_26 (by decide) ?_
      refine lv_icmp_ne (tgt := 63) hx hb dX5_readPart_28 (by decide) (fun c2 => ?_) (fun c2 => ?_)
      · have hf := it_f hf c2
        refine lv_iconst (v := (1 : Int32)) hx hb dX5_readPart_63 (by decide) ?_
        exact rtWz X hlk G hr rfl (so_i hf) dX5_readPart_64
      · have hf := it_t hf c2
        refine lv_aload_n hx hb dX5_readPart_31 rfl (lv_at hl 0 rfl) ?_
        refine gf5 X G (hL 40 rfl) rfl 0 (by decide) rfl kf_X5_25 iwX5 dX5_readPart_32 ?_
        obtain ⟨s4, h3, hf⟩ := br_s hf
        refine cVWv (As := []) (rest := []) X G kc_X5_48 (tX7_step l E st _ hL   h3) (rcv X G (hL 20 rfl) (cO7 rfl) rfl) rfl rfl (rmk_le (by omega) (by decide)) rfl hl.1 rfl (Nat.le_of_ble_eq_true rfl) dX5_readPart_35 ⟨Nat.zero_le _, Nat.zero_le _⟩ (fun H locs G => ?_)
        refine lv_aload_n hx hb dX5_readPart_38 rfl (lv_at hl 0 rfl) ?_
        refine lv_iload_n hx hb dX5_readPart_39 rfl (lv_at hl 1 rfl) ?_
        obtain ⟨x7, s6, h5, hf⟩ := bw_s hf
        refine cVWi (As := [.int p1]) (rest := []) X G kc_X5_67 (hg s4 _  p1 _ h5) (rcv X G (hL 40 rfl) (cO5 rfl) rfl) rfl rfl (rmk_le (by omega) (by decide)) rfl hl.1 rfl (Nat.le_of_ble_eq_true rfl) dX5_readPart_40 ⟨Nat.zero_le _, Nat.zero_le _⟩ (fun H locs G => ?_)
        refine lv_if_ne (tgt := 48) hx hb dX5_readPart_43 (by decide) (fun c8 => ?_) (fun c8 => ?_)
        · have hf := it_f hf c8
          refine lv_aload_n hx hb dX5_readPart_48 rfl (lv_at hl 0 rfl) ?_
          refine gf5 X G (hL 40 rfl) rfl 1 (by decide) rfl kf_X5_12 iwX5 dX5_readPart_49 ?_
          obtain ⟨r9, h10, hf⟩ := br_s hf
          obtain ⟨h11, hf⟩ := gd_s hf
          rw [h10]
          refine lv_bipush (v := (-19 : Int32)) hx hb dX5_readPart_52 (by decide) ?_
          obtain ⟨s13, h12, hf⟩ := br_s hf
          refine cVWv (As := [.int (-19 : Int32)]) (rest := []) X G kc_X5_63 (tX4_put l E s6 _ hL (okRb_s hLL h11) (-19 : Int32) h12) (rcv X G (((okRb_s hLL h11) 0 (by decide)).2 (by decide)) (cO4 ((okRb_s hLL h11) 0 (by decide)).1) rfl) rfl rfl (rmk_le (by omega) (by decide)) rfl hl.1 rfl (Nat.le_of_ble_eq_true rfl) dX5_readPart_54 ⟨Nat.zero_le _, Nat.zero_le _⟩ (fun H locs G => ?_)
          obtain ⟨x14, ex14⟩ : ∃ y : Int32, y = (y2 + (1 : Int32)) := ⟨_, rfl⟩
          have hf := nm_s hf x14 ex14
          refine lv_iinc (k := 2) (v := x14) (lv' := [(2, .int x14), (0, .ref (eq E 40)), (1, .int p1)]) hx hb dX5_readPart_57 hl rfl (by rw [ex14]; rfl) (by decide) rfl (fun ls hl => ?_)
          refine lv_goto (tgt := 12) hx hb dX5_readPart_60 (by decide) ?_
          exact ih x14 s13 _ _ hf G _ (lv_sub hl [1, 2, 0] rfl)
        · have hf := it_t hf c8
          refine lv_iconst (v := (0 : Int32)) hx hb dX5_readPart_46 (by decide) ?_
          exact rtWz X hlk G hr rfl (so_i hf) dX5_readPart_47
def fX5_readPart (L : List Nat) (g : Int32 → St → Option (Int32 × St)) (p1 : Int32) (st : St) : Option (Int32 × St) := bw (g p1 st) (fun x3 s2 => if x3 = 0 then (some ((0 : Int32), s2)) else (fX5_readPart_L12 L g p1 10000 (0 : Int32) s2))
set_option maxRecDepth 100000 in
theorem tX5_readPart {kg : Nat} (l : Launch) (E : Ev) (st : St) (sz : Nat) (hL : ∀ k, fxC k = true → k ∈ eL E) {L : List Nat} {g : Int32 → St → Option (Int32 × St)} (hLL : L = eL E) (hg : ∀ (st : St) (sz : Nat) (p1 : Int32) (res : Int32 × St), g p1 st = some res → Met l yX5_readFact (.code yX5_readFact cX5_readFact 4 (some .boolean) :: uW) (rmk kg) (va_Pc [.ref (eq E 40), .int p1] (Pre E st sz)) (QWi E res.2 sz res.1) 0 0 (Af E sz)) (p1 : Int32) {res : (Int32 × St)} (hf : fX5_readPart L g p1 st = some res) : Met l yX5_readPart (.code yX5_readPart cX5_readPart 3 (some .boolean) :: uW) (rmk (kg + 3)) (va_Pc [.ref (eq E 40), .int p1] (Pre E st sz)) (QWi E res.2 sz res.1) 0 0 (Af E sz) := by
  refine Met_in (by decide) (Nat.le_of_ble_eq_true rfl) ?_
  intro p e s m below meth c X hr hlk hz G ls hl
  have hx := X.1.1
  have hb := X.1.2.1
  have hl : lv_has ls 3 [(0, .ref (eq E 40)), (1, .int p1)] := hl
  unfold fX5_readPart at hf
  refine lv_aload_n hx hb dX5_readPart_0 rfl (lv_at hl 0 rfl) ?_
  refine lv_iload_n hx hb dX5_readPart_1 rfl (lv_at hl 1 rfl) ?_
  obtain ⟨x3, s2, h1, hf⟩ := bw_s hf
  refine cVWi (As := [.int p1]) (rest := []) X G kc_X5_67 (hg st _  p1 _ h1) (rcv X G (hL 40 rfl) (cO5 rfl) rfl) rfl rfl (rmk_le (by omega) (by decide)) rfl hl.1 rfl (Nat.le_of_ble_eq_true rfl) dX5_readPart_2 ⟨Nat.zero_le _, Nat.zero_le _⟩ (fun H locs G => ?_)
  refine lv_if_ne (tgt := 10) hx hb dX5_readPart_5 (by decide) (fun c4 => ?_) (fun c4 => ?_)
  · have hf := it_f hf c4
    refine lv_iconst (v := (0 : Int32)) hx hb dX5_readPart_10 (by decide) ?_
    refine lv_istore_n (lv' := [(2, .int (0 : Int32)), (0, .ref (eq E 40)), (1, .int p1)]) hx hb dX5_readPart_11 rfl hl (by decide) rfl (fun ls hl => ?_)
    exact wX5_readPart_L12 hL hLL hg X hr hlk 10000 (0 : Int32) s2 _ _ hf G _ (lv_sub hl [1, 2, 0] rfl)
  · have hf := it_t hf c4
    refine lv_iconst (v := (0 : Int32)) hx hb dX5_readPart_8 (by decide) ?_
    exact rtWz X hlk G hr rfl (so_i hf) dX5_readPart_9
def fX5_readTest_L12 (L : List Nat) (g : Int32 → St → Option (Int32 × St)) (p1 : Int32) : Nat → Int32 → St → Option (Int32 × St)
  | 0, _, _ => none
  | n + 1, y2, st => if (400 : Int32) ≤ y2 then (some ((1 : Int32), st)) else (if (st.1 20 5) = (18 : Int32) then (br (fX7_step st) (fun s4 => bw (fX5_readPart L g p1 s4) (fun x7 s6 => if x7 = 0 then (some ((0 : Int32), s6)) else (br (s6.2.2 40 1) (fun r9 => gd (okRb L r9) (br (fX4_put r9 (-18 : Int32) s6) (fun s13 => nm (y2 + (1 : Int32)) (fun x14 => (fX5_readTest_L12 L g p1 n) x14 s13)))))))) else (some ((1 : Int32), st)))
set_option maxRecDepth 100000 in
theorem wX5_readTest_L12 {kg : Nat} {p : Program} {l : Launch} {e : Env} {s : State} {m : MethodId} {args : Array Value} {below : List Frame} {meth : Method} {c : Code} {E : Ev} (hL : ∀ k, fxC k = true → k ∈ eL E) {L : List Nat} {g : Int32 → St → Option (Int32 × St)} {p1 : Int32} (hLL : L = eL E) (hg : ∀ (st : St) (sz : Nat) (p1 : Int32) (res : Int32 × St), g p1 st = some res → Met l yX5_readFact (.code yX5_readFact cX5_readFact 4 (some .boolean) :: uW) (rmk kg) (va_Pc [.ref (eq E 40), .int p1] (Pre E st sz)) (QWi E res.2 sz res.1) 0 0 (Af E sz)) {sz : Nat} {res : (Int32 × St)} (X : CX p s m args c E RX5 cX5_readTest 3 (Af E sz)) (hr : meth.sig.returnType = (some .boolean)) (hlk : meth.locks = false) : ∀ (n : Nat) (y2 : Int32) (st : St) (H : Heap) (locs : List Loc), fX5_readTest_L12 L g p1  n y2 st = some res → Gd E st (Af E sz) s H locs → ∀ ls : Array Slot, lv_has ls 3 [(0, .ref (eq E 40)), (1, .int p1), (2, .int y2)] → W p l e (rmk (kg + 5)) s m args below meth c H locs 0 0 (MQ below (QWi E res.2 sz res.1) args s 0 0 (Af E sz)) (F0 m 12 ls []) := by
  have hx := X.1.1
  have hb := X.1.2.1
  intro n
  induction n with
  | zero =>
    intro y2 st H locs hf G ls hl
    cases (show (none : Option (Int32 × St)) = some res from hf)
  | succ n ih =>
    intro y2 st H locs hf G ls hl
    rw [fX5_readTest_L12] at hf
    refine lv_iload_n hx hb dX5_readTest_12 rfl (lv_at hl 2 rfl) ?_
    refine lv_sipush (v := (400 : Int32)) hx hb dX5_readTest_13 (by decide) ?_
    refine lv_icmp_ge (tgt := 63) hx hb dX5_readTest_16 (by decide) (fun c1 => ?_) (fun c1 => ?_)
    · have hf := it_t hf c1
      refine lv_iconst (v := (1 : Int32)) hx hb dX5_readTest_63 (by decide) ?_
      exact rtWz X hlk G hr rfl (so_i hf) dX5_readTest_64
    · have hf := it_f hf c1
      refine lv_aload_n hx hb dX5_readTest_19 rfl (lv_at hl 0 rfl) ?_
      refine gf5 X G (hL 40 rfl) rfl 0 (by decide) rfl kf_X5_25 iwX5 dX5_readTest_20 ?_
      refine gf7 X G (hL 20 rfl) rfl 5 (by decide) rfl kf_X5_43 iwX7 dX5_readTest_23 ?_
      refine lv_bipush (v := (18 : Int32)) hx hb dX5_readTest_26 (by decide) ?_
      refine lv_icmp_ne (tgt := 63) hx hb dX5_readTest_28 (by decide) (fun c2 => ?_) (fun c2 => ?_)
      · have hf := it_f hf c2
        refine lv_iconst (v := (1 : Int32)) hx hb dX5_readTest_63 (by decide) ?_
        exact rtWz X hlk G hr rfl (so_i hf) dX5_readTest_64
      · have hf := it_t hf c2
        refine lv_aload_n hx hb dX5_readTest_31 rfl (lv_at hl 0 rfl) ?_
        refine gf5 X G (hL 40 rfl) rfl 0 (by decide) rfl kf_X5_25 iwX5 dX5_readTest_32 ?_
        obtain ⟨s4, h3, hf⟩ := br_s hf
        refine cVWv (As := []) (rest := []) X G kc_X5_48 (tX7_step l E st _ hL   h3) (rcv X G (hL 20 rfl) (cO7 rfl) rfl) rfl rfl (rmk_le (by omega) (by decide)) rfl hl.1 rfl (Nat.le_of_ble_eq_true rfl) dX5_readTest_35 ⟨Nat.zero_le _, Nat.zero_le _⟩ (fun H locs G => ?_)
        refine lv_aload_n hx hb dX5_readTest_38 rfl (lv_at hl 0 rfl) ?_
        refine lv_iload_n hx hb dX5_readTest_39 rfl (lv_at hl 1 rfl) ?_
        obtain ⟨x7, s6, h5, hf⟩ := bw_s hf
        refine cVWi (As := [.int p1]) (rest := []) X G kc_X5_60 (tX5_readPart l E s4 _ hL hLL hg p1 h5) (rcv X G (hL 40 rfl) (cO5 rfl) rfl) rfl rfl (rmk_le (by omega) (by decide)) rfl hl.1 rfl (Nat.le_of_ble_eq_true rfl) dX5_readTest_40 ⟨Nat.zero_le _, Nat.zero_le _⟩ (fun H locs G => ?_)
        refine lv_if_ne (tgt := 48) hx hb dX5_readTest_43 (by decide) (fun c8 => ?_) (fun c8 => ?_)
        · have hf := it_f hf c8
          refine lv_aload_n hx hb dX5_readTest_48 rfl (lv_at hl 0 rfl) ?_
          refine gf5 X G (hL 40 rfl) rfl 1 (by decide) rfl kf_X5_12 iwX5 dX5_readTest_49 ?_
          obtain ⟨r9, h10, hf⟩ := br_s hf
          obtain ⟨h11, hf⟩ := gd_s hf
          rw [h10]
          refine lv_bipush (v := (-18 : Int32)) hx hb dX5_readTest_52 (by decide) ?_
          obtain ⟨s13, h12, hf⟩ := br_s hf
          refine cVWv (As := [.int (-18 : Int32)]) (rest := []) X G kc_X5_63 (tX4_put l E s6 _ hL (okRb_s hLL h11) (-18 : Int32) h12) (rcv X G (((okRb_s hLL h11) 0 (by decide)).2 (by decide)) (cO4 ((okRb_s hLL h11) 0 (by decide)).1) rfl) rfl rfl (rmk_le (by omega) (by decide)) rfl hl.1 rfl (Nat.le_of_ble_eq_true rfl) dX5_readTest_54 ⟨Nat.zero_le _, Nat.zero_le _⟩ (fun H locs G => ?_)
          obtain ⟨x14, ex14⟩ : ∃ y : Int32, y = (y2 + (1 : Int32)) := ⟨_, rfl⟩
          have hf := nm_s hf x14 ex14
          refine lv_iinc (k := 2) (v := x14) (lv' := [(2, .int x14), (0, .ref (eq E 40)), (1, .int p1)]) hx hb dX5_readTest_57 hl rfl (by rw [ex14]; rfl) (by decide) rfl (fun ls hl => ?_)
          refine lv_goto (tgt := 12) hx hb dX5_readTest_60 (by decide) ?_
          exact ih x14 s13 _ _ hf G _ (lv_sub hl [1, 2, 0] rfl)
        · have hf := it_t hf c8
          refine lv_iconst (v := (0 : Int32)) hx hb dX5_readTest_46 (by decide) ?_
          exact rtWz X hlk G hr rfl (so_i hf) dX5_readTest_47
def fX5_readTest (L : List Nat) (g : Int32 → St → Option (Int32 × St)) (p1 : Int32) (st : St) : Option (Int32 × St) := bw (fX5_readPart L g p1 st) (fun x3 s2 => if x3 = 0 then (some ((0 : Int32), s2)) else (fX5_readTest_L12 L g p1 10000 (0 : Int32) s2))
set_option maxRecDepth 100000 in
theorem tX5_readTest {kg : Nat} (l : Launch) (E : Ev) (st : St) (sz : Nat) (hL : ∀ k, fxC k = true → k ∈ eL E) {L : List Nat} {g : Int32 → St → Option (Int32 × St)} (hLL : L = eL E) (hg : ∀ (st : St) (sz : Nat) (p1 : Int32) (res : Int32 × St), g p1 st = some res → Met l yX5_readFact (.code yX5_readFact cX5_readFact 4 (some .boolean) :: uW) (rmk kg) (va_Pc [.ref (eq E 40), .int p1] (Pre E st sz)) (QWi E res.2 sz res.1) 0 0 (Af E sz)) (p1 : Int32) {res : (Int32 × St)} (hf : fX5_readTest L g p1 st = some res) : Met l yX5_readTest (.code yX5_readTest cX5_readTest 3 (some .boolean) :: uW) (rmk (kg + 5)) (va_Pc [.ref (eq E 40), .int p1] (Pre E st sz)) (QWi E res.2 sz res.1) 0 0 (Af E sz) := by
  refine Met_in (by decide) (Nat.le_of_ble_eq_true rfl) ?_
  intro p e s m below meth c X hr hlk hz G ls hl
  have hx := X.1.1
  have hb := X.1.2.1
  have hl : lv_has ls 3 [(0, .ref (eq E 40)), (1, .int p1)] := hl
  unfold fX5_readTest at hf
  refine lv_aload_n hx hb dX5_readTest_0 rfl (lv_at hl 0 rfl) ?_
  refine lv_iload_n hx hb dX5_readTest_1 rfl (lv_at hl 1 rfl) ?_
  obtain ⟨x3, s2, h1, hf⟩ := bw_s hf
  refine cVWi (As := [.int p1]) (rest := []) X G kc_X5_60 (tX5_readPart l E st _ hL hLL hg p1 h1) (rcv X G (hL 40 rfl) (cO5 rfl) rfl) rfl rfl (rmk_le (by omega) (by decide)) rfl hl.1 rfl (Nat.le_of_ble_eq_true rfl) dX5_readTest_2 ⟨Nat.zero_le _, Nat.zero_le _⟩ (fun H locs G => ?_)
  refine lv_if_ne (tgt := 10) hx hb dX5_readTest_5 (by decide) (fun c4 => ?_) (fun c4 => ?_)
  · have hf := it_f hf c4
    refine lv_iconst (v := (0 : Int32)) hx hb dX5_readTest_10 (by decide) ?_
    refine lv_istore_n (lv' := [(2, .int (0 : Int32)), (0, .ref (eq E 40)), (1, .int p1)]) hx hb dX5_readTest_11 rfl hl (by decide) rfl (fun ls hl => ?_)
    exact wX5_readTest_L12 hL hLL hg X hr hlk 10000 (0 : Int32) s2 _ _ hf G _ (lv_sub hl [1, 2, 0] rfl)
  · have hf := it_t hf c4
    refine lv_iconst (v := (0 : Int32)) hx hb dX5_readTest_8 (by decide) ?_
    exact rtWz X hlk G hr rfl (so_i hf) dX5_readTest_9
def fX5_readWithin (L : List Nat) (g : Int32 → St → Option (Int32 × St)) (p1 : Int32) (p2 : Int32) (st : St) : Option (Int32 × St) := br (fX7_step st) (fun s2 => if p1 = (20 : Int32) then (bw (g p2 s2) (fun x6 s5 => if x6 = 0 then (some ((0 : Int32), s5)) else (br (s5.2.2 40 1) (fun r8 => gd (okRb L r8) (br (fX4_put r8 (-20 : Int32) s5) (fun s12 => some ((1 : Int32), s12))))))) else (bw (fX5_readTest L g p2 s2) (fun x6 s5 => if x6 = 0 then (some ((0 : Int32), s5)) else (if (s5.1 20 5) = (32 : Int32) then (br (fX7_step s5) (fun s10 => some ((1 : Int32), s10))) else (bw (fX5_fail (0 : Int32) s5) (fun x11 s10 => gd (bz x11) (some (x11, s10))))))))
set_option maxRecDepth 100000 in
theorem tX5_readWithin {kg : Nat} (l : Launch) (E : Ev) (st : St) (sz : Nat) (hL : ∀ k, fxC k = true → k ∈ eL E) {L : List Nat} {g : Int32 → St → Option (Int32 × St)} (hLL : L = eL E) (hg : ∀ (st : St) (sz : Nat) (p1 : Int32) (res : Int32 × St), g p1 st = some res → Met l yX5_readFact (.code yX5_readFact cX5_readFact 4 (some .boolean) :: uW) (rmk kg) (va_Pc [.ref (eq E 40), .int p1] (Pre E st sz)) (QWi E res.2 sz res.1) 0 0 (Af E sz)) (p1 : Int32) (p2 : Int32) {res : (Int32 × St)} (hf : fX5_readWithin L g p1 p2 st = some res) : Met l yX5_readWithin (.code yX5_readWithin cX5_readWithin 3 (some .boolean) :: uW) (rmk (kg + 7)) (va_Pc [.ref (eq E 40), .int p1, .int p2] (Pre E st sz)) (QWi E res.2 sz res.1) 0 0 (Af E sz) := by
  refine Met_in (by decide) (Nat.le_of_ble_eq_true rfl) ?_
  intro p e s m below meth c X hr hlk hz G ls hl
  have hx := X.1.1
  have hb := X.1.2.1
  have hl : lv_has ls 3 [(0, .ref (eq E 40)), (1, .int p1), (2, .int p2)] := hl
  unfold fX5_readWithin at hf
  refine lv_aload_n hx hb dX5_readWithin_0 rfl (lv_at hl 0 rfl) ?_
  refine gf5 X G (hL 40 rfl) rfl 0 (by decide) rfl kf_X5_25 iwX5 dX5_readWithin_1 ?_
  obtain ⟨s2, h1, hf⟩ := br_s hf
  refine cVWv (As := []) (rest := []) X G kc_X5_48 (tX7_step l E st _ hL   h1) (rcv X G (hL 20 rfl) (cO7 rfl) rfl) rfl rfl (rmk_le (by omega) (by decide)) rfl hl.1 rfl (Nat.le_of_ble_eq_true rfl) dX5_readWithin_4 ⟨Nat.zero_le _, Nat.zero_le _⟩ (fun H locs G => ?_)
  refine lv_iload_n hx hb dX5_readWithin_7 rfl (lv_at hl 1 rfl) ?_
  refine lv_bipush (v := (20 : Int32)) hx hb dX5_readWithin_8 (by decide) ?_
  refine lv_icmp_ne (tgt := 34) hx hb dX5_readWithin_10 (by decide) (fun c3 => ?_) (fun c3 => ?_)
  · have hf := it_f hf c3
    refine lv_aload_n hx hb dX5_readWithin_34 rfl (lv_at hl 0 rfl) ?_
    refine lv_iload_n hx hb dX5_readWithin_35 rfl (lv_at hl 2 rfl) ?_
    obtain ⟨x6, s5, h4, hf⟩ := bw_s hf
    refine cVWi (As := [.int p2]) (rest := []) X G kc_X5_51 (tX5_readTest l E s2 _ hL hLL hg p2 h4) (rcv X G (hL 40 rfl) (cO5 rfl) rfl) rfl rfl (rmk_le (by omega) (by decide)) rfl hl.1 rfl (Nat.le_of_ble_eq_true rfl) dX5_readWithin_36 ⟨Nat.zero_le _, Nat.zero_le _⟩ (fun H locs G => ?_)
    refine lv_if_ne (tgt := 44) hx hb dX5_readWithin_39 (by decide) (fun c7 => ?_) (fun c7 => ?_)
    · have hf := it_f hf c7
      refine lv_aload_n hx hb dX5_readWithin_44 rfl (lv_at hl 0 rfl) ?_
      refine gf5 X G (hL 40 rfl) rfl 0 (by decide) rfl kf_X5_25 iwX5 dX5_readWithin_45 ?_
      refine gf7 X G (hL 20 rfl) rfl 5 (by decide) rfl kf_X5_43 iwX7 dX5_readWithin_48 ?_
      refine lv_bipush (v := (32 : Int32)) hx hb dX5_readWithin_51 (by decide) ?_
      refine lv_icmp_eq (tgt := 62) hx hb dX5_readWithin_53 (by decide) (fun c8 => ?_) (fun c8 => ?_)
      · have hf := it_t hf c8
        refine lv_aload_n hx hb dX5_readWithin_62 rfl (lv_at hl 0 rfl) ?_
        refine gf5 X G (hL 40 rfl) rfl 0 (by decide) rfl kf_X5_25 iwX5 dX5_readWithin_63 ?_
        obtain ⟨s10, h9, hf⟩ := br_s hf
        refine cVWv (As := []) (rest := []) X G kc_X5_48 (tX7_step l E s5 _ hL   h9) (rcv X G (hL 20 rfl) (cO7 rfl) rfl) rfl rfl (rmk_le (by omega) (by decide)) rfl hl.1 rfl (Nat.le_of_ble_eq_true rfl) dX5_readWithin_66 ⟨Nat.zero_le _, Nat.zero_le _⟩ (fun H locs G => ?_)
        refine lv_iconst (v := (1 : Int32)) hx hb dX5_readWithin_69 (by decide) ?_
        exact rtWz X hlk G hr rfl (so_i hf) dX5_readWithin_70
      · have hf := it_f hf c8
        refine lv_aload_n hx hb dX5_readWithin_56 rfl (lv_at hl 0 rfl) ?_
        refine lv_iconst (v := (0 : Int32)) hx hb dX5_readWithin_57 (by decide) ?_
        obtain ⟨x11, s10, h9, hf⟩ := bw_s hf
        refine cVWi (As := [.int (0 : Int32)]) (rest := []) X G kc_X5_57 (tX5_fail l E s5 _ hL  (0 : Int32) h9) (rcv X G (hL 40 rfl) (cO5 rfl) rfl) rfl rfl (rmk_le (by omega) (by decide)) rfl hl.1 rfl (Nat.le_of_ble_eq_true rfl) dX5_readWithin_58 ⟨Nat.zero_le _, Nat.zero_le _⟩ (fun H locs G => ?_)
        obtain ⟨h12, hf⟩ := gd_s hf
        exact rtWz X hlk G hr (bz_n h12) (so_i hf) dX5_readWithin_61
    · have hf := it_t hf c7
      refine lv_iconst (v := (0 : Int32)) hx hb dX5_readWithin_42 (by decide) ?_
      exact rtWz X hlk G hr rfl (so_i hf) dX5_readWithin_43
  · have hf := it_t hf c3
    refine lv_aload_n hx hb dX5_readWithin_13 rfl (lv_at hl 0 rfl) ?_
    refine lv_iload_n hx hb dX5_readWithin_14 rfl (lv_at hl 2 rfl) ?_
    obtain ⟨x6, s5, h4, hf⟩ := bw_s hf
    refine cVWi (As := [.int p2]) (rest := []) X G kc_X5_67 (hg s2 _  p2 _ h4) (rcv X G (hL 40 rfl) (cO5 rfl) rfl) rfl rfl (rmk_le (by omega) (by decide)) rfl hl.1 rfl (Nat.le_of_ble_eq_true rfl) dX5_readWithin_15 ⟨Nat.zero_le _, Nat.zero_le _⟩ (fun H locs G => ?_)
    refine lv_if_ne (tgt := 23) hx hb dX5_readWithin_18 (by decide) (fun c7 => ?_) (fun c7 => ?_)
    · have hf := it_f hf c7
      refine lv_aload_n hx hb dX5_readWithin_23 rfl (lv_at hl 0 rfl) ?_
      refine gf5 X G (hL 40 rfl) rfl 1 (by decide) rfl kf_X5_12 iwX5 dX5_readWithin_24 ?_
      obtain ⟨r8, h9, hf⟩ := br_s hf
      obtain ⟨h10, hf⟩ := gd_s hf
      rw [h9]
      refine lv_bipush (v := (-20 : Int32)) hx hb dX5_readWithin_27 (by decide) ?_
      obtain ⟨s12, h11, hf⟩ := br_s hf
      refine cVWv (As := [.int (-20 : Int32)]) (rest := []) X G kc_X5_63 (tX4_put l E s5 _ hL (okRb_s hLL h10) (-20 : Int32) h11) (rcv X G (((okRb_s hLL h10) 0 (by decide)).2 (by decide)) (cO4 ((okRb_s hLL h10) 0 (by decide)).1) rfl) rfl rfl (rmk_le (by omega) (by decide)) rfl hl.1 rfl (Nat.le_of_ble_eq_true rfl) dX5_readWithin_29 ⟨Nat.zero_le _, Nat.zero_le _⟩ (fun H locs G => ?_)
      refine lv_iconst (v := (1 : Int32)) hx hb dX5_readWithin_32 (by decide) ?_
      exact rtWz X hlk G hr rfl (so_i hf) dX5_readWithin_33
    · have hf := it_t hf c7
      refine lv_iconst (v := (0 : Int32)) hx hb dX5_readWithin_21 (by decide) ?_
      exact rtWz X hlk G hr rfl (so_i hf) dX5_readWithin_22
