theorem dX10_in_0 : decode cX10_in 0 = .ok (.lload_n 0, 1) := by decide +kernel
theorem dX10_in_1 : decode cX10_in 1 = .ok (.lload_n 2, 1) := by decide +kernel
theorem dX10_in_2 : decode cX10_in 2 = .ok (.lcmp, 1) := by decide +kernel
theorem dX10_in_3 : decode cX10_in 3 = .ok (.ifCond .lt 14, 3) := by decide +kernel
theorem dX10_in_6 : decode cX10_in 6 = .ok (.lload_n 0, 1) := by decide +kernel
theorem dX10_in_7 : decode cX10_in 7 = .ok (.lload 4, 2) := by decide +kernel
theorem dX10_in_9 : decode cX10_in 9 = .ok (.lcmp, 1) := by decide +kernel
theorem dX10_in_10 : decode cX10_in 10 = .ok (.ifCond .gt 7, 3) := by decide +kernel
theorem dX10_in_13 : decode cX10_in 13 = .ok (.iconst 1, 1) := by decide +kernel
theorem dX10_in_14 : decode cX10_in 14 = .ok (.goto 4, 3) := by decide +kernel
theorem dX10_in_17 : decode cX10_in 17 = .ok (.iconst 0, 1) := by decide +kernel
theorem dX10_in_18 : decode cX10_in 18 = .ok (.ireturn, 1) := by decide +kernel
theorem dX10_bits_0 : decode cX10_bits 0 = .ok (.iconst 0, 1) := by decide +kernel
theorem dX10_bits_1 : decode cX10_bits 1 = .ok (.istore_n 1, 1) := by decide +kernel
theorem dX10_bits_2 : decode cX10_bits 2 = .ok (.iconst 0, 1) := by decide +kernel
theorem dX10_bits_3 : decode cX10_bits 3 = .ok (.istore_n 2, 1) := by decide +kernel
theorem dX10_bits_4 : decode cX10_bits 4 = .ok (.iload_n 2, 1) := by decide +kernel
theorem dX10_bits_5 : decode cX10_bits 5 = .ok (.bipush 16, 2) := by decide +kernel
theorem dX10_bits_7 : decode cX10_bits 7 = .ok (.if_icmp .ge 17, 3) := by decide +kernel
theorem dX10_bits_10 : decode cX10_bits 10 = .ok (.iload_n 1, 1) := by decide +kernel
theorem dX10_bits_11 : decode cX10_bits 11 = .ok (.iload_n 0, 1) := by decide +kernel
theorem dX10_bits_12 : decode cX10_bits 12 = .ok (.iload_n 2, 1) := by decide +kernel
theorem dX10_bits_13 : decode cX10_bits 13 = .ok (.ishr, 1) := by decide +kernel
theorem dX10_bits_14 : decode cX10_bits 14 = .ok (.iconst 1, 1) := by decide +kernel
theorem dX10_bits_15 : decode cX10_bits 15 = .ok (.iand, 1) := by decide +kernel
theorem dX10_bits_16 : decode cX10_bits 16 = .ok (.iadd, 1) := by decide +kernel
theorem dX10_bits_17 : decode cX10_bits 17 = .ok (.istore_n 1, 1) := by decide +kernel
theorem dX10_bits_18 : decode cX10_bits 18 = .ok (.iinc 2 1, 3) := by decide +kernel
theorem dX10_bits_21 : decode cX10_bits 21 = .ok (.goto (-17), 3) := by decide +kernel
theorem dX10_bits_24 : decode cX10_bits 24 = .ok (.iload_n 1, 1) := by decide +kernel
theorem dX10_bits_25 : decode cX10_bits 25 = .ok (.ireturn, 1) := by decide +kernel
theorem dX10_has_0 : decode cX10_has 0 = .ok (.iload_n 0, 1) := by decide +kernel
theorem dX10_has_1 : decode cX10_has 1 = .ok (.iload_n 1, 1) := by decide +kernel
theorem dX10_has_2 : decode cX10_has 2 = .ok (.ishr, 1) := by decide +kernel
theorem dX10_has_3 : decode cX10_has 3 = .ok (.iconst 1, 1) := by decide +kernel
theorem dX10_has_4 : decode cX10_has 4 = .ok (.iand, 1) := by decide +kernel
theorem dX10_has_5 : decode cX10_has 5 = .ok (.iconst 1, 1) := by decide +kernel
theorem dX10_has_6 : decode cX10_has 6 = .ok (.if_icmp .ne 7, 3) := by decide +kernel
theorem dX10_has_9 : decode cX10_has 9 = .ok (.iconst 1, 1) := by decide +kernel
theorem dX10_has_10 : decode cX10_has 10 = .ok (.goto 4, 3) := by decide +kernel
theorem dX10_has_13 : decode cX10_has 13 = .ok (.iconst 0, 1) := by decide +kernel
theorem dX10_has_14 : decode cX10_has 14 = .ok (.ireturn, 1) := by decide +kernel
theorem dX10_isHouse_0 : decode cX10_isHouse 0 = .ok (.iload_n 1, 1) := by decide +kernel
theorem dX10_isHouse_1 : decode cX10_isHouse 1 = .ok (.i2l, 1) := by decide +kernel
theorem dX10_isHouse_2 : decode cX10_isHouse 2 = .ok (.lconst 0, 1) := by decide +kernel
theorem dX10_isHouse_3 : decode cX10_isHouse 3 = .ok (.aload_n 0, 1) := by decide +kernel
theorem dX10_isHouse_4 : decode cX10_isHouse 4 = .ok (.getfield 9, 3) := by decide +kernel
theorem dX10_isHouse_7 : decode cX10_isHouse 7 = .ok (.iconst 3, 1) := by decide +kernel
theorem dX10_isHouse_8 : decode cX10_isHouse 8 = .ok (.iaload, 1) := by decide +kernel
theorem dX10_isHouse_9 : decode cX10_isHouse 9 = .ok (.iconst 1, 1) := by decide +kernel
theorem dX10_isHouse_10 : decode cX10_isHouse 10 = .ok (.isub, 1) := by decide +kernel
theorem dX10_isHouse_11 : decode cX10_isHouse 11 = .ok (.i2l, 1) := by decide +kernel
theorem dX10_isHouse_12 : decode cX10_isHouse 12 = .ok (.invokestatic 152, 3) := by decide +kernel
theorem dX10_isHouse_15 : decode cX10_isHouse 15 = .ok (.ireturn, 1) := by decide +kernel
theorem dX10_isOfficer_0 : decode cX10_isOfficer 0 = .ok (.iload_n 1, 1) := by decide +kernel
theorem dX10_isOfficer_1 : decode cX10_isOfficer 1 = .ok (.i2l, 1) := by decide +kernel
theorem dX10_isOfficer_2 : decode cX10_isOfficer 2 = .ok (.lconst 0, 1) := by decide +kernel
theorem dX10_isOfficer_3 : decode cX10_isOfficer 3 = .ok (.aload_n 0, 1) := by decide +kernel
theorem dX10_isOfficer_4 : decode cX10_isOfficer 4 = .ok (.getfield 9, 3) := by decide +kernel
theorem dX10_isOfficer_7 : decode cX10_isOfficer 7 = .ok (.iconst 5, 1) := by decide +kernel
theorem dX10_isOfficer_8 : decode cX10_isOfficer 8 = .ok (.iaload, 1) := by decide +kernel
theorem dX10_isOfficer_9 : decode cX10_isOfficer 9 = .ok (.iconst 1, 1) := by decide +kernel
theorem dX10_isOfficer_10 : decode cX10_isOfficer 10 = .ok (.isub, 1) := by decide +kernel
theorem dX10_isOfficer_11 : decode cX10_isOfficer 11 = .ok (.i2l, 1) := by decide +kernel
theorem dX10_isOfficer_12 : decode cX10_isOfficer 12 = .ok (.invokestatic 152, 3) := by decide +kernel
theorem dX10_isOfficer_15 : decode cX10_isOfficer 15 = .ok (.ireturn, 1) := by decide +kernel
theorem dX10_isFrozen_0 : decode cX10_isFrozen 0 = .ok (.aload_n 0, 1) := by decide +kernel
theorem dX10_isFrozen_1 : decode cX10_isFrozen 1 = .ok (.getfield 9, 3) := by decide +kernel
theorem dX10_isFrozen_4 : decode cX10_isFrozen 4 = .ok (.bipush 7, 2) := by decide +kernel
theorem dX10_isFrozen_6 : decode cX10_isFrozen 6 = .ok (.iaload, 1) := by decide +kernel
theorem dX10_isFrozen_7 : decode cX10_isFrozen 7 = .ok (.iload_n 1, 1) := by decide +kernel
theorem dX10_isFrozen_8 : decode cX10_isFrozen 8 = .ok (.invokestatic 156, 3) := by decide +kernel
theorem dX10_isFrozen_11 : decode cX10_isFrozen 11 = .ok (.ireturn, 1) := by decide +kernel
theorem dX10_put_0 : decode cX10_put 0 = .ok (.bipush 24, 2) := by decide +kernel
theorem dX10_put_2 : decode cX10_put 2 = .ok (.istore_n 2, 1) := by decide +kernel
theorem dX10_put_3 : decode cX10_put 3 = .ok (.iload_n 2, 1) := by decide +kernel
theorem dX10_put_4 : decode cX10_put 4 = .ok (.ifCond .lt 32, 3) := by decide +kernel
theorem dX10_put_7 : decode cX10_put 7 = .ok (.aload_n 0, 1) := by decide +kernel
theorem dX10_put_8 : decode cX10_put 8 = .ok (.getfield 95, 3) := by decide +kernel
theorem dX10_put_11 : decode cX10_put 11 = .ok (.aload_n 0, 1) := by decide +kernel
theorem dX10_put_12 : decode cX10_put 12 = .ok (.getfield 160, 3) := by decide +kernel
theorem dX10_put_15 : decode cX10_put 15 = .ok (.iload_n 1, 1) := by decide +kernel
theorem dX10_put_16 : decode cX10_put 16 = .ok (.iload_n 2, 1) := by decide +kernel
theorem dX10_put_17 : decode cX10_put 17 = .ok (.ishr, 1) := by decide +kernel
theorem dX10_put_18 : decode cX10_put 18 = .ok (.i2b, 1) := by decide +kernel
theorem dX10_put_19 : decode cX10_put 19 = .ok (.bastore, 1) := by decide +kernel
theorem dX10_put_20 : decode cX10_put 20 = .ok (.aload_n 0, 1) := by decide +kernel
theorem dX10_put_21 : decode cX10_put 21 = .ok (.dup, 1) := by decide +kernel
theorem dX10_put_22 : decode cX10_put 22 = .ok (.getfield 160, 3) := by decide +kernel
theorem dX10_put_25 : decode cX10_put 25 = .ok (.iconst 1, 1) := by decide +kernel
theorem dX10_put_26 : decode cX10_put 26 = .ok (.iadd, 1) := by decide +kernel
theorem dX10_put_27 : decode cX10_put 27 = .ok (.putfield 160, 3) := by decide +kernel
theorem dX10_put_30 : decode cX10_put 30 = .ok (.iinc 2 (-8), 3) := by decide +kernel
theorem dX10_put_33 : decode cX10_put 33 = .ok (.goto (-30), 3) := by decide +kernel
theorem dX10_put_36 : decode cX10_put 36 = .ok (.return_, 1) := by decide +kernel
theorem dX10_feed_0 : decode cX10_feed 0 = .ok (.aload_n 0, 1) := by decide +kernel
theorem dX10_feed_1 : decode cX10_feed 1 = .ok (.getfield 160, 3) := by decide +kernel
theorem dX10_feed_4 : decode cX10_feed 4 = .ok (.bipush 20, 2) := by decide +kernel
theorem dX10_feed_6 : decode cX10_feed 6 = .ok (.iadd, 1) := by decide +kernel
theorem dX10_feed_7 : decode cX10_feed 7 = .ok (.sipush 400, 3) := by decide +kernel
theorem dX10_feed_10 : decode cX10_feed 10 = .ok (.if_icmp .le 5, 3) := by decide +kernel
theorem dX10_feed_13 : decode cX10_feed 13 = .ok (.iconst (-1), 1) := by decide +kernel
theorem dX10_feed_14 : decode cX10_feed 14 = .ok (.ireturn, 1) := by decide +kernel
theorem dX10_feed_15 : decode cX10_feed 15 = .ok (.aload_n 0, 1) := by decide +kernel
theorem dX10_feed_16 : decode cX10_feed 16 = .ok (.iload_n 1, 1) := by decide +kernel
theorem dX10_feed_17 : decode cX10_feed 17 = .ok (.invokevirtual 163, 3) := by decide +kernel
theorem dX10_feed_20 : decode cX10_feed 20 = .ok (.aload_n 0, 1) := by decide +kernel
theorem dX10_feed_21 : decode cX10_feed 21 = .ok (.iload_n 2, 1) := by decide +kernel
theorem dX10_feed_22 : decode cX10_feed 22 = .ok (.invokevirtual 163, 3) := by decide +kernel
theorem dX10_feed_25 : decode cX10_feed 25 = .ok (.aload_n 0, 1) := by decide +kernel
theorem dX10_feed_26 : decode cX10_feed 26 = .ok (.iload_n 3, 1) := by decide +kernel
theorem dX10_feed_27 : decode cX10_feed 27 = .ok (.invokevirtual 163, 3) := by decide +kernel
theorem dX10_feed_30 : decode cX10_feed 30 = .ok (.aload_n 0, 1) := by decide +kernel
theorem dX10_feed_31 : decode cX10_feed 31 = .ok (.iload 4, 2) := by decide +kernel
theorem dX10_feed_33 : decode cX10_feed 33 = .ok (.invokevirtual 163, 3) := by decide +kernel
theorem dX10_feed_36 : decode cX10_feed 36 = .ok (.aload_n 0, 1) := by decide +kernel
theorem dX10_feed_37 : decode cX10_feed 37 = .ok (.iload 5, 2) := by decide +kernel
theorem dX10_feed_39 : decode cX10_feed 39 = .ok (.invokevirtual 163, 3) := by decide +kernel
theorem dX10_feed_42 : decode cX10_feed 42 = .ok (.aload_n 0, 1) := by decide +kernel
theorem dX10_feed_43 : decode cX10_feed 43 = .ok (.getfield 160, 3) := by decide +kernel
theorem dX10_feed_46 : decode cX10_feed 46 = .ok (.ireturn, 1) := by decide +kernel
theorem dX10_end_0 : decode cX10_end 0 = .ok (.iload_n 1, 1) := by decide +kernel
theorem dX10_end_1 : decode cX10_end 1 = .ok (.ifCond .lt 11, 3) := by decide +kernel
theorem dX10_end_4 : decode cX10_end 4 = .ok (.iload_n 1, 1) := by decide +kernel
theorem dX10_end_5 : decode cX10_end 5 = .ok (.aload_n 0, 1) := by decide +kernel
theorem dX10_end_6 : decode cX10_end 6 = .ok (.getfield 160, 3) := by decide +kernel
theorem dX10_end_9 : decode cX10_end 9 = .ok (.if_icmp .le 5, 3) := by decide +kernel
theorem dX10_end_12 : decode cX10_end 12 = .ok (.iconst (-1), 1) := by decide +kernel
theorem dX10_end_13 : decode cX10_end 13 = .ok (.ireturn, 1) := by decide +kernel
theorem dX10_end_14 : decode cX10_end 14 = .ok (.aload_n 0, 1) := by decide +kernel
theorem dX10_end_15 : decode cX10_end 15 = .ok (.iload_n 1, 1) := by decide +kernel
theorem dX10_end_16 : decode cX10_end 16 = .ok (.putfield 160, 3) := by decide +kernel
theorem dX10_end_19 : decode cX10_end 19 = .ok (.iload_n 1, 1) := by decide +kernel
theorem dX10_end_20 : decode cX10_end 20 = .ok (.ireturn, 1) := by decide +kernel
theorem dX10_wordOf_0 : decode cX10_wordOf 0 = .ok (.iload_n 0, 1) := by decide +kernel
theorem dX10_wordOf_1 : decode cX10_wordOf 1 = .ok (.tableswitch 92 0 10 #[59, 62, 65, 68, 71, 74, 77, 80, 83, 86, 89], 59) := by decide +kernel
theorem dX10_wordOf_60 : decode cX10_wordOf 60 = .ok (.ldc 167, 2) := by decide +kernel
theorem dX10_wordOf_62 : decode cX10_wordOf 62 = .ok (.areturn, 1) := by decide +kernel
theorem dX10_wordOf_63 : decode cX10_wordOf 63 = .ok (.ldc 169, 2) := by decide +kernel
theorem dX10_wordOf_65 : decode cX10_wordOf 65 = .ok (.areturn, 1) := by decide +kernel
theorem dX10_wordOf_66 : decode cX10_wordOf 66 = .ok (.ldc 171, 2) := by decide +kernel
theorem dX10_wordOf_68 : decode cX10_wordOf 68 = .ok (.areturn, 1) := by decide +kernel
theorem dX10_wordOf_69 : decode cX10_wordOf 69 = .ok (.ldc 172, 2) := by decide +kernel
theorem dX10_wordOf_71 : decode cX10_wordOf 71 = .ok (.areturn, 1) := by decide +kernel
theorem dX10_wordOf_72 : decode cX10_wordOf 72 = .ok (.ldc 173, 2) := by decide +kernel
theorem dX10_wordOf_74 : decode cX10_wordOf 74 = .ok (.areturn, 1) := by decide +kernel
theorem dX10_wordOf_75 : decode cX10_wordOf 75 = .ok (.ldc 174, 2) := by decide +kernel
theorem dX10_wordOf_77 : decode cX10_wordOf 77 = .ok (.areturn, 1) := by decide +kernel
theorem dX10_wordOf_78 : decode cX10_wordOf 78 = .ok (.ldc 176, 2) := by decide +kernel
theorem dX10_wordOf_80 : decode cX10_wordOf 80 = .ok (.areturn, 1) := by decide +kernel
theorem dX10_wordOf_81 : decode cX10_wordOf 81 = .ok (.ldc 178, 2) := by decide +kernel
theorem dX10_wordOf_83 : decode cX10_wordOf 83 = .ok (.areturn, 1) := by decide +kernel
theorem dX10_wordOf_84 : decode cX10_wordOf 84 = .ok (.ldc 180, 2) := by decide +kernel
theorem dX10_wordOf_86 : decode cX10_wordOf 86 = .ok (.areturn, 1) := by decide +kernel
theorem dX10_wordOf_87 : decode cX10_wordOf 87 = .ok (.ldc 181, 2) := by decide +kernel
theorem dX10_wordOf_89 : decode cX10_wordOf 89 = .ok (.areturn, 1) := by decide +kernel
theorem dX10_wordOf_90 : decode cX10_wordOf 90 = .ok (.ldc 183, 2) := by decide +kernel
theorem dX10_wordOf_92 : decode cX10_wordOf 92 = .ok (.areturn, 1) := by decide +kernel
theorem dX10_wordOf_93 : decode cX10_wordOf 93 = .ok (.ldc 185, 2) := by decide +kernel
theorem dX10_wordOf_95 : decode cX10_wordOf 95 = .ok (.areturn, 1) := by decide +kernel
theorem dX10_fails_0 : decode cX10_fails 0 = .ok (.aload_n 0, 1) := by decide +kernel
theorem dX10_fails_1 : decode cX10_fails 1 = .ok (.aload_n 0, 1) := by decide +kernel
theorem dX10_fails_2 : decode cX10_fails 2 = .ok (.getfield 187, 3) := by decide +kernel
theorem dX10_fails_5 : decode cX10_fails 5 = .ok (.ifCond .ne 14, 3) := by decide +kernel
theorem dX10_fails_8 : decode cX10_fails 8 = .ok (.iconst 1, 1) := by decide +kernel
theorem dX10_fails_9 : decode cX10_fails 9 = .ok (.bipush 8, 2) := by decide +kernel
theorem dX10_fails_11 : decode cX10_fails 11 = .ok (.iload_n 2, 1) := by decide +kernel
theorem dX10_fails_12 : decode cX10_fails 12 = .ok (.imul, 1) := by decide +kernel
theorem dX10_fails_13 : decode cX10_fails 13 = .ok (.iadd, 1) := by decide +kernel
theorem dX10_fails_14 : decode cX10_fails 14 = .ok (.iload_n 1, 1) := by decide +kernel
theorem dX10_fails_15 : decode cX10_fails 15 = .ok (.iadd, 1) := by decide +kernel
theorem dX10_fails_16 : decode cX10_fails 16 = .ok (.goto 7, 3) := by decide +kernel
theorem dX10_fails_19 : decode cX10_fails 19 = .ok (.aload_n 0, 1) := by decide +kernel
theorem dX10_fails_20 : decode cX10_fails 20 = .ok (.getfield 187, 3) := by decide +kernel
theorem dX10_fails_23 : decode cX10_fails 23 = .ok (.putfield 187, 3) := by decide +kernel
theorem dX10_fails_26 : decode cX10_fails 26 = .ok (.return_, 1) := by decide +kernel
theorem dX10_sign_0 : decode cX10_sign 0 = .ok (.aload_n 0, 1) := by decide +kernel
theorem dX10_sign_1 : decode cX10_sign 1 = .ok (.getfield 190, 3) := by decide +kernel
theorem dX10_sign_4 : decode cX10_sign 4 = .ok (.aload_n 0, 1) := by decide +kernel
theorem dX10_sign_5 : decode cX10_sign 5 = .ok (.getfield 160, 3) := by decide +kernel
theorem dX10_sign_8 : decode cX10_sign 8 = .ok (.if_icmp .ge 19, 3) := by decide +kernel
theorem dX10_sign_11 : decode cX10_sign 11 = .ok (.aload_n 0, 1) := by decide +kernel
theorem dX10_sign_12 : decode cX10_sign 12 = .ok (.getfield 95, 3) := by decide +kernel
theorem dX10_sign_15 : decode cX10_sign 15 = .ok (.aload_n 0, 1) := by decide +kernel
theorem dX10_sign_16 : decode cX10_sign 16 = .ok (.getfield 190, 3) := by decide +kernel
theorem dX10_sign_19 : decode cX10_sign 19 = .ok (.baload, 1) := by decide +kernel
theorem dX10_sign_20 : decode cX10_sign 20 = .ok (.sipush 255, 3) := by decide +kernel
theorem dX10_sign_23 : decode cX10_sign 23 = .ok (.iand, 1) := by decide +kernel
theorem dX10_sign_24 : decode cX10_sign 24 = .ok (.goto 4, 3) := by decide +kernel
theorem dX10_sign_27 : decode cX10_sign 27 = .ok (.iconst (-1), 1) := by decide +kernel
theorem dX10_sign_28 : decode cX10_sign 28 = .ok (.ireturn, 1) := by decide +kernel
theorem dX10_blanks_0 : decode cX10_blanks 0 = .ok (.aload_n 0, 1) := by decide +kernel
theorem dX10_blanks_1 : decode cX10_blanks 1 = .ok (.invokevirtual 193, 3) := by decide +kernel
theorem dX10_blanks_4 : decode cX10_blanks 4 = .ok (.bipush 32, 2) := by decide +kernel
theorem dX10_blanks_6 : decode cX10_blanks 6 = .ok (.if_icmp .ne 16, 3) := by decide +kernel
theorem dX10_blanks_9 : decode cX10_blanks 9 = .ok (.aload_n 0, 1) := by decide +kernel
theorem dX10_blanks_10 : decode cX10_blanks 10 = .ok (.dup, 1) := by decide +kernel
theorem dX10_blanks_11 : decode cX10_blanks 11 = .ok (.getfield 190, 3) := by decide +kernel
theorem dX10_blanks_14 : decode cX10_blanks 14 = .ok (.iconst 1, 1) := by decide +kernel
theorem dX10_blanks_15 : decode cX10_blanks 15 = .ok (.iadd, 1) := by decide +kernel
theorem dX10_blanks_16 : decode cX10_blanks 16 = .ok (.putfield 190, 3) := by decide +kernel
theorem dX10_blanks_19 : decode cX10_blanks 19 = .ok (.goto (-19), 3) := by decide +kernel
theorem dX10_blanks_22 : decode cX10_blanks 22 = .ok (.return_, 1) := by decide +kernel
theorem dX10_isDigit_0 : decode cX10_isDigit 0 = .ok (.aload_n 0, 1) := by decide +kernel
theorem dX10_isDigit_1 : decode cX10_isDigit 1 = .ok (.invokevirtual 193, 3) := by decide +kernel
theorem dX10_isDigit_4 : decode cX10_isDigit 4 = .ok (.i2l, 1) := by decide +kernel
theorem dX10_isDigit_5 : decode cX10_isDigit 5 = .ok (.ldc2_w 197, 3) := by decide +kernel
theorem dX10_isDigit_8 : decode cX10_isDigit 8 = .ok (.ldc2_w 199, 3) := by decide +kernel
theorem dX10_isDigit_11 : decode cX10_isDigit 11 = .ok (.invokestatic 152, 3) := by decide +kernel
theorem dX10_isDigit_14 : decode cX10_isDigit 14 = .ok (.ireturn, 1) := by decide +kernel
theorem dJ0_coder_7d493_0 : decode cJ0_coder_7d493 0 = .ok (.getstatic 38, 3) := by decide +kernel
theorem dJ0_coder_7d493_3 : decode cJ0_coder_7d493 3 = .ok (.ifCond .eq 10, 3) := by decide +kernel
theorem dJ0_coder_7d493_6 : decode cJ0_coder_7d493 6 = .ok (.aload_n 0, 1) := by decide +kernel
theorem dJ0_coder_7d493_7 : decode cJ0_coder_7d493 7 = .ok (.getfield 15, 3) := by decide +kernel
theorem dJ0_coder_7d493_10 : decode cJ0_coder_7d493 10 = .ok (.goto 4, 3) := by decide +kernel
theorem dJ0_coder_7d493_13 : decode cJ0_coder_7d493 13 = .ok (.iconst 1, 1) := by decide +kernel
theorem dJ0_coder_7d493_14 : decode cJ0_coder_7d493 14 = .ok (.ireturn, 1) := by decide +kernel
theorem dJ0_length_8abf5_0 : decode cJ0_length_8abf5 0 = .ok (.aload_n 0, 1) := by decide +kernel
theorem dJ0_length_8abf5_1 : decode cJ0_length_8abf5 1 = .ok (.getfield 9, 3) := by decide +kernel
theorem dJ0_length_8abf5_4 : decode cJ0_length_8abf5 4 = .ok (.arraylength, 1) := by decide +kernel
theorem dJ0_length_8abf5_5 : decode cJ0_length_8abf5 5 = .ok (.aload_n 0, 1) := by decide +kernel
theorem dJ0_length_8abf5_6 : decode cJ0_length_8abf5 6 = .ok (.invokevirtual 335, 3) := by decide +kernel
theorem dJ0_length_8abf5_9 : decode cJ0_length_8abf5 9 = .ok (.ishr, 1) := by decide +kernel
theorem dJ0_length_8abf5_10 : decode cJ0_length_8abf5 10 = .ok (.ireturn, 1) := by decide +kernel
theorem dJ0_isLatin1_aae02_0 : decode cJ0_isLatin1_aae02 0 = .ok (.getstatic 38, 3) := by decide +kernel
theorem dJ0_isLatin1_aae02_3 : decode cJ0_isLatin1_aae02 3 = .ok (.ifCond .eq 14, 3) := by decide +kernel
theorem dJ0_isLatin1_aae02_6 : decode cJ0_isLatin1_aae02 6 = .ok (.aload_n 0, 1) := by decide +kernel
theorem dJ0_isLatin1_aae02_7 : decode cJ0_isLatin1_aae02 7 = .ok (.getfield 15, 3) := by decide +kernel
theorem dJ0_isLatin1_aae02_10 : decode cJ0_isLatin1_aae02 10 = .ok (.ifCond .ne 7, 3) := by decide +kernel
theorem dJ0_isLatin1_aae02_13 : decode cJ0_isLatin1_aae02 13 = .ok (.iconst 1, 1) := by decide +kernel
theorem dJ0_isLatin1_aae02_14 : decode cJ0_isLatin1_aae02 14 = .ok (.goto 4, 3) := by decide +kernel
theorem dJ0_isLatin1_aae02_17 : decode cJ0_isLatin1_aae02 17 = .ok (.iconst 0, 1) := by decide +kernel
theorem dJ0_isLatin1_aae02_18 : decode cJ0_isLatin1_aae02 18 = .ok (.ireturn, 1) := by decide +kernel
theorem dJ3_checkIndex_8e157_0 : decode cJ3_checkIndex_8e157 0 = .ok (.iload_n 0, 1) := by decide +kernel
theorem dJ3_checkIndex_8e157_1 : decode cJ3_checkIndex_8e157 1 = .ok (.ifCond .lt 8, 3) := by decide +kernel
theorem dJ3_checkIndex_8e157_4 : decode cJ3_checkIndex_8e157 4 = .ok (.iload_n 0, 1) := by decide +kernel
theorem dJ3_checkIndex_8e157_5 : decode cJ3_checkIndex_8e157 5 = .ok (.iload_n 1, 1) := by decide +kernel
theorem dJ3_checkIndex_8e157_6 : decode cJ3_checkIndex_8e157 6 = .ok (.if_icmp .lt 10, 3) := by decide +kernel
theorem dJ3_checkIndex_8e157_9 : decode cJ3_checkIndex_8e157 9 = .ok (.aload_n 2, 1) := by decide +kernel
theorem dJ3_checkIndex_8e157_16 : decode cJ3_checkIndex_8e157 16 = .ok (.iload_n 0, 1) := by decide +kernel
theorem dJ3_checkIndex_8e157_17 : decode cJ3_checkIndex_8e157 17 = .ok (.ireturn, 1) := by decide +kernel
theorem dJ0_checkIndex_df160_0 : decode cJ0_checkIndex_df160 0 = .ok (.iload_n 0, 1) := by decide +kernel
theorem dJ0_checkIndex_df160_1 : decode cJ0_checkIndex_df160 1 = .ok (.iload_n 1, 1) := by decide +kernel
theorem dJ0_checkIndex_df160_2 : decode cJ0_checkIndex_df160 2 = .ok (.getstatic 1053, 3) := by decide +kernel
theorem dJ0_checkIndex_df160_5 : decode cJ0_checkIndex_df160 5 = .ok (.invokestatic 1059, 3) := by decide +kernel
theorem dJ0_checkIndex_df160_8 : decode cJ0_checkIndex_df160 8 = .ok (.pop, 1) := by decide +kernel
theorem dJ0_checkIndex_df160_9 : decode cJ0_checkIndex_df160 9 = .ok (.return_, 1) := by decide +kernel
theorem dJ1_charAt_3b067_0 : decode cJ1_charAt_3b067 0 = .ok (.iload_n 1, 1) := by decide +kernel
theorem dJ1_charAt_3b067_1 : decode cJ1_charAt_3b067 1 = .ok (.aload_n 0, 1) := by decide +kernel
theorem dJ1_charAt_3b067_2 : decode cJ1_charAt_3b067 2 = .ok (.arraylength, 1) := by decide +kernel
theorem dJ1_charAt_3b067_3 : decode cJ1_charAt_3b067 3 = .ok (.invokestatic 9, 3) := by decide +kernel
theorem dJ1_charAt_3b067_6 : decode cJ1_charAt_3b067 6 = .ok (.aload_n 0, 1) := by decide +kernel
theorem dJ1_charAt_3b067_7 : decode cJ1_charAt_3b067 7 = .ok (.iload_n 1, 1) := by decide +kernel
theorem dJ1_charAt_3b067_8 : decode cJ1_charAt_3b067 8 = .ok (.baload, 1) := by decide +kernel
theorem dJ1_charAt_3b067_9 : decode cJ1_charAt_3b067 9 = .ok (.sipush 255, 3) := by decide +kernel
theorem dJ1_charAt_3b067_12 : decode cJ1_charAt_3b067 12 = .ok (.iand, 1) := by decide +kernel
theorem dJ1_charAt_3b067_13 : decode cJ1_charAt_3b067 13 = .ok (.i2c, 1) := by decide +kernel
theorem dJ1_charAt_3b067_14 : decode cJ1_charAt_3b067 14 = .ok (.ireturn, 1) := by decide +kernel
theorem dJ0_charAt_5068e_0 : decode cJ0_charAt_5068e 0 = .ok (.aload_n 0, 1) := by decide +kernel
theorem dJ0_charAt_5068e_1 : decode cJ0_charAt_5068e 1 = .ok (.invokevirtual 492, 3) := by decide +kernel
theorem dJ0_charAt_5068e_4 : decode cJ0_charAt_5068e 4 = .ok (.ifCond .eq 12, 3) := by decide +kernel
theorem dJ0_charAt_5068e_7 : decode cJ0_charAt_5068e 7 = .ok (.aload_n 0, 1) := by decide +kernel
theorem dJ0_charAt_5068e_8 : decode cJ0_charAt_5068e 8 = .ok (.getfield 9, 3) := by decide +kernel
theorem dJ0_charAt_5068e_11 : decode cJ0_charAt_5068e 11 = .ok (.iload_n 1, 1) := by decide +kernel
theorem dJ0_charAt_5068e_12 : decode cJ0_charAt_5068e 12 = .ok (.invokestatic 495, 3) := by decide +kernel
theorem dJ0_charAt_5068e_15 : decode cJ0_charAt_5068e 15 = .ok (.ireturn, 1) := by decide +kernel
theorem dJ0_charAt_5068e_16 : decode cJ0_charAt_5068e 16 = .ok (.aload_n 0, 1) := by decide +kernel
theorem dJ0_charAt_5068e_17 : decode cJ0_charAt_5068e 17 = .ok (.getfield 9, 3) := by decide +kernel
theorem dJ0_charAt_5068e_20 : decode cJ0_charAt_5068e 20 = .ok (.iload_n 1, 1) := by decide +kernel
theorem dJ0_charAt_5068e_21 : decode cJ0_charAt_5068e 21 = .ok (.invokestatic 498, 3) := by decide +kernel
theorem dX10_stood_0 : decode cX10_stood 0 = .ok (.aload_n 0, 1) := by decide +kernel
theorem dX10_stood_1 : decode cX10_stood 1 = .ok (.getfield 190, 3) := by decide +kernel
theorem dX10_stood_4 : decode cX10_stood 4 = .ok (.istore_n 2, 1) := by decide +kernel
theorem dX10_stood_5 : decode cX10_stood 5 = .ok (.iload_n 2, 1) := by decide +kernel
theorem dX10_stood_6 : decode cX10_stood 6 = .ok (.aload_n 0, 1) := by decide +kernel
theorem dX10_stood_7 : decode cX10_stood 7 = .ok (.getfield 160, 3) := by decide +kernel
theorem dX10_stood_10 : decode cX10_stood 10 = .ok (.if_icmp .ge 31, 3) := by decide +kernel
theorem dX10_stood_13 : decode cX10_stood 13 = .ok (.aload_n 0, 1) := by decide +kernel
theorem dX10_stood_14 : decode cX10_stood 14 = .ok (.getfield 95, 3) := by decide +kernel
theorem dX10_stood_17 : decode cX10_stood 17 = .ok (.iload_n 2, 1) := by decide +kernel
theorem dX10_stood_18 : decode cX10_stood 18 = .ok (.baload, 1) := by decide +kernel
theorem dX10_stood_19 : decode cX10_stood 19 = .ok (.bipush 97, 2) := by decide +kernel
theorem dX10_stood_21 : decode cX10_stood 21 = .ok (.if_icmp .lt 20, 3) := by decide +kernel
theorem dX10_stood_24 : decode cX10_stood 24 = .ok (.aload_n 0, 1) := by decide +kernel
theorem dX10_stood_25 : decode cX10_stood 25 = .ok (.getfield 95, 3) := by decide +kernel
theorem dX10_stood_28 : decode cX10_stood 28 = .ok (.iload_n 2, 1) := by decide +kernel
theorem dX10_stood_29 : decode cX10_stood 29 = .ok (.baload, 1) := by decide +kernel
theorem dX10_stood_30 : decode cX10_stood 30 = .ok (.bipush 122, 2) := by decide +kernel
theorem dX10_stood_32 : decode cX10_stood 32 = .ok (.if_icmp .gt 9, 3) := by decide +kernel
theorem dX10_stood_35 : decode cX10_stood 35 = .ok (.iinc 2 1, 3) := by decide +kernel
theorem dX10_stood_38 : decode cX10_stood 38 = .ok (.goto (-33), 3) := by decide +kernel
theorem dX10_stood_41 : decode cX10_stood 41 = .ok (.iload_n 2, 1) := by decide +kernel
theorem dX10_stood_42 : decode cX10_stood 42 = .ok (.aload_n 0, 1) := by decide +kernel
theorem dX10_stood_43 : decode cX10_stood 43 = .ok (.getfield 190, 3) := by decide +kernel
theorem dX10_stood_46 : decode cX10_stood 46 = .ok (.isub, 1) := by decide +kernel
theorem dX10_stood_47 : decode cX10_stood 47 = .ok (.aload_n 1, 1) := by decide +kernel
theorem dX10_stood_48 : decode cX10_stood 48 = .ok (.invokevirtual 201, 3) := by decide +kernel
theorem dX10_stood_51 : decode cX10_stood 51 = .ok (.if_icmp .ne 7, 3) := by decide +kernel
theorem dX10_stood_54 : decode cX10_stood 54 = .ok (.iconst 1, 1) := by decide +kernel
theorem dX10_stood_55 : decode cX10_stood 55 = .ok (.goto 4, 3) := by decide +kernel
theorem dX10_stood_58 : decode cX10_stood 58 = .ok (.iconst 0, 1) := by decide +kernel
theorem dX10_stood_59 : decode cX10_stood 59 = .ok (.istore_n 3, 1) := by decide +kernel
theorem dX10_stood_60 : decode cX10_stood 60 = .ok (.iconst 0, 1) := by decide +kernel
theorem dX10_stood_61 : decode cX10_stood 61 = .ok (.istore 4, 2) := by decide +kernel
theorem dX10_stood_63 : decode cX10_stood 63 = .ok (.iload 4, 2) := by decide +kernel
theorem dX10_stood_65 : decode cX10_stood 65 = .ok (.aload_n 1, 1) := by decide +kernel
theorem dX10_stood_66 : decode cX10_stood 66 = .ok (.invokevirtual 201, 3) := by decide +kernel
theorem dX10_stood_69 : decode cX10_stood 69 = .ok (.if_icmp .ge 40, 3) := by decide +kernel
theorem dX10_stood_72 : decode cX10_stood 72 = .ok (.iload_n 3, 1) := by decide +kernel
theorem dX10_stood_73 : decode cX10_stood 73 = .ok (.ifCond .eq 36, 3) := by decide +kernel
theorem dX10_stood_76 : decode cX10_stood 76 = .ok (.aload_n 0, 1) := by decide +kernel
theorem dX10_stood_77 : decode cX10_stood 77 = .ok (.getfield 95, 3) := by decide +kernel
theorem dX10_stood_80 : decode cX10_stood 80 = .ok (.aload_n 0, 1) := by decide +kernel
theorem dX10_stood_81 : decode cX10_stood 81 = .ok (.getfield 190, 3) := by decide +kernel
theorem dX10_stood_84 : decode cX10_stood 84 = .ok (.iload 4, 2) := by decide +kernel
theorem dX10_stood_86 : decode cX10_stood 86 = .ok (.iadd, 1) := by decide +kernel
theorem dX10_stood_87 : decode cX10_stood 87 = .ok (.baload, 1) := by decide +kernel
theorem dX10_stood_88 : decode cX10_stood 88 = .ok (.aload_n 1, 1) := by decide +kernel
theorem dX10_stood_89 : decode cX10_stood 89 = .ok (.iload 4, 2) := by decide +kernel
theorem dX10_stood_91 : decode cX10_stood 91 = .ok (.invokevirtual 206, 3) := by decide +kernel
theorem dX10_stood_94 : decode cX10_stood 94 = .ok (.if_icmp .ne 7, 3) := by decide +kernel
theorem dX10_stood_97 : decode cX10_stood 97 = .ok (.iconst 1, 1) := by decide +kernel
theorem dX10_stood_98 : decode cX10_stood 98 = .ok (.goto 4, 3) := by decide +kernel
theorem dX10_stood_101 : decode cX10_stood 101 = .ok (.iconst 0, 1) := by decide +kernel
theorem dX10_stood_102 : decode cX10_stood 102 = .ok (.istore_n 3, 1) := by decide +kernel
theorem dX10_stood_103 : decode cX10_stood 103 = .ok (.iinc 4 1, 3) := by decide +kernel
theorem dX10_stood_106 : decode cX10_stood 106 = .ok (.goto (-43), 3) := by decide +kernel
theorem dX10_stood_109 : decode cX10_stood 109 = .ok (.iload_n 3, 1) := by decide +kernel
theorem dX10_stood_110 : decode cX10_stood 110 = .ok (.ireturn, 1) := by decide +kernel
theorem dX10_takes_0 : decode cX10_takes 0 = .ok (.aload_n 0, 1) := by decide +kernel
theorem dX10_takes_1 : decode cX10_takes 1 = .ok (.invokevirtual 210, 3) := by decide +kernel
theorem dX10_takes_4 : decode cX10_takes 4 = .ok (.aload_n 0, 1) := by decide +kernel
theorem dX10_takes_5 : decode cX10_takes 5 = .ok (.aload_n 1, 1) := by decide +kernel
theorem dX10_takes_6 : decode cX10_takes 6 = .ok (.invokevirtual 213, 3) := by decide +kernel
theorem dX10_takes_9 : decode cX10_takes 9 = .ok (.istore_n 2, 1) := by decide +kernel
theorem dX10_takes_10 : decode cX10_takes 10 = .ok (.aload_n 0, 1) := by decide +kernel
theorem dX10_takes_11 : decode cX10_takes 11 = .ok (.dup, 1) := by decide +kernel
theorem dX10_takes_12 : decode cX10_takes 12 = .ok (.getfield 190, 3) := by decide +kernel
theorem dX10_takes_15 : decode cX10_takes 15 = .ok (.iload_n 2, 1) := by decide +kernel
theorem dX10_takes_16 : decode cX10_takes 16 = .ok (.ifCond .eq 10, 3) := by decide +kernel
theorem dX10_takes_19 : decode cX10_takes 19 = .ok (.aload_n 1, 1) := by decide +kernel
theorem dX10_takes_20 : decode cX10_takes 20 = .ok (.invokevirtual 201, 3) := by decide +kernel
theorem dX10_takes_23 : decode cX10_takes 23 = .ok (.goto 4, 3) := by decide +kernel
theorem dX10_takes_26 : decode cX10_takes 26 = .ok (.iconst 0, 1) := by decide +kernel
theorem dX10_takes_27 : decode cX10_takes 27 = .ok (.iadd, 1) := by decide +kernel
theorem dX10_takes_28 : decode cX10_takes 28 = .ok (.putfield 190, 3) := by decide +kernel
theorem dX10_takes_31 : decode cX10_takes 31 = .ok (.iload_n 2, 1) := by decide +kernel
theorem dX10_takes_32 : decode cX10_takes 32 = .ok (.ireturn, 1) := by decide +kernel
theorem dX10_entry_0 : decode cX10_entry 0 = .ok (.aload_n 0, 1) := by decide +kernel
theorem dX10_entry_1 : decode cX10_entry 1 = .ok (.getfield 187, 3) := by decide +kernel
theorem dX10_entry_4 : decode cX10_entry 4 = .ok (.ifCond .ne 51, 3) := by decide +kernel
theorem dX10_entry_7 : decode cX10_entry 7 = .ok (.aload_n 0, 1) := by decide +kernel
theorem dX10_entry_8 : decode cX10_entry 8 = .ok (.getfield 99, 3) := by decide +kernel
theorem dX10_entry_11 : decode cX10_entry 11 = .ok (.sipush 300, 3) := by decide +kernel
theorem dX10_entry_14 : decode cX10_entry 14 = .ok (.aload_n 0, 1) := by decide +kernel
theorem dX10_entry_15 : decode cX10_entry 15 = .ok (.getfield 217, 3) := by decide +kernel
theorem dX10_entry_18 : decode cX10_entry 18 = .ok (.imul, 1) := by decide +kernel
theorem dX10_entry_19 : decode cX10_entry 19 = .ok (.aload_n 0, 1) := by decide +kernel
theorem dX10_entry_20 : decode cX10_entry 20 = .ok (.getfield 220, 3) := by decide +kernel
theorem dX10_entry_23 : decode cX10_entry 23 = .ok (.iadd, 1) := by decide +kernel
theorem dX10_entry_24 : decode cX10_entry 24 = .ok (.iload_n 1, 1) := by decide +kernel
theorem dX10_entry_25 : decode cX10_entry 25 = .ok (.iastore, 1) := by decide +kernel
theorem dX10_entry_26 : decode cX10_entry 26 = .ok (.aload_n 0, 1) := by decide +kernel
theorem dX10_entry_27 : decode cX10_entry 27 = .ok (.getfield 102, 3) := by decide +kernel
theorem dX10_entry_30 : decode cX10_entry 30 = .ok (.sipush 300, 3) := by decide +kernel
theorem dX10_entry_33 : decode cX10_entry 33 = .ok (.aload_n 0, 1) := by decide +kernel
theorem dX10_entry_34 : decode cX10_entry 34 = .ok (.getfield 217, 3) := by decide +kernel
theorem dX10_entry_37 : decode cX10_entry 37 = .ok (.imul, 1) := by decide +kernel
theorem dX10_entry_38 : decode cX10_entry 38 = .ok (.aload_n 0, 1) := by decide +kernel
theorem dX10_entry_39 : decode cX10_entry 39 = .ok (.getfield 220, 3) := by decide +kernel
theorem dX10_entry_42 : decode cX10_entry 42 = .ok (.iadd, 1) := by decide +kernel
theorem dX10_entry_43 : decode cX10_entry 43 = .ok (.iload_n 2, 1) := by decide +kernel
theorem dX10_entry_44 : decode cX10_entry 44 = .ok (.iastore, 1) := by decide +kernel
theorem dX10_entry_45 : decode cX10_entry 45 = .ok (.aload_n 0, 1) := by decide +kernel
theorem dX10_entry_46 : decode cX10_entry 46 = .ok (.dup, 1) := by decide +kernel
theorem dX10_entry_47 : decode cX10_entry 47 = .ok (.getfield 220, 3) := by decide +kernel
theorem dX10_entry_50 : decode cX10_entry 50 = .ok (.iconst 1, 1) := by decide +kernel
theorem dX10_entry_51 : decode cX10_entry 51 = .ok (.iadd, 1) := by decide +kernel
theorem dX10_entry_52 : decode cX10_entry 52 = .ok (.putfield 220, 3) := by decide +kernel
theorem dX10_entry_55 : decode cX10_entry 55 = .ok (.return_, 1) := by decide +kernel
theorem dX10_isCounted_0 : decode cX10_isCounted 0 = .ok (.aload_n 0, 1) := by decide +kernel
theorem dX10_isCounted_1 : decode cX10_isCounted 1 = .ok (.getfield 223, 3) := by decide +kernel
theorem dX10_isCounted_4 : decode cX10_isCounted 4 = .ok (.bipush 60, 2) := by decide +kernel
theorem dX10_isCounted_6 : decode cX10_isCounted 6 = .ok (.if_icmp .ne 9, 3) := by decide +kernel
theorem dX10_isCounted_9 : decode cX10_isCounted 9 = .ok (.aload_n 0, 1) := by decide +kernel
theorem dX10_isCounted_10 : decode cX10_isCounted 10 = .ok (.iconst 3, 1) := by decide +kernel
theorem dX10_isCounted_11 : decode cX10_isCounted 11 = .ok (.iload_n 1, 1) := by decide +kernel
theorem dX10_isCounted_12 : decode cX10_isCounted 12 = .ok (.invokevirtual 226, 3) := by decide +kernel
theorem dX10_isCounted_15 : decode cX10_isCounted 15 = .ok (.aload_n 0, 1) := by decide +kernel
theorem dX10_isCounted_16 : decode cX10_isCounted 16 = .ok (.dup, 1) := by decide +kernel
theorem dX10_isCounted_17 : decode cX10_isCounted 17 = .ok (.getfield 223, 3) := by decide +kernel
theorem dX10_isCounted_20 : decode cX10_isCounted 20 = .ok (.iconst 1, 1) := by decide +kernel
theorem dX10_isCounted_21 : decode cX10_isCounted 21 = .ok (.iadd, 1) := by decide +kernel
theorem dX10_isCounted_22 : decode cX10_isCounted 22 = .ok (.putfield 223, 3) := by decide +kernel
theorem dX10_isCounted_25 : decode cX10_isCounted 25 = .ok (.return_, 1) := by decide +kernel
theorem dX10_digits_0 : decode cX10_digits 0 = .ok (.aload_n 0, 1) := by decide +kernel
theorem dX10_digits_1 : decode cX10_digits 1 = .ok (.invokevirtual 230, 3) := by decide +kernel
theorem dX10_digits_4 : decode cX10_digits 4 = .ok (.ifCond .ne 14, 3) := by decide +kernel
theorem dX10_digits_7 : decode cX10_digits 7 = .ok (.aload_n 0, 1) := by decide +kernel
theorem dX10_digits_8 : decode cX10_digits 8 = .ok (.iconst 0, 1) := by decide +kernel
theorem dX10_digits_9 : decode cX10_digits 9 = .ok (.aload_n 0, 1) := by decide +kernel
theorem dX10_digits_10 : decode cX10_digits 10 = .ok (.getfield 190, 3) := by decide +kernel
theorem dX10_digits_13 : decode cX10_digits 13 = .ok (.invokevirtual 226, 3) := by decide +kernel
theorem dX10_digits_16 : decode cX10_digits 16 = .ok (.iconst 0, 1) := by decide +kernel
theorem dX10_digits_17 : decode cX10_digits 17 = .ok (.ireturn, 1) := by decide +kernel
theorem dX10_digits_18 : decode cX10_digits 18 = .ok (.aload_n 0, 1) := by decide +kernel
theorem dX10_digits_19 : decode cX10_digits 19 = .ok (.getfield 190, 3) := by decide +kernel
theorem dX10_digits_22 : decode cX10_digits 22 = .ok (.istore_n 2, 1) := by decide +kernel
theorem dX10_digits_23 : decode cX10_digits 23 = .ok (.iconst 0, 1) := by decide +kernel
theorem dX10_digits_24 : decode cX10_digits 24 = .ok (.istore_n 3, 1) := by decide +kernel
theorem dX10_digits_25 : decode cX10_digits 25 = .ok (.aload_n 0, 1) := by decide +kernel
theorem dX10_digits_26 : decode cX10_digits 26 = .ok (.invokevirtual 230, 3) := by decide +kernel
theorem dX10_digits_29 : decode cX10_digits 29 = .ok (.ifCond .eq 43, 3) := by decide +kernel
theorem dX10_digits_32 : decode cX10_digits 32 = .ok (.aload_n 0, 1) := by decide +kernel
theorem dX10_digits_33 : decode cX10_digits 33 = .ok (.getfield 190, 3) := by decide +kernel
theorem dX10_digits_36 : decode cX10_digits 36 = .ok (.iload_n 2, 1) := by decide +kernel
theorem dX10_digits_37 : decode cX10_digits 37 = .ok (.isub, 1) := by decide +kernel
theorem dX10_digits_38 : decode cX10_digits 38 = .ok (.iconst 5, 1) := by decide +kernel
theorem dX10_digits_39 : decode cX10_digits 39 = .ok (.if_icmp .ge 18, 3) := by decide +kernel
theorem dX10_digits_42 : decode cX10_digits 42 = .ok (.bipush 10, 2) := by decide +kernel
theorem dX10_digits_44 : decode cX10_digits 44 = .ok (.iload_n 3, 1) := by decide +kernel
theorem dX10_digits_45 : decode cX10_digits 45 = .ok (.imul, 1) := by decide +kernel
theorem dX10_digits_46 : decode cX10_digits 46 = .ok (.aload_n 0, 1) := by decide +kernel
theorem dX10_digits_47 : decode cX10_digits 47 = .ok (.invokevirtual 193, 3) := by decide +kernel
theorem dX10_digits_50 : decode cX10_digits 50 = .ok (.iadd, 1) := by decide +kernel
theorem dX10_digits_51 : decode cX10_digits 51 = .ok (.bipush 48, 2) := by decide +kernel
theorem dX10_digits_53 : decode cX10_digits 53 = .ok (.isub, 1) := by decide +kernel
theorem dX10_digits_54 : decode cX10_digits 54 = .ok (.goto 4, 3) := by decide +kernel
theorem dX10_digits_57 : decode cX10_digits 57 = .ok (.iload_n 3, 1) := by decide +kernel
theorem dX10_digits_58 : decode cX10_digits 58 = .ok (.istore_n 3, 1) := by decide +kernel
theorem dX10_digits_59 : decode cX10_digits 59 = .ok (.aload_n 0, 1) := by decide +kernel
theorem dX10_digits_60 : decode cX10_digits 60 = .ok (.dup, 1) := by decide +kernel
theorem dX10_digits_61 : decode cX10_digits 61 = .ok (.getfield 190, 3) := by decide +kernel
theorem dX10_digits_64 : decode cX10_digits 64 = .ok (.iconst 1, 1) := by decide +kernel
theorem dX10_digits_65 : decode cX10_digits 65 = .ok (.iadd, 1) := by decide +kernel
theorem dX10_digits_66 : decode cX10_digits 66 = .ok (.putfield 190, 3) := by decide +kernel
theorem dX10_digits_69 : decode cX10_digits 69 = .ok (.goto (-44), 3) := by decide +kernel
theorem dX10_digits_72 : decode cX10_digits 72 = .ok (.aload_n 0, 1) := by decide +kernel
theorem dX10_digits_73 : decode cX10_digits 73 = .ok (.getfield 190, 3) := by decide +kernel
theorem dX10_digits_76 : decode cX10_digits 76 = .ok (.iload_n 2, 1) := by decide +kernel
theorem dX10_digits_77 : decode cX10_digits 77 = .ok (.isub, 1) := by decide +kernel
theorem dX10_digits_78 : decode cX10_digits 78 = .ok (.iconst 5, 1) := by decide +kernel
theorem dX10_digits_79 : decode cX10_digits 79 = .ok (.if_icmp .gt 8, 3) := by decide +kernel
theorem dX10_digits_82 : decode cX10_digits 82 = .ok (.iload_n 3, 1) := by decide +kernel
theorem dX10_digits_83 : decode cX10_digits 83 = .ok (.iload_n 1, 1) := by decide +kernel
theorem dX10_digits_84 : decode cX10_digits 84 = .ok (.if_icmp .le 9, 3) := by decide +kernel
theorem dX10_digits_87 : decode cX10_digits 87 = .ok (.aload_n 0, 1) := by decide +kernel
theorem dX10_digits_88 : decode cX10_digits 88 = .ok (.iconst 1, 1) := by decide +kernel
theorem dX10_digits_89 : decode cX10_digits 89 = .ok (.iload_n 2, 1) := by decide +kernel
theorem dX10_digits_90 : decode cX10_digits 90 = .ok (.invokevirtual 226, 3) := by decide +kernel
theorem dX10_digits_93 : decode cX10_digits 93 = .ok (.iload_n 3, 1) := by decide +kernel
theorem dX10_digits_94 : decode cX10_digits 94 = .ok (.ireturn, 1) := by decide +kernel
theorem dX10_value_0 : decode cX10_value 0 = .ok (.aload_n 0, 1) := by decide +kernel
theorem dX10_value_1 : decode cX10_value 1 = .ok (.invokevirtual 210, 3) := by decide +kernel
theorem dX10_value_4 : decode cX10_value 4 = .ok (.aload_n 0, 1) := by decide +kernel
theorem dX10_value_5 : decode cX10_value 5 = .ok (.getfield 190, 3) := by decide +kernel
theorem dX10_value_8 : decode cX10_value 8 = .ok (.istore_n 1, 1) := by decide +kernel
theorem dX10_value_9 : decode cX10_value 9 = .ok (.aload_n 0, 1) := by decide +kernel
theorem dX10_value_10 : decode cX10_value 10 = .ok (.invokevirtual 230, 3) := by decide +kernel
theorem dX10_value_13 : decode cX10_value 13 = .ok (.ifCond .eq 22, 3) := by decide +kernel
theorem dX10_value_16 : decode cX10_value 16 = .ok (.aload_n 0, 1) := by decide +kernel
theorem dX10_value_17 : decode cX10_value 17 = .ok (.ldc 234, 2) := by decide +kernel
theorem dX10_value_19 : decode cX10_value 19 = .ok (.invokevirtual 235, 3) := by decide +kernel
theorem dX10_value_22 : decode cX10_value 22 = .ok (.istore_n 2, 1) := by decide +kernel
theorem dX10_value_23 : decode cX10_value 23 = .ok (.aload_n 0, 1) := by decide +kernel
theorem dX10_value_24 : decode cX10_value 24 = .ok (.iload_n 1, 1) := by decide +kernel
theorem dX10_value_25 : decode cX10_value 25 = .ok (.invokevirtual 239, 3) := by decide +kernel
theorem dX10_value_28 : decode cX10_value 28 = .ok (.aload_n 0, 1) := by decide +kernel
theorem dX10_value_29 : decode cX10_value 29 = .ok (.iconst 0, 1) := by decide +kernel
theorem dX10_value_30 : decode cX10_value 30 = .ok (.iload_n 2, 1) := by decide +kernel
theorem dX10_value_31 : decode cX10_value 31 = .ok (.invokevirtual 242, 3) := by decide +kernel
theorem dX10_value_34 : decode cX10_value 34 = .ok (.return_, 1) := by decide +kernel
theorem dX10_value_35 : decode cX10_value 35 = .ok (.iconst 0, 1) := by decide +kernel
theorem dX10_value_36 : decode cX10_value 36 = .ok (.istore_n 2, 1) := by decide +kernel
theorem dX10_value_37 : decode cX10_value 37 = .ok (.iload_n 2, 1) := by decide +kernel
theorem dX10_value_38 : decode cX10_value 38 = .ok (.aload_n 0, 1) := by decide +kernel
theorem dX10_value_39 : decode cX10_value 39 = .ok (.getfield 91, 3) := by decide +kernel
theorem dX10_value_42 : decode cX10_value 42 = .ok (.if_icmp .ge 20, 3) := by decide +kernel
theorem dX10_value_45 : decode cX10_value 45 = .ok (.aload_n 0, 1) := by decide +kernel
theorem dX10_value_46 : decode cX10_value 46 = .ok (.iload_n 2, 1) := by decide +kernel
theorem dX10_value_47 : decode cX10_value 47 = .ok (.invokestatic 245, 3) := by decide +kernel
theorem dX10_value_50 : decode cX10_value 50 = .ok (.invokevirtual 213, 3) := by decide +kernel
theorem dX10_value_53 : decode cX10_value 53 = .ok (.ifCond .ne 9, 3) := by decide +kernel
theorem dX10_value_56 : decode cX10_value 56 = .ok (.iinc 2 1, 3) := by decide +kernel
theorem dX10_value_59 : decode cX10_value 59 = .ok (.goto (-22), 3) := by decide +kernel
theorem dX10_value_62 : decode cX10_value 62 = .ok (.iload_n 2, 1) := by decide +kernel
theorem dX10_value_63 : decode cX10_value 63 = .ok (.aload_n 0, 1) := by decide +kernel
theorem dX10_value_64 : decode cX10_value 64 = .ok (.getfield 91, 3) := by decide +kernel
theorem dX10_value_67 : decode cX10_value 67 = .ok (.if_icmp .ne 10, 3) := by decide +kernel
theorem dX10_value_70 : decode cX10_value 70 = .ok (.aload_n 0, 1) := by decide +kernel
theorem dX10_value_71 : decode cX10_value 71 = .ok (.iconst 0, 1) := by decide +kernel
theorem dX10_value_72 : decode cX10_value 72 = .ok (.iload_n 1, 1) := by decide +kernel
theorem dX10_value_73 : decode cX10_value 73 = .ok (.invokevirtual 226, 3) := by decide +kernel
theorem dX10_value_76 : decode cX10_value 76 = .ok (.return_, 1) := by decide +kernel
theorem dX10_value_77 : decode cX10_value 77 = .ok (.aload_n 0, 1) := by decide +kernel
theorem dX10_value_78 : decode cX10_value 78 = .ok (.iload_n 1, 1) := by decide +kernel
theorem dX10_value_79 : decode cX10_value 79 = .ok (.invokevirtual 239, 3) := by decide +kernel
theorem dX10_value_82 : decode cX10_value 82 = .ok (.aload_n 0, 1) := by decide +kernel
theorem dX10_value_83 : decode cX10_value 83 = .ok (.dup, 1) := by decide +kernel
theorem dX10_value_84 : decode cX10_value 84 = .ok (.getfield 190, 3) := by decide +kernel
theorem dX10_value_87 : decode cX10_value 87 = .ok (.iload_n 2, 1) := by decide +kernel
theorem dX10_value_88 : decode cX10_value 88 = .ok (.invokestatic 245, 3) := by decide +kernel
theorem dX10_value_91 : decode cX10_value 91 = .ok (.invokevirtual 201, 3) := by decide +kernel
theorem dX10_value_94 : decode cX10_value 94 = .ok (.iadd, 1) := by decide +kernel
theorem dX10_value_95 : decode cX10_value 95 = .ok (.putfield 190, 3) := by decide +kernel
theorem dX10_value_98 : decode cX10_value 98 = .ok (.aload_n 0, 1) := by decide +kernel
theorem dX10_value_99 : decode cX10_value 99 = .ok (.iconst 1, 1) := by decide +kernel
theorem dX10_value_100 : decode cX10_value 100 = .ok (.iload_n 2, 1) := by decide +kernel
theorem dX10_value_101 : decode cX10_value 101 = .ok (.invokevirtual 242, 3) := by decide +kernel
theorem dX10_value_104 : decode cX10_value 104 = .ok (.return_, 1) := by decide +kernel
theorem dX10_term_0 : decode cX10_term 0 = .ok (.aload_n 0, 1) := by decide +kernel
theorem dX10_term_1 : decode cX10_term 1 = .ok (.invokevirtual 249, 3) := by decide +kernel
theorem dX10_term_4 : decode cX10_term 4 = .ok (.aload_n 0, 1) := by decide +kernel
theorem dX10_term_5 : decode cX10_term 5 = .ok (.invokevirtual 210, 3) := by decide +kernel
theorem dX10_term_8 : decode cX10_term 8 = .ok (.aload_n 0, 1) := by decide +kernel
theorem dX10_term_9 : decode cX10_term 9 = .ok (.getfield 187, 3) := by decide +kernel
theorem dX10_term_12 : decode cX10_term 12 = .ok (.ifCond .ne 88, 3) := by decide +kernel
theorem dX10_term_15 : decode cX10_term 15 = .ok (.aload_n 0, 1) := by decide +kernel
theorem dX10_term_16 : decode cX10_term 16 = .ok (.invokevirtual 193, 3) := by decide +kernel
theorem dX10_term_19 : decode cX10_term 19 = .ok (.bipush 42, 2) := by decide +kernel
theorem dX10_term_21 : decode cX10_term 21 = .ok (.if_icmp .eq 21, 3) := by decide +kernel
theorem dX10_term_24 : decode cX10_term 24 = .ok (.aload_n 0, 1) := by decide +kernel
theorem dX10_term_25 : decode cX10_term 25 = .ok (.invokevirtual 193, 3) := by decide +kernel
theorem dX10_term_28 : decode cX10_term 28 = .ok (.bipush 47, 2) := by decide +kernel
theorem dX10_term_30 : decode cX10_term 30 = .ok (.if_icmp .eq 12, 3) := by decide +kernel
theorem dX10_term_33 : decode cX10_term 33 = .ok (.aload_n 0, 1) := by decide +kernel
theorem dX10_term_34 : decode cX10_term 34 = .ok (.invokevirtual 193, 3) := by decide +kernel
theorem dX10_term_37 : decode cX10_term 37 = .ok (.bipush 37, 2) := by decide +kernel
theorem dX10_term_39 : decode cX10_term 39 = .ok (.if_icmp .ne 61, 3) := by decide +kernel
theorem dX10_term_42 : decode cX10_term 42 = .ok (.aload_n 0, 1) := by decide +kernel
theorem dX10_term_43 : decode cX10_term 43 = .ok (.invokevirtual 193, 3) := by decide +kernel
theorem dX10_term_46 : decode cX10_term 46 = .ok (.bipush 42, 2) := by decide +kernel
theorem dX10_term_48 : decode cX10_term 48 = .ok (.if_icmp .ne 8, 3) := by decide +kernel
theorem dX10_term_51 : decode cX10_term 51 = .ok (.bipush 13, 2) := by decide +kernel
theorem dX10_term_53 : decode cX10_term 53 = .ok (.goto 19, 3) := by decide +kernel
theorem dX10_term_56 : decode cX10_term 56 = .ok (.aload_n 0, 1) := by decide +kernel
theorem dX10_term_57 : decode cX10_term 57 = .ok (.invokevirtual 193, 3) := by decide +kernel
theorem dX10_term_60 : decode cX10_term 60 = .ok (.bipush 47, 2) := by decide +kernel
theorem dX10_term_62 : decode cX10_term 62 = .ok (.if_icmp .ne 8, 3) := by decide +kernel
theorem dX10_term_65 : decode cX10_term 65 = .ok (.bipush 14, 2) := by decide +kernel
theorem dX10_term_67 : decode cX10_term 67 = .ok (.goto 5, 3) := by decide +kernel
theorem dX10_term_70 : decode cX10_term 70 = .ok (.bipush 15, 2) := by decide +kernel
theorem dX10_term_72 : decode cX10_term 72 = .ok (.istore_n 1, 1) := by decide +kernel
theorem dX10_term_73 : decode cX10_term 73 = .ok (.aload_n 0, 1) := by decide +kernel
theorem dX10_term_74 : decode cX10_term 74 = .ok (.dup, 1) := by decide +kernel
theorem dX10_term_75 : decode cX10_term 75 = .ok (.getfield 190, 3) := by decide +kernel
theorem dX10_term_78 : decode cX10_term 78 = .ok (.iconst 1, 1) := by decide +kernel
theorem dX10_term_79 : decode cX10_term 79 = .ok (.iadd, 1) := by decide +kernel
theorem dX10_term_80 : decode cX10_term 80 = .ok (.putfield 190, 3) := by decide +kernel
theorem dX10_term_83 : decode cX10_term 83 = .ok (.aload_n 0, 1) := by decide +kernel
theorem dX10_term_84 : decode cX10_term 84 = .ok (.invokevirtual 249, 3) := by decide +kernel
theorem dX10_term_87 : decode cX10_term 87 = .ok (.aload_n 0, 1) := by decide +kernel
theorem dX10_term_88 : decode cX10_term 88 = .ok (.iload_n 1, 1) := by decide +kernel
theorem dX10_term_89 : decode cX10_term 89 = .ok (.iconst 0, 1) := by decide +kernel
theorem dX10_term_90 : decode cX10_term 90 = .ok (.invokevirtual 242, 3) := by decide +kernel
theorem dX10_term_93 : decode cX10_term 93 = .ok (.aload_n 0, 1) := by decide +kernel
theorem dX10_term_94 : decode cX10_term 94 = .ok (.invokevirtual 210, 3) := by decide +kernel
theorem dX10_term_97 : decode cX10_term 97 = .ok (.goto (-89), 3) := by decide +kernel
theorem dX10_term_100 : decode cX10_term 100 = .ok (.return_, 1) := by decide +kernel
theorem dX10_sum_0 : decode cX10_sum 0 = .ok (.aload_n 0, 1) := by decide +kernel
theorem dX10_sum_1 : decode cX10_sum 1 = .ok (.invokevirtual 252, 3) := by decide +kernel
theorem dX10_sum_4 : decode cX10_sum 4 = .ok (.aload_n 0, 1) := by decide +kernel
theorem dX10_sum_5 : decode cX10_sum 5 = .ok (.getfield 187, 3) := by decide +kernel
theorem dX10_sum_8 : decode cX10_sum 8 = .ok (.ifCond .ne 59, 3) := by decide +kernel
theorem dX10_sum_11 : decode cX10_sum 11 = .ok (.aload_n 0, 1) := by decide +kernel
theorem dX10_sum_12 : decode cX10_sum 12 = .ok (.invokevirtual 193, 3) := by decide +kernel
theorem dX10_sum_15 : decode cX10_sum 15 = .ok (.bipush 43, 2) := by decide +kernel
theorem dX10_sum_17 : decode cX10_sum 17 = .ok (.if_icmp .eq 12, 3) := by decide +kernel
theorem dX10_sum_20 : decode cX10_sum 20 = .ok (.aload_n 0, 1) := by decide +kernel
theorem dX10_sum_21 : decode cX10_sum 21 = .ok (.invokevirtual 193, 3) := by decide +kernel
theorem dX10_sum_24 : decode cX10_sum 24 = .ok (.bipush 45, 2) := by decide +kernel
theorem dX10_sum_26 : decode cX10_sum 26 = .ok (.if_icmp .ne 41, 3) := by decide +kernel
theorem dX10_sum_29 : decode cX10_sum 29 = .ok (.aload_n 0, 1) := by decide +kernel
theorem dX10_sum_30 : decode cX10_sum 30 = .ok (.invokevirtual 193, 3) := by decide +kernel
theorem dX10_sum_33 : decode cX10_sum 33 = .ok (.bipush 43, 2) := by decide +kernel
theorem dX10_sum_35 : decode cX10_sum 35 = .ok (.if_icmp .ne 7, 3) := by decide +kernel
theorem dX10_sum_38 : decode cX10_sum 38 = .ok (.iconst 2, 1) := by decide +kernel
theorem dX10_sum_39 : decode cX10_sum 39 = .ok (.goto 4, 3) := by decide +kernel
theorem dX10_sum_42 : decode cX10_sum 42 = .ok (.iconst 3, 1) := by decide +kernel
theorem dX10_sum_43 : decode cX10_sum 43 = .ok (.istore_n 1, 1) := by decide +kernel
theorem dX10_sum_44 : decode cX10_sum 44 = .ok (.aload_n 0, 1) := by decide +kernel
theorem dX10_sum_45 : decode cX10_sum 45 = .ok (.dup, 1) := by decide +kernel
theorem dX10_sum_46 : decode cX10_sum 46 = .ok (.getfield 190, 3) := by decide +kernel
theorem dX10_sum_49 : decode cX10_sum 49 = .ok (.iconst 1, 1) := by decide +kernel
theorem dX10_sum_50 : decode cX10_sum 50 = .ok (.iadd, 1) := by decide +kernel
theorem dX10_sum_51 : decode cX10_sum 51 = .ok (.putfield 190, 3) := by decide +kernel
theorem dX10_sum_54 : decode cX10_sum 54 = .ok (.aload_n 0, 1) := by decide +kernel
theorem dX10_sum_55 : decode cX10_sum 55 = .ok (.invokevirtual 252, 3) := by decide +kernel
theorem dX10_sum_58 : decode cX10_sum 58 = .ok (.aload_n 0, 1) := by decide +kernel
theorem dX10_sum_59 : decode cX10_sum 59 = .ok (.iload_n 1, 1) := by decide +kernel
theorem dX10_sum_60 : decode cX10_sum 60 = .ok (.iconst 0, 1) := by decide +kernel
theorem dX10_sum_61 : decode cX10_sum 61 = .ok (.invokevirtual 242, 3) := by decide +kernel
theorem dX10_sum_64 : decode cX10_sum 64 = .ok (.goto (-60), 3) := by decide +kernel
theorem dX10_sum_67 : decode cX10_sum 67 = .ok (.return_, 1) := by decide +kernel
theorem dX10_compared_0 : decode cX10_compared 0 = .ok (.aload_n 0, 1) := by decide +kernel
theorem dX10_compared_1 : decode cX10_compared 1 = .ok (.invokevirtual 255, 3) := by decide +kernel
theorem dX10_compared_4 : decode cX10_compared 4 = .ok (.aload_n 0, 1) := by decide +kernel
theorem dX10_compared_5 : decode cX10_compared 5 = .ok (.invokevirtual 193, 3) := by decide +kernel
theorem dX10_compared_8 : decode cX10_compared 8 = .ok (.istore_n 1, 1) := by decide +kernel
theorem dX10_compared_9 : decode cX10_compared 9 = .ok (.iload_n 1, 1) := by decide +kernel
theorem dX10_compared_10 : decode cX10_compared 10 = .ok (.bipush 60, 2) := by decide +kernel
theorem dX10_compared_12 : decode cX10_compared 12 = .ok (.if_icmp .eq 25, 3) := by decide +kernel
theorem dX10_compared_15 : decode cX10_compared 15 = .ok (.iload_n 1, 1) := by decide +kernel
theorem dX10_compared_16 : decode cX10_compared 16 = .ok (.bipush 61, 2) := by decide +kernel
theorem dX10_compared_18 : decode cX10_compared 18 = .ok (.if_icmp .eq 19, 3) := by decide +kernel
theorem dX10_compared_21 : decode cX10_compared 21 = .ok (.iload_n 1, 1) := by decide +kernel
theorem dX10_compared_22 : decode cX10_compared 22 = .ok (.bipush 62, 2) := by decide +kernel
theorem dX10_compared_24 : decode cX10_compared 24 = .ok (.if_icmp .eq 13, 3) := by decide +kernel
theorem dX10_compared_27 : decode cX10_compared 27 = .ok (.aload_n 0, 1) := by decide +kernel
theorem dX10_compared_28 : decode cX10_compared 28 = .ok (.iconst 0, 1) := by decide +kernel
theorem dX10_compared_29 : decode cX10_compared 29 = .ok (.aload_n 0, 1) := by decide +kernel
theorem dX10_compared_30 : decode cX10_compared 30 = .ok (.getfield 190, 3) := by decide +kernel
theorem dX10_compared_33 : decode cX10_compared 33 = .ok (.invokevirtual 226, 3) := by decide +kernel
theorem dX10_compared_36 : decode cX10_compared 36 = .ok (.return_, 1) := by decide +kernel
theorem dX10_compared_37 : decode cX10_compared 37 = .ok (.aload_n 0, 1) := by decide +kernel
theorem dX10_compared_38 : decode cX10_compared 38 = .ok (.aload_n 0, 1) := by decide +kernel
theorem dX10_compared_39 : decode cX10_compared 39 = .ok (.getfield 190, 3) := by decide +kernel
theorem dX10_compared_42 : decode cX10_compared 42 = .ok (.invokevirtual 239, 3) := by decide +kernel
theorem dX10_compared_45 : decode cX10_compared 45 = .ok (.aload_n 0, 1) := by decide +kernel
theorem dX10_compared_46 : decode cX10_compared 46 = .ok (.dup, 1) := by decide +kernel
theorem dX10_compared_47 : decode cX10_compared 47 = .ok (.getfield 190, 3) := by decide +kernel
theorem dX10_compared_50 : decode cX10_compared 50 = .ok (.iconst 1, 1) := by decide +kernel
theorem dX10_compared_51 : decode cX10_compared 51 = .ok (.iadd, 1) := by decide +kernel
theorem dX10_compared_52 : decode cX10_compared 52 = .ok (.putfield 190, 3) := by decide +kernel
theorem dX10_compared_55 : decode cX10_compared 55 = .ok (.iload_n 1, 1) := by decide +kernel
theorem dX10_compared_56 : decode cX10_compared 56 = .ok (.bipush 61, 2) := by decide +kernel
theorem dX10_compared_58 : decode cX10_compared 58 = .ok (.if_icmp .eq 16, 3) := by decide +kernel
theorem dX10_compared_61 : decode cX10_compared 61 = .ok (.aload_n 0, 1) := by decide +kernel
theorem dX10_compared_62 : decode cX10_compared 62 = .ok (.invokevirtual 193, 3) := by decide +kernel
theorem dX10_compared_65 : decode cX10_compared 65 = .ok (.bipush 61, 2) := by decide +kernel
theorem dX10_compared_67 : decode cX10_compared 67 = .ok (.if_icmp .ne 7, 3) := by decide +kernel
theorem dX10_compared_70 : decode cX10_compared 70 = .ok (.iconst 1, 1) := by decide +kernel
theorem dX10_compared_71 : decode cX10_compared 71 = .ok (.goto 4, 3) := by decide +kernel
theorem dX10_compared_74 : decode cX10_compared 74 = .ok (.iconst 0, 1) := by decide +kernel
theorem dX10_compared_75 : decode cX10_compared 75 = .ok (.istore_n 2, 1) := by decide +kernel
theorem dX10_compared_76 : decode cX10_compared 76 = .ok (.aload_n 0, 1) := by decide +kernel
theorem dX10_compared_77 : decode cX10_compared 77 = .ok (.dup, 1) := by decide +kernel
theorem dX10_compared_78 : decode cX10_compared 78 = .ok (.getfield 190, 3) := by decide +kernel
theorem dX10_compared_81 : decode cX10_compared 81 = .ok (.iload_n 2, 1) := by decide +kernel
theorem dX10_compared_82 : decode cX10_compared 82 = .ok (.ifCond .eq 7, 3) := by decide +kernel
theorem dX10_compared_85 : decode cX10_compared 85 = .ok (.iconst 1, 1) := by decide +kernel
theorem dX10_compared_86 : decode cX10_compared 86 = .ok (.goto 4, 3) := by decide +kernel
theorem dX10_compared_89 : decode cX10_compared 89 = .ok (.iconst 0, 1) := by decide +kernel
theorem dX10_compared_90 : decode cX10_compared 90 = .ok (.iadd, 1) := by decide +kernel
theorem dX10_compared_91 : decode cX10_compared 91 = .ok (.putfield 190, 3) := by decide +kernel
theorem dX10_compared_94 : decode cX10_compared 94 = .ok (.aload_n 0, 1) := by decide +kernel
theorem dX10_compared_95 : decode cX10_compared 95 = .ok (.invokevirtual 255, 3) := by decide +kernel
theorem dX10_compared_98 : decode cX10_compared 98 = .ok (.aload_n 0, 1) := by decide +kernel
theorem dX10_compared_99 : decode cX10_compared 99 = .ok (.iload_n 1, 1) := by decide +kernel
theorem dX10_compared_100 : decode cX10_compared 100 = .ok (.bipush 61, 2) := by decide +kernel
theorem dX10_compared_102 : decode cX10_compared 102 = .ok (.if_icmp .ne 8, 3) := by decide +kernel
theorem dX10_compared_105 : decode cX10_compared 105 = .ok (.bipush 6, 2) := by decide +kernel
theorem dX10_compared_107 : decode cX10_compared 107 = .ok (.goto 32, 3) := by decide +kernel
theorem dX10_compared_110 : decode cX10_compared 110 = .ok (.iload_n 1, 1) := by decide +kernel
theorem dX10_compared_111 : decode cX10_compared 111 = .ok (.bipush 60, 2) := by decide +kernel
theorem dX10_compared_113 : decode cX10_compared 113 = .ok (.if_icmp .ne 15, 3) := by decide +kernel
theorem dX10_compared_116 : decode cX10_compared 116 = .ok (.iload_n 2, 1) := by decide +kernel
theorem dX10_compared_117 : decode cX10_compared 117 = .ok (.ifCond .eq 7, 3) := by decide +kernel
theorem dX10_compared_120 : decode cX10_compared 120 = .ok (.iconst 5, 1) := by decide +kernel
theorem dX10_compared_121 : decode cX10_compared 121 = .ok (.goto 18, 3) := by decide +kernel
theorem dX10_compared_124 : decode cX10_compared 124 = .ok (.iconst 4, 1) := by decide +kernel
theorem dX10_compared_125 : decode cX10_compared 125 = .ok (.goto 14, 3) := by decide +kernel
theorem dX10_compared_128 : decode cX10_compared 128 = .ok (.iload_n 2, 1) := by decide +kernel
theorem dX10_compared_129 : decode cX10_compared 129 = .ok (.ifCond .eq 8, 3) := by decide +kernel
theorem dX10_compared_132 : decode cX10_compared 132 = .ok (.bipush 7, 2) := by decide +kernel
theorem dX10_compared_134 : decode cX10_compared 134 = .ok (.goto 5, 3) := by decide +kernel
theorem dX10_compared_137 : decode cX10_compared 137 = .ok (.bipush 8, 2) := by decide +kernel
theorem dX10_compared_139 : decode cX10_compared 139 = .ok (.iconst 0, 1) := by decide +kernel
theorem dX10_compared_140 : decode cX10_compared 140 = .ok (.invokevirtual 242, 3) := by decide +kernel
theorem dX10_compared_143 : decode cX10_compared 143 = .ok (.return_, 1) := by decide +kernel
theorem dX10_top_0 : decode cX10_top 0 = .ok (.aload_n 0, 1) := by decide +kernel
theorem dX10_top_1 : decode cX10_top 1 = .ok (.getfield 258, 3) := by decide +kernel
theorem dX10_top_4 : decode cX10_top 4 = .ok (.ifCond .ne 7, 3) := by decide +kernel
theorem dX10_top_7 : decode cX10_top 7 = .ok (.iconst (-1), 1) := by decide +kernel
theorem dX10_top_8 : decode cX10_top 8 = .ok (.goto 14, 3) := by decide +kernel
theorem dX10_top_11 : decode cX10_top 11 = .ok (.aload_n 0, 1) := by decide +kernel
theorem dX10_top_12 : decode cX10_top 12 = .ok (.getfield 117, 3) := by decide +kernel
theorem dX10_top_15 : decode cX10_top 15 = .ok (.aload_n 0, 1) := by decide +kernel
theorem dX10_top_16 : decode cX10_top 16 = .ok (.getfield 258, 3) := by decide +kernel
theorem dX10_top_19 : decode cX10_top 19 = .ok (.iconst 1, 1) := by decide +kernel
theorem dX10_top_20 : decode cX10_top 20 = .ok (.isub, 1) := by decide +kernel
theorem dX10_top_21 : decode cX10_top 21 = .ok (.iaload, 1) := by decide +kernel
theorem dX10_top_22 : decode cX10_top 22 = .ok (.ireturn, 1) := by decide +kernel
def fX10_in (p1 : Int64) (p2 : Int64) (p3 : Int64) : Option Int32 := if (lg_cmp p1 p2) < 0 then (some (0 : Int32)) else (if 0 < (lg_cmp p1 p3) then (some (0 : Int32)) else (some (1 : Int32)))
set_option maxRecDepth 100000 in
theorem tX10_in (l : Launch) (E : Ev) (st : St) (sz : Nat) (p1 : Int64) (p2 : Int64) (p3 : Int64) {res : Int32} (hf : fX10_in  p1 p2 p3 = some res) : Met l yX10_in (.code yX10_in cX10_in 6 (some .boolean) :: uW) (rmk 0) (va_Pc [.long p1, .long p2, .long p3] (Pre E st sz)) (QRi res) 0 0 (NoF) := by
  refine Met_in (by decide) (Nat.le_of_ble_eq_true rfl) ?_
  intro p e s m below meth c X hr hlk hz G ls hl
  have hx := X.1.1
  have hb := X.1.2.1
  have hl : lv_has ls 6 [(0, .long p1), (2, .long p2), (4, .long p3)] := hl
  unfold fX10_in at hf
  refine lv_lload_n hx hb dX10_in_0 rfl (lv_at hl 0 rfl) ?_
  refine lv_lload_n hx hb dX10_in_1 rfl (lv_at hl 1 rfl) ?_
  refine W.lcmp hx hb dX10_in_2 ?_
  refine lv_if_lt (tgt := 17) hx hb dX10_in_3 (by decide) (fun c1 => ?_) (fun c1 => ?_)
  · have hf := it_t hf c1
    refine lv_iconst (v := (0 : Int32)) hx hb dX10_in_17 (by decide) ?_
    exact rtRz X hlk hr rfl (so_i hf) dX10_in_18
  · have hf := it_f hf c1
    refine lv_lload_n hx hb dX10_in_6 rfl (lv_at hl 0 rfl) ?_
    refine lv_lload hx hb dX10_in_7 (lv_at hl 2 rfl) ?_
    refine W.lcmp hx hb dX10_in_9 ?_
    refine lv_if_gt (tgt := 17) hx hb dX10_in_10 (by decide) (fun c2 => ?_) (fun c2 => ?_)
    · have hf := it_t hf c2
      refine lv_iconst (v := (0 : Int32)) hx hb dX10_in_17 (by decide) ?_
      exact rtRz X hlk hr rfl (so_i hf) dX10_in_18
    · have hf := it_f hf c2
      refine lv_iconst (v := (1 : Int32)) hx hb dX10_in_13 (by decide) ?_
      refine lv_goto (tgt := 18) hx hb dX10_in_14 (by decide) ?_
      exact rtRz X hlk hr rfl (so_i hf) dX10_in_18
def fX10_bits_L4 (p1 : Int32) : Nat → Int32 → Int32 → Option Int32
  | 0, _, _ => none
  | n + 1, y1, y2 => if (16 : Int32) ≤ y2 then (some y1) else (nm (y1 + ((p1 >>> (y2 &&& 31)) &&& (1 : Int32))) (fun x2 => nm (y2 + (1 : Int32)) (fun x3 => (fX10_bits_L4 p1 n) x2 x3)))
set_option maxRecDepth 100000 in
theorem wX10_bits_L4 {p : Program} {l : Launch} {e : Env} {s : State} {m : MethodId} {args : Array Value} {below : List Frame} {meth : Method} {c : Code} {E : Ev} {p1 : Int32} {st : St} {sz : Nat} {res : Int32} (X : CX p s m args c E RX10 cX10_bits 3 (Af E sz)) (hr : meth.sig.returnType = (some .int)) (hlk : meth.locks = false) (G : Gd E st (Af E sz) s s.heap []) : ∀ (n : Nat) (y1 : Int32) (y2 : Int32), fX10_bits_L4 p1  n y1 y2 = some res → ∀ ls : Array Slot, lv_has ls 3 [(0, .int p1), (1, .int y1), (2, .int y2)] → W p l e (rmk 0) s m args below meth c s.heap [] 0 0 (MQ below (QRi res) args s 0 0 (NoF)) (F0 m 4 ls []) := by
  have hx := X.1.1
  have hb := X.1.2.1
  intro n
  induction n with
  | zero =>
    intro y1 y2 hf ls hl
    cases (show (none : Option Int32) = some res from hf)
  | succ n ih =>
    intro y1 y2 hf ls hl
    rw [fX10_bits_L4] at hf
    refine lv_iload_n hx hb dX10_bits_4 rfl (lv_at hl 2 rfl) ?_
    refine lv_bipush (v := (16 : Int32)) hx hb dX10_bits_5 (by decide) ?_
    refine lv_icmp_ge (tgt := 24) hx hb dX10_bits_7 (by decide) (fun c1 => ?_) (fun c1 => ?_)
    · have hf := it_t hf c1
      refine lv_iload_n hx hb dX10_bits_24 rfl (lv_at hl 1 rfl) ?_
      exact rtRi X hlk hr (so_i hf) dX10_bits_25
    · have hf := it_f hf c1
      refine lv_iload_n hx hb dX10_bits_10 rfl (lv_at hl 1 rfl) ?_
      refine lv_iload_n hx hb dX10_bits_11 rfl (lv_at hl 0 rfl) ?_
      refine lv_iload_n hx hb dX10_bits_12 rfl (lv_at hl 2 rfl) ?_
      refine lv_ishr hx hb dX10_bits_13 ?_
      refine lv_iconst (v := (1 : Int32)) hx hb dX10_bits_14 (by decide) ?_
      refine lv_iand hx hb dX10_bits_15 ?_
      refine lv_iadd hx hb dX10_bits_16 ?_
      refine lv_topi (fun x2 ex2 => ?_)
      have hf := nm_s hf x2 ex2
      refine lv_istore_n (lv' := [(1, .int x2), (0, .int p1), (2, .int y2)]) hx hb dX10_bits_17 rfl hl (by decide) rfl (fun ls hl => ?_)
      obtain ⟨x3, ex3⟩ : ∃ y : Int32, y = (y2 + (1 : Int32)) := ⟨_, rfl⟩
      have hf := nm_s hf x3 ex3
      refine lv_iinc (k := 2) (v := x3) (lv' := [(2, .int x3), (1, .int x2), (0, .int p1)]) hx hb dX10_bits_18 hl rfl (by rw [ex3]; rfl) (by decide) rfl (fun ls hl => ?_)
      refine lv_goto (tgt := 4) hx hb dX10_bits_21 (by decide) ?_
      exact ih x2 x3 hf _ (lv_sub hl [2, 1, 0] rfl)
def fX10_bits (p1 : Int32) : Option Int32 := fX10_bits_L4 p1 10000 (0 : Int32) (0 : Int32)
set_option maxRecDepth 100000 in
theorem tX10_bits (l : Launch) (E : Ev) (st : St) (sz : Nat) (p1 : Int32) {res : Int32} (hf : fX10_bits  p1 = some res) : Met l yX10_bits (.code yX10_bits cX10_bits 3 (some .int) :: uW) (rmk 0) (va_Pc [.int p1] (Pre E st sz)) (QRi res) 0 0 (NoF) := by
  refine Met_in (by decide) (Nat.le_of_ble_eq_true rfl) ?_
  intro p e s m below meth c X hr hlk hz G ls hl
  have hx := X.1.1
  have hb := X.1.2.1
  have hl : lv_has ls 3 [(0, .int p1)] := hl
  unfold fX10_bits at hf
  refine lv_iconst (v := (0 : Int32)) hx hb dX10_bits_0 (by decide) ?_
  refine lv_istore_n (lv' := [(1, .int (0 : Int32)), (0, .int p1)]) hx hb dX10_bits_1 rfl hl (by decide) rfl (fun ls hl => ?_)
  refine lv_iconst (v := (0 : Int32)) hx hb dX10_bits_2 (by decide) ?_
  refine lv_istore_n (lv' := [(2, .int (0 : Int32)), (1, .int (0 : Int32)), (0, .int p1)]) hx hb dX10_bits_3 rfl hl (by decide) rfl (fun ls hl => ?_)
  exact wX10_bits_L4 X hr hlk G 10000 (0 : Int32) (0 : Int32) hf _ (lv_sub hl [2, 1, 0] rfl)
def fX10_has (p1 : Int32) (p2 : Int32) : Option Int32 := if ((p1 >>> (p2 &&& 31)) &&& (1 : Int32)) = (1 : Int32) then (some (1 : Int32)) else (some (0 : Int32))
set_option maxRecDepth 100000 in
theorem tX10_has (l : Launch) (E : Ev) (st : St) (sz : Nat) (p1 : Int32) (p2 : Int32) {res : Int32} (hf : fX10_has  p1 p2 = some res) : Met l yX10_has (.code yX10_has cX10_has 2 (some .boolean) :: uW) (rmk 0) (va_Pc [.int p1, .int p2] (Pre E st sz)) (QRi res) 0 0 (NoF) := by
  refine Met_in (by decide) (Nat.le_of_ble_eq_true rfl) ?_
  intro p e s m below meth c X hr hlk hz G ls hl
  have hx := X.1.1
  have hb := X.1.2.1
  have hl : lv_has ls 2 [(0, .int p1), (1, .int p2)] := hl
  unfold fX10_has at hf
  refine lv_iload_n hx hb dX10_has_0 rfl (lv_at hl 0 rfl) ?_
  refine lv_iload_n hx hb dX10_has_1 rfl (lv_at hl 1 rfl) ?_
  refine lv_ishr hx hb dX10_has_2 ?_
  refine lv_iconst (v := (1 : Int32)) hx hb dX10_has_3 (by decide) ?_
  refine lv_iand hx hb dX10_has_4 ?_
  refine lv_iconst (v := (1 : Int32)) hx hb dX10_has_5 (by decide) ?_
  refine lv_icmp_ne (tgt := 13) hx hb dX10_has_6 (by decide) (fun c1 => ?_) (fun c1 => ?_)
  · have hf := it_f hf c1
    refine lv_iconst (v := (0 : Int32)) hx hb dX10_has_13 (by decide) ?_
    exact rtRz X hlk hr rfl (so_i hf) dX10_has_14
  · have hf := it_t hf c1
    refine lv_iconst (v := (1 : Int32)) hx hb dX10_has_9 (by decide) ?_
    refine lv_goto (tgt := 14) hx hb dX10_has_10 (by decide) ?_
    exact rtRz X hlk hr rfl (so_i hf) dX10_has_14
def fX10_isHouse (st : St) (p1 : Int32) : Option Int32 := br (fX10_in (Int32.toInt64 p1) (0 : Int64) (Int32.toInt64 ((st.1 502 3) - (1 : Int32)))) (fun x3 => gd (bz x3) (some x3))
set_option maxRecDepth 100000 in
theorem tX10_isHouse (l : Launch) (E : Ev) (st : St) (sz : Nat) (hL : ∀ k, fxM k = true → k ∈ eL E) (p1 : Int32) {res : Int32} (hf : fX10_isHouse st p1 = some res) : Met l yX10_isHouse (.code yX10_isHouse cX10_isHouse 2 (some .boolean) :: uW) (rmk 1) (va_Pc [.ref (eq E 500), .int p1] (Pre E st sz)) (QRi res) 0 0 (NoF) := by
  refine Met_in (by decide) (Nat.le_of_ble_eq_true rfl) ?_
  intro p e s m below meth c X hr hlk hz G ls hl
  have hx := X.1.1
  have hb := X.1.2.1
  have hl : lv_has ls 2 [(0, .ref (eq E 500)), (1, .int p1)] := hl
  unfold fX10_isHouse at hf
  refine lv_iload_n hx hb dX10_isHouse_0 rfl (lv_at hl 1 rfl) ?_
  refine lv_i2l hx hb dX10_isHouse_1 rfl ?_
  refine lv_lconst (v := (0 : Int64)) hx hb dX10_isHouse_2 (by decide) ?_
  refine lv_aload_n hx hb dX10_isHouse_3 rfl (lv_at hl 0 rfl) ?_
  refine gf10 X G (hL 500 rfl) rfl 1 (by decide) rfl kf_X10_9 iwX10 dX10_isHouse_4 ?_
  refine lv_iconst (v := (3 : Int32)) hx hb dX10_isHouse_7 (by decide) ?_
  refine ia_ldc (k := 502) (n := 12) X G (hL 502 rfl) rfl (by decide) 3 (by decide) dX10_isHouse_8 ?_
  refine lv_iconst (v := (1 : Int32)) hx hb dX10_isHouse_9 (by decide) ?_
  refine lv_isub hx hb dX10_isHouse_10 ?_
  refine lv_i2l hx hb dX10_isHouse_11 rfl ?_
  obtain ⟨x3, h2, hf⟩ := br_s hf
  refine cSRi (As := [.long (Int32.toInt64 p1), .long (0 : Int64), .long (Int32.toInt64 ((st.1 502 3) - (1 : Int32)))]) (rest := []) X G kc_X10_152 (tX10_in l E st _  (Int32.toInt64 p1) (0 : Int64) (Int32.toInt64 ((st.1 502 3) - (1 : Int32))) h2) rfl rfl (rmk_le (by omega) (by decide)) rfl hl.1 rfl (Nat.le_of_ble_eq_true rfl) dX10_isHouse_12 ⟨Nat.zero_le _, Nat.zero_le _⟩ ?_
  obtain ⟨h4, hf⟩ := gd_s hf
  exact rtRz X hlk hr (bz_n h4) (so_i hf) dX10_isHouse_15
def fX10_isOfficer (st : St) (p1 : Int32) : Option Int32 := br (fX10_in (Int32.toInt64 p1) (0 : Int64) (Int32.toInt64 ((st.1 502 5) - (1 : Int32)))) (fun x3 => gd (bz x3) (some x3))
set_option maxRecDepth 100000 in
theorem tX10_isOfficer (l : Launch) (E : Ev) (st : St) (sz : Nat) (hL : ∀ k, fxM k = true → k ∈ eL E) (p1 : Int32) {res : Int32} (hf : fX10_isOfficer st p1 = some res) : Met l yX10_isOfficer (.code yX10_isOfficer cX10_isOfficer 2 (some .boolean) :: uW) (rmk 1) (va_Pc [.ref (eq E 500), .int p1] (Pre E st sz)) (QRi res) 0 0 (NoF) := by
  refine Met_in (by decide) (Nat.le_of_ble_eq_true rfl) ?_
  intro p e s m below meth c X hr hlk hz G ls hl
  have hx := X.1.1
  have hb := X.1.2.1
  have hl : lv_has ls 2 [(0, .ref (eq E 500)), (1, .int p1)] := hl
  unfold fX10_isOfficer at hf
  refine lv_iload_n hx hb dX10_isOfficer_0 rfl (lv_at hl 1 rfl) ?_
  refine lv_i2l hx hb dX10_isOfficer_1 rfl ?_
  refine lv_lconst (v := (0 : Int64)) hx hb dX10_isOfficer_2 (by decide) ?_
  refine lv_aload_n hx hb dX10_isOfficer_3 rfl (lv_at hl 0 rfl) ?_
  refine gf10 X G (hL 500 rfl) rfl 1 (by decide) rfl kf_X10_9 iwX10 dX10_isOfficer_4 ?_
  refine lv_iconst (v := (5 : Int32)) hx hb dX10_isOfficer_7 (by decide) ?_
  refine ia_ldc (k := 502) (n := 12) X G (hL 502 rfl) rfl (by decide) 5 (by decide) dX10_isOfficer_8 ?_
  refine lv_iconst (v := (1 : Int32)) hx hb dX10_isOfficer_9 (by decide) ?_
  refine lv_isub hx hb dX10_isOfficer_10 ?_
  refine lv_i2l hx hb dX10_isOfficer_11 rfl ?_
  obtain ⟨x3, h2, hf⟩ := br_s hf
  refine cSRi (As := [.long (Int32.toInt64 p1), .long (0 : Int64), .long (Int32.toInt64 ((st.1 502 5) - (1 : Int32)))]) (rest := []) X G kc_X10_152 (tX10_in l E st _  (Int32.toInt64 p1) (0 : Int64) (Int32.toInt64 ((st.1 502 5) - (1 : Int32))) h2) rfl rfl (rmk_le (by omega) (by decide)) rfl hl.1 rfl (Nat.le_of_ble_eq_true rfl) dX10_isOfficer_12 ⟨Nat.zero_le _, Nat.zero_le _⟩ ?_
  obtain ⟨h4, hf⟩ := gd_s hf
  exact rtRz X hlk hr (bz_n h4) (so_i hf) dX10_isOfficer_15
def fX10_isFrozen (st : St) (p1 : Int32) : Option Int32 := br (fX10_has (st.1 502 7) p1) (fun x3 => gd (bz x3) (some x3))
set_option maxRecDepth 100000 in
theorem tX10_isFrozen (l : Launch) (E : Ev) (st : St) (sz : Nat) (hL : ∀ k, fxM k = true → k ∈ eL E) (p1 : Int32) {res : Int32} (hf : fX10_isFrozen st p1 = some res) : Met l yX10_isFrozen (.code yX10_isFrozen cX10_isFrozen 2 (some .boolean) :: uW) (rmk 1) (va_Pc [.ref (eq E 500), .int p1] (Pre E st sz)) (QRi res) 0 0 (NoF) := by
  refine Met_in (by decide) (Nat.le_of_ble_eq_true rfl) ?_
  intro p e s m below meth c X hr hlk hz G ls hl
  have hx := X.1.1
  have hb := X.1.2.1
  have hl : lv_has ls 2 [(0, .ref (eq E 500)), (1, .int p1)] := hl
  unfold fX10_isFrozen at hf
  refine lv_aload_n hx hb dX10_isFrozen_0 rfl (lv_at hl 0 rfl) ?_
  refine gf10 X G (hL 500 rfl) rfl 1 (by decide) rfl kf_X10_9 iwX10 dX10_isFrozen_1 ?_
  refine lv_bipush (v := (7 : Int32)) hx hb dX10_isFrozen_4 (by decide) ?_
  refine ia_ldc (k := 502) (n := 12) X G (hL 502 rfl) rfl (by decide) 7 (by decide) dX10_isFrozen_6 ?_
  refine lv_iload_n hx hb dX10_isFrozen_7 rfl (lv_at hl 1 rfl) ?_
  obtain ⟨x3, h2, hf⟩ := br_s hf
  refine cSRi (As := [.int (st.1 502 7), .int p1]) (rest := []) X G kc_X10_156 (tX10_has l E st _  (st.1 502 7) p1 h2) rfl rfl (rmk_le (by omega) (by decide)) rfl hl.1 rfl (Nat.le_of_ble_eq_true rfl) dX10_isFrozen_8 ⟨Nat.zero_le _, Nat.zero_le _⟩ ?_
  obtain ⟨h4, hf⟩ := gd_s hf
  exact rtRz X hlk hr (bz_n h4) (so_i hf) dX10_isFrozen_11
def fX10_put_L3 (p1 : Int32) : Nat → Int32 → St → Option St
  | 0, _, _ => none
  | n + 1, y2, st => if y2 < 0 then (some st) else (gd (ix (st.1 500 29) 400) (nm (ui st 540 (st.1 500 29).toNatClampNeg (vp_nar .byte (Int8.toInt32 (Int32.toInt8 (p1 >>> (y2 &&& 31)))))) (fun s3 => nm (ui s3 500 29 ((s3.1 500 29) + (1 : Int32))) (fun s4 => nm (y2 + (-8 : Int32)) (fun x5 => (fX10_put_L3 p1 n) x5 s4)))))
set_option maxRecDepth 100000 in
theorem wX10_put_L3 {p : Program} {l : Launch} {e : Env} {s : State} {m : MethodId} {args : Array Value} {below : List Frame} {meth : Method} {c : Code} {E : Ev} (hL : ∀ k, fxM k = true → k ∈ eL E) {p1 : Int32} {sz : Nat} {res : St} (X : CX p s m args c E RX10 cX10_put 3 (Af E sz)) (hr : meth.sig.returnType = none) (hlk : meth.locks = false) : ∀ (n : Nat) (y2 : Int32) (st : St) (H : Heap) (locs : List Loc), fX10_put_L3 p1  n y2 st = some res → Gd E st (Af E sz) s H locs → ∀ ls : Array Slot, lv_has ls 3 [(0, .ref (eq E 500)), (1, .int p1), (2, .int y2)] → W p l e (rmk 0) s m args below meth c H locs 0 0 (MQ below (QWv E res sz) args s 0 0 (Af E sz)) (F0 m 3 ls []) := by
  have hx := X.1.1
  have hb := X.1.2.1
  intro n
  induction n with
  | zero =>
    intro y2 st H locs hf G ls hl
    cases (show (none : Option St) = some res from hf)
  | succ n ih =>
    intro y2 st H locs hf G ls hl
    rw [fX10_put_L3] at hf
    refine lv_iload_n hx hb dX10_put_3 rfl (lv_at hl 2 rfl) ?_
    refine lv_if_lt (tgt := 36) hx hb dX10_put_4 (by decide) (fun c1 => ?_) (fun c1 => ?_)
    · have hf := it_t hf c1
      exact rtWv X hlk G hr (so_i hf) dX10_put_36
    · have hf := it_f hf c1
      refine lv_aload_n hx hb dX10_put_7 rfl (lv_at hl 0 rfl) ?_
      refine gf10 X G (hL 500 rfl) rfl 39 (by decide) rfl kf_X10_95 iwX10 dX10_put_8 ?_
      refine lv_aload_n hx hb dX10_put_11 rfl (lv_at hl 0 rfl) ?_
      refine gf10 X G (hL 500 rfl) rfl 29 (by decide) rfl kf_X10_160 iwX10 dX10_put_12 ?_
      refine lv_iload_n hx hb dX10_put_15 rfl (lv_at hl 1 rfl) ?_
      refine lv_iload_n hx hb dX10_put_16 rfl (lv_at hl 2 rfl) ?_
      refine lv_ishr hx hb dX10_put_17 ?_
      refine lv_i2b hx hb dX10_put_18 rfl ?_
      obtain ⟨h2, hf⟩ := gd_s hf
      refine ba_st (k := 540) (n := 400) X G (hL 540 rfl) rfl (by decide) (ix_in h2) dX10_put_19 (fun s3 es3 H locs G => ?_)
      have hf := nm_s hf s3 es3
      refine lv_aload_n hx hb dX10_put_20 rfl (lv_at hl 0 rfl) ?_
      refine lv_dup hx hb dX10_put_21 rfl ?_
      refine gf10 X G (hL 500 rfl) rfl 29 (by decide) rfl kf_X10_160 iwX10 dX10_put_22 ?_
      refine lv_iconst (v := (1 : Int32)) hx hb dX10_put_25 (by decide) ?_
      refine lv_iadd hx hb dX10_put_26 ?_
      refine pf10 X G (hL 500 rfl) rfl 29 (by decide) ps10_29 uio kf_X10_160 iwX10 rfl (ty := .int) (by decide +kernel) rfl rfl dX10_put_27 (fun s4 es4 H locs G => ?_)
      have hf := nm_s hf s4 es4
      obtain ⟨x5, ex5⟩ : ∃ y : Int32, y = (y2 + (-8 : Int32)) := ⟨_, rfl⟩
      have hf := nm_s hf x5 ex5
      refine lv_iinc (k := 2) (v := x5) (lv' := [(2, .int x5), (0, .ref (eq E 500)), (1, .int p1)]) hx hb dX10_put_30 hl rfl (by rw [ex5]; rfl) (by decide) rfl (fun ls hl => ?_)
      refine lv_goto (tgt := 3) hx hb dX10_put_33 (by decide) ?_
      exact ih x5 s4 _ _ hf G _ (lv_sub hl [1, 2, 0] rfl)
def fX10_put (p1 : Int32) (st : St) : Option St := fX10_put_L3 p1 10000 (24 : Int32) st
set_option maxRecDepth 100000 in
theorem tX10_put (l : Launch) (E : Ev) (st : St) (sz : Nat) (hL : ∀ k, fxM k = true → k ∈ eL E) (p1 : Int32) {res : St} (hf : fX10_put  p1 st = some res) : Met l yX10_put (.code yX10_put cX10_put 3 none :: uW) (rmk 0) (va_Pc [.ref (eq E 500), .int p1] (Pre E st sz)) (QWv E res sz) 0 0 (Af E sz) := by
  refine Met_in (by decide) (Nat.le_of_ble_eq_true rfl) ?_
  intro p e s m below meth c X hr hlk hz G ls hl
  have hx := X.1.1
  have hb := X.1.2.1
  have hl : lv_has ls 3 [(0, .ref (eq E 500)), (1, .int p1)] := hl
  unfold fX10_put at hf
  refine lv_bipush (v := (24 : Int32)) hx hb dX10_put_0 (by decide) ?_
  refine lv_istore_n (lv' := [(2, .int (24 : Int32)), (0, .ref (eq E 500)), (1, .int p1)]) hx hb dX10_put_2 rfl hl (by decide) rfl (fun ls hl => ?_)
  exact wX10_put_L3 hL X hr hlk 10000 (24 : Int32) st _ _ hf G _ (lv_sub hl [1, 2, 0] rfl)
def fX10_feed (p1 : Int32) (p2 : Int32) (p3 : Int32) (p4 : Int32) (p5 : Int32) (st : St) : Option (Int32 × St) := if ((st.1 500 29) + (20 : Int32)) ≤ (400 : Int32) then (br (fX10_put p1 st) (fun s3 => br (fX10_put p2 s3) (fun s5 => br (fX10_put p3 s5) (fun s7 => br (fX10_put p4 s7) (fun s9 => br (fX10_put p5 s9) (fun s11 => some ((s11.1 500 29), s11))))))) else (some ((-1 : Int32), st))
set_option maxRecDepth 100000 in
theorem tX10_feed (l : Launch) (E : Ev) (st : St) (sz : Nat) (hL : ∀ k, fxM k = true → k ∈ eL E) (p1 : Int32) (p2 : Int32) (p3 : Int32) (p4 : Int32) (p5 : Int32) {res : (Int32 × St)} (hf : fX10_feed  p1 p2 p3 p4 p5 st = some res) : Met l yX10_feed (.code yX10_feed cX10_feed 6 (some .int) :: uW) (rmk 1) (va_Pc [.ref (eq E 500), .int p1, .int p2, .int p3, .int p4, .int p5] (Pre E st sz)) (QWi E res.2 sz res.1) 0 0 (Af E sz) := by
  refine Met_in (by decide) (Nat.le_of_ble_eq_true rfl) ?_
  intro p e s m below meth c X hr hlk hz G ls hl
  have hx := X.1.1
  have hb := X.1.2.1
  have hl : lv_has ls 6 [(0, .ref (eq E 500)), (1, .int p1), (2, .int p2), (3, .int p3), (4, .int p4), (5, .int p5)] := hl
  unfold fX10_feed at hf
  refine lv_aload_n hx hb dX10_feed_0 rfl (lv_at hl 0 rfl) ?_
  refine gf10 X G (hL 500 rfl) rfl 29 (by decide) rfl kf_X10_160 iwX10 dX10_feed_1 ?_
  refine lv_bipush (v := (20 : Int32)) hx hb dX10_feed_4 (by decide) ?_
  refine lv_iadd hx hb dX10_feed_6 ?_
  refine lv_sipush (v := (400 : Int32)) hx hb dX10_feed_7 (by decide) ?_
  refine lv_icmp_le (tgt := 15) hx hb dX10_feed_10 (by decide) (fun c1 => ?_) (fun c1 => ?_)
  · have hf := it_t hf c1
    refine lv_aload_n hx hb dX10_feed_15 rfl (lv_at hl 0 rfl) ?_
    refine lv_iload_n hx hb dX10_feed_16 rfl (lv_at hl 1 rfl) ?_
    obtain ⟨s3, h2, hf⟩ := br_s hf
    refine cVWv (As := [.int p1]) (rest := []) X G kc_X10_163 (tX10_put l E st _ hL  p1 h2) (rcv X G (hL 500 rfl) (cO10 rfl) rfl) rfl rfl (rmk_le (by omega) (by decide)) rfl hl.1 rfl (Nat.le_of_ble_eq_true rfl) dX10_feed_17 ⟨Nat.zero_le _, Nat.zero_le _⟩ (fun H locs G => ?_)
    refine lv_aload_n hx hb dX10_feed_20 rfl (lv_at hl 0 rfl) ?_
    refine lv_iload_n hx hb dX10_feed_21 rfl (lv_at hl 2 rfl) ?_
    obtain ⟨s5, h4, hf⟩ := br_s hf
    refine cVWv (As := [.int p2]) (rest := []) X G kc_X10_163 (tX10_put l E s3 _ hL  p2 h4) (rcv X G (hL 500 rfl) (cO10 rfl) rfl) rfl rfl (rmk_le (by omega) (by decide)) rfl hl.1 rfl (Nat.le_of_ble_eq_true rfl) dX10_feed_22 ⟨Nat.zero_le _, Nat.zero_le _⟩ (fun H locs G => ?_)
    refine lv_aload_n hx hb dX10_feed_25 rfl (lv_at hl 0 rfl) ?_
    refine lv_iload_n hx hb dX10_feed_26 rfl (lv_at hl 3 rfl) ?_
    obtain ⟨s7, h6, hf⟩ := br_s hf
    refine cVWv (As := [.int p3]) (rest := []) X G kc_X10_163 (tX10_put l E s5 _ hL  p3 h6) (rcv X G (hL 500 rfl) (cO10 rfl) rfl) rfl rfl (rmk_le (by omega) (by decide)) rfl hl.1 rfl (Nat.le_of_ble_eq_true rfl) dX10_feed_27 ⟨Nat.zero_le _, Nat.zero_le _⟩ (fun H locs G => ?_)
    refine lv_aload_n hx hb dX10_feed_30 rfl (lv_at hl 0 rfl) ?_
    refine lv_iload hx hb dX10_feed_31 (lv_at hl 4 rfl) ?_
    obtain ⟨s9, h8, hf⟩ := br_s hf
    refine cVWv (As := [.int p4]) (rest := []) X G kc_X10_163 (tX10_put l E s7 _ hL  p4 h8) (rcv X G (hL 500 rfl) (cO10 rfl) rfl) rfl rfl (rmk_le (by omega) (by decide)) rfl hl.1 rfl (Nat.le_of_ble_eq_true rfl) dX10_feed_33 ⟨Nat.zero_le _, Nat.zero_le _⟩ (fun H locs G => ?_)
    refine lv_aload_n hx hb dX10_feed_36 rfl (lv_at hl 0 rfl) ?_
    refine lv_iload hx hb dX10_feed_37 (lv_at hl 5 rfl) ?_
    obtain ⟨s11, h10, hf⟩ := br_s hf
    refine cVWv (As := [.int p5]) (rest := []) X G kc_X10_163 (tX10_put l E s9 _ hL  p5 h10) (rcv X G (hL 500 rfl) (cO10 rfl) rfl) rfl rfl (rmk_le (by omega) (by decide)) rfl hl.1 rfl (Nat.le_of_ble_eq_true rfl) dX10_feed_39 ⟨Nat.zero_le _, Nat.zero_le _⟩ (fun H locs G => ?_)
    refine lv_aload_n hx hb dX10_feed_42 rfl (lv_at hl 0 rfl) ?_
    refine gf10 X G (hL 500 rfl) rfl 29 (by decide) rfl kf_X10_160 iwX10 dX10_feed_43 ?_
    exact rtWi X hlk G hr (so_i hf) dX10_feed_46
  · have hf := it_f hf c1
    refine lv_iconst (v := (-1 : Int32)) hx hb dX10_feed_13 (by decide) ?_
    exact rtWi X hlk G hr (so_i hf) dX10_feed_14
def fX10_end (p1 : Int32) (st : St) : Option (Int32 × St) := if p1 < 0 then (some ((-1 : Int32), st)) else (if p1 ≤ (st.1 500 29) then (nm (ui st 500 29 p1) (fun s3 => some (p1, s3))) else (some ((-1 : Int32), st)))
set_option maxRecDepth 100000 in
theorem tX10_end (l : Launch) (E : Ev) (st : St) (sz : Nat) (hL : ∀ k, fxM k = true → k ∈ eL E) (p1 : Int32) {res : (Int32 × St)} (hf : fX10_end  p1 st = some res) : Met l yX10_end (.code yX10_end cX10_end 2 (some .int) :: uW) (rmk 0) (va_Pc [.ref (eq E 500), .int p1] (Pre E st sz)) (QWi E res.2 sz res.1) 0 0 (Af E sz) := by
  refine Met_in (by decide) (Nat.le_of_ble_eq_true rfl) ?_
  intro p e s m below meth c X hr hlk hz G ls hl
  have hx := X.1.1
  have hb := X.1.2.1
  have hl : lv_has ls 2 [(0, .ref (eq E 500)), (1, .int p1)] := hl
  unfold fX10_end at hf
  refine lv_iload_n hx hb dX10_end_0 rfl (lv_at hl 1 rfl) ?_
  refine lv_if_lt (tgt := 12) hx hb dX10_end_1 (by decide) (fun c1 => ?_) (fun c1 => ?_)
  · have hf := it_t hf c1
    refine lv_iconst (v := (-1 : Int32)) hx hb dX10_end_12 (by decide) ?_
    exact rtWi X hlk G hr (so_i hf) dX10_end_13
  · have hf := it_f hf c1
    refine lv_iload_n hx hb dX10_end_4 rfl (lv_at hl 1 rfl) ?_
    refine lv_aload_n hx hb dX10_end_5 rfl (lv_at hl 0 rfl) ?_
    refine gf10 X G (hL 500 rfl) rfl 29 (by decide) rfl kf_X10_160 iwX10 dX10_end_6 ?_
    refine lv_icmp_le (tgt := 14) hx hb dX10_end_9 (by decide) (fun c2 => ?_) (fun c2 => ?_)
    · have hf := it_t hf c2
      refine lv_aload_n hx hb dX10_end_14 rfl (lv_at hl 0 rfl) ?_
      refine lv_iload_n hx hb dX10_end_15 rfl (lv_at hl 1 rfl) ?_
      refine pf10 X G (hL 500 rfl) rfl 29 (by decide) ps10_29 uio kf_X10_160 iwX10 rfl (ty := .int) (by decide +kernel) rfl rfl dX10_end_16 (fun s3 es3 H locs G => ?_)
      have hf := nm_s hf s3 es3
      refine lv_iload_n hx hb dX10_end_19 rfl (lv_at hl 1 rfl) ?_
      exact rtWi X hlk G hr (so_i hf) dX10_end_20
    · have hf := it_f hf c2
      refine lv_iconst (v := (-1 : Int32)) hx hb dX10_end_12 (by decide) ?_
      exact rtWi X hlk G hr (so_i hf) dX10_end_13
def fX10_wordOf (p1 : Int32) : Option Nat := if p1 = (0 : Int32) then (some 2) else (if p1 = (1 : Int32) then (some 3) else (if p1 = (2 : Int32) then (some 4) else (if p1 = (3 : Int32) then (some 5) else (if p1 = (4 : Int32) then (some 6) else (if p1 = (5 : Int32) then (some 7) else (if p1 = (6 : Int32) then (some 8) else (if p1 = (7 : Int32) then (some 9) else (if p1 = (8 : Int32) then (some 10) else (if p1 = (9 : Int32) then (some 11) else (if p1 = (10 : Int32) then (some 12) else (some 13)))))))))))
set_option maxRecDepth 100000 in
theorem tX10_wordOf (l : Launch) (E : Ev) (st : St) (sz : Nat) (p1 : Int32) {res : Nat} (hf : fX10_wordOf  p1 = some res) : Met l yX10_wordOf (.code yX10_wordOf cX10_wordOf 1 (some (.object "java/lang/String")) :: uW) (rmk 0) (va_Pc [.int p1] (Pre E st sz)) (QRq (some (eK E res))) 0 0 (NoF) := by
  refine Met_in (by decide) (Nat.le_of_ble_eq_true rfl) ?_
  intro p e s m below meth c X hr hlk hz G ls hl
  have hx := X.1.1
  have hb := X.1.2.1
  have hl : lv_has ls 1 [(0, .int p1)] := hl
  unfold fX10_wordOf at hf
  refine lv_iload_n hx hb dX10_wordOf_0 rfl (lv_at hl 0 rfl) ?_
  by_cases cs0 : p1 = (0 : Int32)
  · have hf := it_t hf cs0
    refine tbl_in hx hb dX10_wordOf_1 cs0 (by decide) (by decide) rfl (tgt := 60) (by decide) ?_
    refine va_ldcS hx hb X.1.2.2.2.1 (X.2.2.2.2 2 (by decide)) dX10_wordOf_60 ?_
    exact rtRq (q := some (eK E 2)) X hlk hr (Or.inl ⟨_, rfl⟩) (by rw [so_i hf]) dX10_wordOf_62
  have hf := it_f hf cs0
  by_cases cs1 : p1 = (1 : Int32)
  · have hf := it_t hf cs1
    refine tbl_in hx hb dX10_wordOf_1 cs1 (by decide) (by decide) rfl (tgt := 63) (by decide) ?_
    refine va_ldcS hx hb X.1.2.2.2.1 (X.2.2.2.2 3 (by decide)) dX10_wordOf_63 ?_
    exact rtRq (q := some (eK E 3)) X hlk hr (Or.inl ⟨_, rfl⟩) (by rw [so_i hf]) dX10_wordOf_65
  have hf := it_f hf cs1
  by_cases cs2 : p1 = (2 : Int32)
  · have hf := it_t hf cs2
    refine tbl_in hx hb dX10_wordOf_1 cs2 (by decide) (by decide) rfl (tgt := 66) (by decide) ?_
    refine va_ldcS hx hb X.1.2.2.2.1 (X.2.2.2.2 4 (by decide)) dX10_wordOf_66 ?_
    exact rtRq (q := some (eK E 4)) X hlk hr (Or.inl ⟨_, rfl⟩) (by rw [so_i hf]) dX10_wordOf_68
  have hf := it_f hf cs2
  by_cases cs3 : p1 = (3 : Int32)
  · have hf := it_t hf cs3
    refine tbl_in hx hb dX10_wordOf_1 cs3 (by decide) (by decide) rfl (tgt := 69) (by decide) ?_
    refine va_ldcS hx hb X.1.2.2.2.1 (X.2.2.2.2 5 (by decide)) dX10_wordOf_69 ?_
    exact rtRq (q := some (eK E 5)) X hlk hr (Or.inl ⟨_, rfl⟩) (by rw [so_i hf]) dX10_wordOf_71
  have hf := it_f hf cs3
  by_cases cs4 : p1 = (4 : Int32)
  · have hf := it_t hf cs4
    refine tbl_in hx hb dX10_wordOf_1 cs4 (by decide) (by decide) rfl (tgt := 72) (by decide) ?_
    refine va_ldcS hx hb X.1.2.2.2.1 (X.2.2.2.2 6 (by decide)) dX10_wordOf_72 ?_
    exact rtRq (q := some (eK E 6)) X hlk hr (Or.inl ⟨_, rfl⟩) (by rw [so_i hf]) dX10_wordOf_74
  have hf := it_f hf cs4
  by_cases cs5 : p1 = (5 : Int32)
  · have hf := it_t hf cs5
    refine tbl_in hx hb dX10_wordOf_1 cs5 (by decide) (by decide) rfl (tgt := 75) (by decide) ?_
    refine va_ldcS hx hb X.1.2.2.2.1 (X.2.2.2.2 7 (by decide)) dX10_wordOf_75 ?_
    exact rtRq (q := some (eK E 7)) X hlk hr (Or.inl ⟨_, rfl⟩) (by rw [so_i hf]) dX10_wordOf_77
  have hf := it_f hf cs5
  by_cases cs6 : p1 = (6 : Int32)
  · have hf := it_t hf cs6
    refine tbl_in hx hb dX10_wordOf_1 cs6 (by decide) (by decide) rfl (tgt := 78) (by decide) ?_
    refine va_ldcS hx hb X.1.2.2.2.1 (X.2.2.2.2 8 (by decide)) dX10_wordOf_78 ?_
    exact rtRq (q := some (eK E 8)) X hlk hr (Or.inl ⟨_, rfl⟩) (by rw [so_i hf]) dX10_wordOf_80
  have hf := it_f hf cs6
  by_cases cs7 : p1 = (7 : Int32)
  · have hf := it_t hf cs7
    refine tbl_in hx hb dX10_wordOf_1 cs7 (by decide) (by decide) rfl (tgt := 81) (by decide) ?_
    refine va_ldcS hx hb X.1.2.2.2.1 (X.2.2.2.2 9 (by decide)) dX10_wordOf_81 ?_
    exact rtRq (q := some (eK E 9)) X hlk hr (Or.inl ⟨_, rfl⟩) (by rw [so_i hf]) dX10_wordOf_83
  have hf := it_f hf cs7
  by_cases cs8 : p1 = (8 : Int32)
  · have hf := it_t hf cs8
    refine tbl_in hx hb dX10_wordOf_1 cs8 (by decide) (by decide) rfl (tgt := 84) (by decide) ?_
    refine va_ldcS hx hb X.1.2.2.2.1 (X.2.2.2.2 10 (by decide)) dX10_wordOf_84 ?_
    exact rtRq (q := some (eK E 10)) X hlk hr (Or.inl ⟨_, rfl⟩) (by rw [so_i hf]) dX10_wordOf_86
  have hf := it_f hf cs8
  by_cases cs9 : p1 = (9 : Int32)
  · have hf := it_t hf cs9
    refine tbl_in hx hb dX10_wordOf_1 cs9 (by decide) (by decide) rfl (tgt := 87) (by decide) ?_
    refine va_ldcS hx hb X.1.2.2.2.1 (X.2.2.2.2 11 (by decide)) dX10_wordOf_87 ?_
    exact rtRq (q := some (eK E 11)) X hlk hr (Or.inl ⟨_, rfl⟩) (by rw [so_i hf]) dX10_wordOf_89
  have hf := it_f hf cs9
  by_cases cs10 : p1 = (10 : Int32)
  · have hf := it_t hf cs10
    refine tbl_in hx hb dX10_wordOf_1 cs10 (by decide) (by decide) rfl (tgt := 90) (by decide) ?_
    refine va_ldcS hx hb X.1.2.2.2.1 (X.2.2.2.2 12 (by decide)) dX10_wordOf_90 ?_
    exact rtRq (q := some (eK E 12)) X hlk hr (Or.inl ⟨_, rfl⟩) (by rw [so_i hf]) dX10_wordOf_92
  have hf := it_f hf cs10
  have kd : W p l e (rmk 0) s m [.int p1].toArray below meth c s.heap [] 0 0 (MQ below (QRq (some (eK E res))) [.int p1].toArray s 0 0 (NoF)) (F0 m 93 ls []) := by
    refine va_ldcS hx hb X.1.2.2.2.1 (X.2.2.2.2 13 (by decide)) dX10_wordOf_93 ?_
    exact rtRq (q := some (eK E 13)) X hlk hr (Or.inl ⟨_, rfl⟩) (by rw [so_i hf]) dX10_wordOf_95
  refine lv_tableOut (tgt := 93) hx hb dX10_wordOf_1 (sw_out (fun v h1 h2 => ?_)) (by decide) kd
  rcases (show v = 0 ∨ v = 1 ∨ v = 2 ∨ v = 3 ∨ v = 4 ∨ v = 5 ∨ v = 6 ∨ v = 7 ∨ v = 8 ∨ v = 9 ∨ v = 10 by omega) with rfl | rfl | rfl | rfl | rfl | rfl | rfl | rfl | rfl | rfl | rfl
  · exact cs0
  · exact cs1
  · exact cs2
  · exact cs3
  · exact cs4
  · exact cs5
  · exact cs6
  · exact cs7
  · exact cs8
  · exact cs9
  · exact cs10
def fX10_fails (p1 : Int32) (p2 : Int32) (st : St) : Option St := if (st.1 500 31) = 0 then (nm (ui st 500 31 (((1 : Int32) + ((8 : Int32) * p2)) + p1)) (fun s2 => some s2)) else (nm (ui st 500 31 (st.1 500 31)) (fun s2 => some s2))
set_option maxRecDepth 100000 in
theorem tX10_fails (l : Launch) (E : Ev) (st : St) (sz : Nat) (hL : ∀ k, fxM k = true → k ∈ eL E) (p1 : Int32) (p2 : Int32) {res : St} (hf : fX10_fails  p1 p2 st = some res) : Met l yX10_fails (.code yX10_fails cX10_fails 3 none :: uW) (rmk 0) (va_Pc [.ref (eq E 500), .int p1, .int p2] (Pre E st sz)) (QWv E res sz) 0 0 (Af E sz) := by
  refine Met_in (by decide) (Nat.le_of_ble_eq_true rfl) ?_
  intro p e s m below meth c X hr hlk hz G ls hl
  have hx := X.1.1
  have hb := X.1.2.1
  have hl : lv_has ls 3 [(0, .ref (eq E 500)), (1, .int p1), (2, .int p2)] := hl
  unfold fX10_fails at hf
  refine lv_aload_n hx hb dX10_fails_0 rfl (lv_at hl 0 rfl) ?_
  refine lv_aload_n hx hb dX10_fails_1 rfl (lv_at hl 0 rfl) ?_
  refine gf10 X G (hL 500 rfl) rfl 31 (by decide) rfl kf_X10_187 iwX10 dX10_fails_2 ?_
  refine lv_if_ne (tgt := 19) hx hb dX10_fails_5 (by decide) (fun c1 => ?_) (fun c1 => ?_)
  · have hf := it_f hf c1
    refine lv_aload_n hx hb dX10_fails_19 rfl (lv_at hl 0 rfl) ?_
    refine gf10 X G (hL 500 rfl) rfl 31 (by decide) rfl kf_X10_187 iwX10 dX10_fails_20 ?_
    refine pf10 X G (hL 500 rfl) rfl 31 (by decide) ps10_31 uio kf_X10_187 iwX10 rfl (ty := .int) (by decide +kernel) rfl rfl dX10_fails_23 (fun s2 es2 H locs G => ?_)
    have hf := nm_s hf s2 es2
    exact rtWv X hlk G hr (so_i hf) dX10_fails_26
  · have hf := it_t hf c1
    refine lv_iconst (v := (1 : Int32)) hx hb dX10_fails_8 (by decide) ?_
    refine lv_bipush (v := (8 : Int32)) hx hb dX10_fails_9 (by decide) ?_
    refine lv_iload_n hx hb dX10_fails_11 rfl (lv_at hl 2 rfl) ?_
    refine lv_imul hx hb dX10_fails_12 ?_
    refine lv_iadd hx hb dX10_fails_13 ?_
    refine lv_iload_n hx hb dX10_fails_14 rfl (lv_at hl 1 rfl) ?_
    refine lv_iadd hx hb dX10_fails_15 ?_
    refine lv_goto (tgt := 23) hx hb dX10_fails_16 (by decide) ?_
    refine pf10 X G (hL 500 rfl) rfl 31 (by decide) ps10_31 uio kf_X10_187 iwX10 rfl (ty := .int) (by decide +kernel) rfl rfl dX10_fails_23 (fun s2 es2 H locs G => ?_)
    have hf := nm_s hf s2 es2
    exact rtWv X hlk G hr (so_i hf) dX10_fails_26
def fX10_sign (st : St) : Option Int32 := if (st.1 500 29) ≤ (st.1 500 30) then (some (-1 : Int32)) else (gd (ix (st.1 500 30) 400) (some ((st.1 540 (st.1 500 30).toNatClampNeg) &&& (255 : Int32))))
set_option maxRecDepth 100000 in
theorem tX10_sign (l : Launch) (E : Ev) (st : St) (sz : Nat) (hL : ∀ k, fxM k = true → k ∈ eL E)  {res : Int32} (hf : fX10_sign st  = some res) : Met l yX10_sign (.code yX10_sign cX10_sign 1 (some .int) :: uW) (rmk 0) (va_Pc [.ref (eq E 500)] (Pre E st sz)) (QRi res) 0 0 (NoF) := by
  refine Met_in (by decide) (Nat.le_of_ble_eq_true rfl) ?_
  intro p e s m below meth c X hr hlk hz G ls hl
  have hx := X.1.1
  have hb := X.1.2.1
  have hl : lv_has ls 1 [(0, .ref (eq E 500))] := hl
  unfold fX10_sign at hf
  refine lv_aload_n hx hb dX10_sign_0 rfl (lv_at hl 0 rfl) ?_
  refine gf10 X G (hL 500 rfl) rfl 30 (by decide) rfl kf_X10_190 iwX10 dX10_sign_1 ?_
  refine lv_aload_n hx hb dX10_sign_4 rfl (lv_at hl 0 rfl) ?_
  refine gf10 X G (hL 500 rfl) rfl 29 (by decide) rfl kf_X10_160 iwX10 dX10_sign_5 ?_
  refine lv_icmp_ge (tgt := 27) hx hb dX10_sign_8 (by decide) (fun c1 => ?_) (fun c1 => ?_)
  · have hf := it_t hf c1
    refine lv_iconst (v := (-1 : Int32)) hx hb dX10_sign_27 (by decide) ?_
    exact rtRi X hlk hr (so_i hf) dX10_sign_28
  · have hf := it_f hf c1
    refine lv_aload_n hx hb dX10_sign_11 rfl (lv_at hl 0 rfl) ?_
    refine gf10 X G (hL 500 rfl) rfl 39 (by decide) rfl kf_X10_95 iwX10 dX10_sign_12 ?_
    refine lv_aload_n hx hb dX10_sign_15 rfl (lv_at hl 0 rfl) ?_
    refine gf10 X G (hL 500 rfl) rfl 30 (by decide) rfl kf_X10_190 iwX10 dX10_sign_16 ?_
    obtain ⟨h2, hf⟩ := gd_s hf
    refine ba_ld (k := 540) (n := 400) X G (hL 540 rfl) rfl (by decide) (ix_in h2) dX10_sign_19 ?_
    refine lv_sipush (v := (255 : Int32)) hx hb dX10_sign_20 (by decide) ?_
    refine lv_iand hx hb dX10_sign_23 ?_
    refine lv_goto (tgt := 28) hx hb dX10_sign_24 (by decide) ?_
    exact rtRi X hlk hr (so_i hf) dX10_sign_28
def fX10_blanks_L0 : Nat → St → Option St
  | 0, _ => none
  | n + 1, st => br (fX10_sign st) (fun x2 => if x2 = (32 : Int32) then (nm (ui st 500 30 ((st.1 500 30) + (1 : Int32))) (fun s4 => (fX10_blanks_L0 n) s4)) else (some st))
set_option maxRecDepth 100000 in
theorem wX10_blanks_L0 {p : Program} {l : Launch} {e : Env} {s : State} {m : MethodId} {args : Array Value} {below : List Frame} {meth : Method} {c : Code} {E : Ev} (hL : ∀ k, fxM k = true → k ∈ eL E) {sz : Nat} {res : St} (X : CX p s m args c E RX10 cX10_blanks 1 (Af E sz)) (hr : meth.sig.returnType = none) (hlk : meth.locks = false) : ∀ (n : Nat)  (st : St) (H : Heap) (locs : List Loc), fX10_blanks_L0   n  st = some res → Gd E st (Af E sz) s H locs → ∀ ls : Array Slot, lv_has ls 1 [(0, .ref (eq E 500))] → W p l e (rmk 1) s m args below meth c H locs 0 0 (MQ below (QWv E res sz) args s 0 0 (Af E sz)) (F0 m 0 ls []) := by
  have hx := X.1.1
  have hb := X.1.2.1
  intro n
  induction n with
  | zero =>
    intro  st H locs hf G ls hl
    cases (show (none : Option St) = some res from hf)
  | succ n ih =>
    intro  st H locs hf G ls hl
    rw [fX10_blanks_L0] at hf
    refine lv_aload_n hx hb dX10_blanks_0 rfl (lv_at hl 0 rfl) ?_
    obtain ⟨x2, h1, hf⟩ := br_s hf
    refine cVRi (As := []) (rest := []) X G kc_X10_193 (tX10_sign l E st _ hL   h1) (rcv X G (hL 500 rfl) (cO10 rfl) rfl) rfl rfl (rmk_le (by omega) (by decide)) rfl hl.1 rfl (Nat.le_of_ble_eq_true rfl) dX10_blanks_1 ⟨Nat.zero_le _, Nat.zero_le _⟩ ?_
    refine lv_bipush (v := (32 : Int32)) hx hb dX10_blanks_4 (by decide) ?_
    refine lv_icmp_ne (tgt := 22) hx hb dX10_blanks_6 (by decide) (fun c3 => ?_) (fun c3 => ?_)
    · have hf := it_f hf c3
      exact rtWv X hlk G hr (so_i hf) dX10_blanks_22
    · have hf := it_t hf c3
      refine lv_aload_n hx hb dX10_blanks_9 rfl (lv_at hl 0 rfl) ?_
      refine lv_dup hx hb dX10_blanks_10 rfl ?_
      refine gf10 X G (hL 500 rfl) rfl 30 (by decide) rfl kf_X10_190 iwX10 dX10_blanks_11 ?_
      refine lv_iconst (v := (1 : Int32)) hx hb dX10_blanks_14 (by decide) ?_
      refine lv_iadd hx hb dX10_blanks_15 ?_
      refine pf10 X G (hL 500 rfl) rfl 30 (by decide) ps10_30 uio kf_X10_190 iwX10 rfl (ty := .int) (by decide +kernel) rfl rfl dX10_blanks_16 (fun s4 es4 H locs G => ?_)
      have hf := nm_s hf s4 es4
      refine lv_goto (tgt := 0) hx hb dX10_blanks_19 (by decide) ?_
      exact ih s4 _ _ hf G _ (lv_sub hl [0] rfl)
def fX10_blanks (st : St) : Option St := fX10_blanks_L0 10000 st
set_option maxRecDepth 100000 in
theorem tX10_blanks (l : Launch) (E : Ev) (st : St) (sz : Nat) (hL : ∀ k, fxM k = true → k ∈ eL E)  {res : St} (hf : fX10_blanks   st = some res) : Met l yX10_blanks (.code yX10_blanks cX10_blanks 1 none :: uW) (rmk 1) (va_Pc [.ref (eq E 500)] (Pre E st sz)) (QWv E res sz) 0 0 (Af E sz) := by
  refine Met_in (by decide) (Nat.le_of_ble_eq_true rfl) ?_
  intro p e s m below meth c X hr hlk hz G ls hl
  have hx := X.1.1
  have hb := X.1.2.1
  have hl : lv_has ls 1 [(0, .ref (eq E 500))] := hl
  unfold fX10_blanks at hf
  exact wX10_blanks_L0 hL X hr hlk 10000 st _ _ hf G _ (lv_sub hl [0] rfl)
def fX10_isDigit (st : St) : Option Int32 := br (fX10_sign st) (fun x2 => br (fX10_in (Int32.toInt64 x2) (48 : Int64) (57 : Int64)) (fun x4 => gd (bz x4) (some x4)))
set_option maxRecDepth 100000 in
theorem tX10_isDigit (l : Launch) (E : Ev) (st : St) (sz : Nat) (hL : ∀ k, fxM k = true → k ∈ eL E)  {res : Int32} (hf : fX10_isDigit st  = some res) : Met l yX10_isDigit (.code yX10_isDigit cX10_isDigit 1 (some .boolean) :: uW) (rmk 1) (va_Pc [.ref (eq E 500)] (Pre E st sz)) (QRi res) 0 0 (NoF) := by
  refine Met_in (by decide) (Nat.le_of_ble_eq_true rfl) ?_
  intro p e s m below meth c X hr hlk hz G ls hl
  have hx := X.1.1
  have hb := X.1.2.1
  have hl : lv_has ls 1 [(0, .ref (eq E 500))] := hl
  unfold fX10_isDigit at hf
  refine lv_aload_n hx hb dX10_isDigit_0 rfl (lv_at hl 0 rfl) ?_
  obtain ⟨x2, h1, hf⟩ := br_s hf
  refine cVRi (As := []) (rest := []) X G kc_X10_193 (tX10_sign l E st _ hL   h1) (rcv X G (hL 500 rfl) (cO10 rfl) rfl) rfl rfl (rmk_le (by omega) (by decide)) rfl hl.1 rfl (Nat.le_of_ble_eq_true rfl) dX10_isDigit_1 ⟨Nat.zero_le _, Nat.zero_le _⟩ ?_
  refine lv_i2l hx hb dX10_isDigit_4 rfl ?_
  refine lv_ldc2 (v := (48 : Int64)) hx hb X.1.2.2.2.1 (X.1.2.2.2.2 _ kk_X10_197) dX10_isDigit_5 ?_
  refine lv_ldc2 (v := (57 : Int64)) hx hb X.1.2.2.2.1 (X.1.2.2.2.2 _ kk_X10_199) dX10_isDigit_8 ?_
  obtain ⟨x4, h3, hf⟩ := br_s hf
  refine cSRi (As := [.long (Int32.toInt64 x2), .long (48 : Int64), .long (57 : Int64)]) (rest := []) X G kc_X10_152 (tX10_in l E st _  (Int32.toInt64 x2) (48 : Int64) (57 : Int64) h3) rfl rfl (rmk_le (by omega) (by decide)) rfl hl.1 rfl (Nat.le_of_ble_eq_true rfl) dX10_isDigit_11 ⟨Nat.zero_le _, Nat.zero_le _⟩ ?_
  obtain ⟨h5, hf⟩ := gd_s hf
  exact rtRz X hlk hr (bz_n h5) (so_i hf) dX10_isDigit_14
def fJ0_coder_7d493 (j0 : Nat) : Option Int32 := if (1 : Int32) = 0 then (some (1 : Int32)) else (some (0 : Int32))
set_option maxRecDepth 100000 in
theorem tJ0_coder_7d493 (l : Launch) (E : Ev) (st : St) (sz : Nat) {j0 : Nat} (hj0 : j0 < 23)  {res : Int32} (hf : fJ0_coder_7d493 j0  = some res) : Met l yJ0_coder_7d493 (.code yJ0_coder_7d493 cJ0_coder_7d493 1 (some .byte) :: uW) (rmk 0) (va_Pc [.ref (eK E j0)] (Pre E st sz)) (QRi res) 0 0 (NoF) := by
  refine Met_in (by decide) (Nat.le_of_ble_eq_true rfl) ?_
  intro p e s m below meth c X hr hlk hz G ls hl
  have hx := X.1.1
  have hb := X.1.2.1
  have hl : lv_has ls 1 [(0, .ref (eK E j0))] := hl
  unfold fJ0_coder_7d493 at hf
  refine va_gets hx hb X.2.2.2.1.2.1 G.2.2 X.1.2.2.2.1 (X.1.2.2.2.2 _ kf_J0_38) (fun _ h9 => h9) dJ0_coder_7d493_0 ?_
  refine lv_if_eq (tgt := 13) hx hb dJ0_coder_7d493_3 (by decide) (fun c1 => ?_) (fun c1 => ?_)
  · have hf := it_t hf c1
    refine lv_iconst (v := (1 : Int32)) hx hb dJ0_coder_7d493_13 (by decide) ?_
    exact rtRz X hlk hr rfl (so_i hf) dJ0_coder_7d493_14
  · have hf := it_f hf c1
    refine lv_aload_n hx hb dJ0_coder_7d493_6 rfl (lv_at hl 0 rfl) ?_
    refine vk_getf hx hb ((X.2.2.2.1.1.1 j0 hj0).2.1) G.2.2 X.1.2.2.2.1 (X.1.2.2.2.2 _ kf_J0_15) (fun _ h9 => h9) dJ0_coder_7d493_7 ?_
    refine lv_goto (tgt := 14) hx hb dJ0_coder_7d493_10 (by decide) ?_
    exact rtRz X hlk hr rfl (so_i hf) dJ0_coder_7d493_14
def fJ0_length_8abf5 (j0 : Nat) : Option Int32 := br (fJ0_coder_7d493 j0) (fun x2 => some ((Int32.ofNat (slen.getD j0 0)) >>> (x2 &&& 31)))
set_option maxRecDepth 100000 in
theorem tJ0_length_8abf5 (l : Launch) (E : Ev) (st : St) (sz : Nat) {j0 : Nat} (hj0 : j0 < 23)  {res : Int32} (hf : fJ0_length_8abf5 j0  = some res) : Met l yJ0_length_8abf5 (.code yJ0_length_8abf5 cJ0_length_8abf5 1 (some .int) :: uW) (rmk 1) (va_Pc [.ref (eK E j0)] (Pre E st sz)) (QRi res) 0 0 (NoF) := by
  refine Met_in (by decide) (Nat.le_of_ble_eq_true rfl) ?_
  intro p e s m below meth c X hr hlk hz G ls hl
  have hx := X.1.1
  have hb := X.1.2.1
  have hl : lv_has ls 1 [(0, .ref (eK E j0))] := hl
  unfold fJ0_length_8abf5 at hf
  refine lv_aload_n hx hb dJ0_length_8abf5_0 rfl (lv_at hl 0 rfl) ?_
  refine vk_getf hx hb ((X.2.2.2.1.1.1 j0 hj0).2.2.1) G.2.2 X.1.2.2.2.1 (X.1.2.2.2.2 _ kf_J0_9) (fun _ h9 => h9) dJ0_length_8abf5_1 ?_
  refine va_tlen hx hb ((X.2.2.2.1.1.1 j0 hj0).2.2.2) G.2.2 rfl dJ0_length_8abf5_4 ?_
  refine lv_aload_n hx hb dJ0_length_8abf5_5 rfl (lv_at hl 0 rfl) ?_
  obtain ⟨x2, h1, hf⟩ := br_s hf
  refine cVRi (As := []) (rest := [.int (Int32.ofNat (slen.getD j0 0))]) X G kc_J0_335 (tJ0_coder_7d493 l E st _ hj0  h1) (vk_recv X.2.2.2.1.1 hj0 G.2.2) rfl rfl (rmk_le (by omega) (by decide)) rfl hl.1 rfl (Nat.le_of_ble_eq_true rfl) dJ0_length_8abf5_6 ⟨Nat.zero_le _, Nat.zero_le _⟩ ?_
  refine lv_ishr hx hb dJ0_length_8abf5_9 ?_
  exact rtRi X hlk hr (so_i hf) dJ0_length_8abf5_10
def fJ0_isLatin1_aae02 (j0 : Nat) : Option Int32 := if (1 : Int32) = 0 then (some (0 : Int32)) else (if (0 : Int32) = 0 then (some (1 : Int32)) else (some (0 : Int32)))
set_option maxRecDepth 100000 in
theorem tJ0_isLatin1_aae02 (l : Launch) (E : Ev) (st : St) (sz : Nat) {j0 : Nat} (hj0 : j0 < 23)  {res : Int32} (hf : fJ0_isLatin1_aae02 j0  = some res) : Met l yJ0_isLatin1_aae02 (.code yJ0_isLatin1_aae02 cJ0_isLatin1_aae02 1 (some .boolean) :: uW) (rmk 0) (va_Pc [.ref (eK E j0)] (Pre E st sz)) (QRi res) 0 0 (NoF) := by
  refine Met_in (by decide) (Nat.le_of_ble_eq_true rfl) ?_
  intro p e s m below meth c X hr hlk hz G ls hl
  have hx := X.1.1
  have hb := X.1.2.1
  have hl : lv_has ls 1 [(0, .ref (eK E j0))] := hl
  unfold fJ0_isLatin1_aae02 at hf
  refine va_gets hx hb X.2.2.2.1.2.1 G.2.2 X.1.2.2.2.1 (X.1.2.2.2.2 _ kf_J0_38) (fun _ h9 => h9) dJ0_isLatin1_aae02_0 ?_
  refine lv_if_eq (tgt := 17) hx hb dJ0_isLatin1_aae02_3 (by decide) (fun c1 => ?_) (fun c1 => ?_)
  · have hf := it_t hf c1
    refine lv_iconst (v := (0 : Int32)) hx hb dJ0_isLatin1_aae02_17 (by decide) ?_
    exact rtRz X hlk hr rfl (so_i hf) dJ0_isLatin1_aae02_18
  · have hf := it_f hf c1
    refine lv_aload_n hx hb dJ0_isLatin1_aae02_6 rfl (lv_at hl 0 rfl) ?_
    refine vk_getf hx hb ((X.2.2.2.1.1.1 j0 hj0).2.1) G.2.2 X.1.2.2.2.1 (X.1.2.2.2.2 _ kf_J0_15) (fun _ h9 => h9) dJ0_isLatin1_aae02_7 ?_
    refine lv_if_ne (tgt := 17) hx hb dJ0_isLatin1_aae02_10 (by decide) (fun c2 => ?_) (fun c2 => ?_)
    · have hf := it_f hf c2
      refine lv_iconst (v := (0 : Int32)) hx hb dJ0_isLatin1_aae02_17 (by decide) ?_
      exact rtRz X hlk hr rfl (so_i hf) dJ0_isLatin1_aae02_18
    · have hf := it_t hf c2
      refine lv_iconst (v := (1 : Int32)) hx hb dJ0_isLatin1_aae02_13 (by decide) ?_
      refine lv_goto (tgt := 18) hx hb dJ0_isLatin1_aae02_14 (by decide) ?_
      exact rtRz X hlk hr rfl (so_i hf) dJ0_isLatin1_aae02_18
def fJ3_checkIndex_8e157 (p1 : Int32) (p2 : Int32) : Option Int32 := if p1 < 0 then (none) else (if p1 < p2 then (some p1) else (none))
set_option maxRecDepth 100000 in
theorem tJ3_checkIndex_8e157 (l : Launch) (E : Ev) (st : St) (sz : Nat) {t3 : Nat} (p1 : Int32) (p2 : Int32) {res : Int32} (hf : fJ3_checkIndex_8e157  p1 p2 = some res) : Met l yJ3_checkIndex_8e157 (.code yJ3_checkIndex_8e157 cJ3_checkIndex_8e157 3 (some .int) :: uW) (rmk 0) (va_Pc [.int p1, .int p2, .ref t3] (Pre E st sz)) (QRi res) 0 0 (NoF) := by
  refine Met_in (by decide) (Nat.le_of_ble_eq_true rfl) ?_
  intro p e s m below meth c X hr hlk hz G ls hl
  have hx := X.1.1
  have hb := X.1.2.1
  have hl : lv_has ls 3 [(0, .int p1), (1, .int p2), (2, .ref t3)] := hl
  unfold fJ3_checkIndex_8e157 at hf
  refine lv_iload_n hx hb dJ3_checkIndex_8e157_0 rfl (lv_at hl 0 rfl) ?_
  refine lv_if_lt (tgt := 9) hx hb dJ3_checkIndex_8e157_1 (by decide) (fun c1 => ?_) (fun c1 => ?_)
  · have hf := it_t hf c1
    cases hf
  · have hf := it_f hf c1
    refine lv_iload_n hx hb dJ3_checkIndex_8e157_4 rfl (lv_at hl 0 rfl) ?_
    refine lv_iload_n hx hb dJ3_checkIndex_8e157_5 rfl (lv_at hl 1 rfl) ?_
    refine lv_icmp_lt (tgt := 16) hx hb dJ3_checkIndex_8e157_6 (by decide) (fun c2 => ?_) (fun c2 => ?_)
    · have hf := it_t hf c2
      refine lv_iload_n hx hb dJ3_checkIndex_8e157_16 rfl (lv_at hl 0 rfl) ?_
      exact rtRi X hlk hr (so_i hf) dJ3_checkIndex_8e157_17
    · have hf := it_f hf c2
      cases hf
set_option maxRecDepth 100000 in
theorem tJ3_checkIndex_8e157N (l : Launch) (E : Ev) (st : St) (sz : Nat) (p1 : Int32) (p2 : Int32) {res : Int32} (hf : fJ3_checkIndex_8e157  p1 p2 = some res) : Met l yJ3_checkIndex_8e157 (.code yJ3_checkIndex_8e157 cJ3_checkIndex_8e157 3 (some .int) :: uW) (rmk 0) (va_Pc [.int p1, .int p2, .null] (Pre E st sz)) (QRi res) 0 0 (NoF) := by
  refine Met_in (by decide) (Nat.le_of_ble_eq_true rfl) ?_
  intro p e s m below meth c X hr hlk hz G ls hl
  have hx := X.1.1
  have hb := X.1.2.1
  have hl : lv_has ls 3 [(0, .int p1), (1, .int p2), (2, .null)] := hl
  unfold fJ3_checkIndex_8e157 at hf
  refine lv_iload_n hx hb dJ3_checkIndex_8e157_0 rfl (lv_at hl 0 rfl) ?_
  refine lv_if_lt (tgt := 9) hx hb dJ3_checkIndex_8e157_1 (by decide) (fun c1 => ?_) (fun c1 => ?_)
  · have hf := it_t hf c1
    cases hf
  · have hf := it_f hf c1
    refine lv_iload_n hx hb dJ3_checkIndex_8e157_4 rfl (lv_at hl 0 rfl) ?_
    refine lv_iload_n hx hb dJ3_checkIndex_8e157_5 rfl (lv_at hl 1 rfl) ?_
    refine lv_icmp_lt (tgt := 16) hx hb dJ3_checkIndex_8e157_6 (by decide) (fun c2 => ?_) (fun c2 => ?_)
    · have hf := it_t hf c2
      refine lv_iload_n hx hb dJ3_checkIndex_8e157_16 rfl (lv_at hl 0 rfl) ?_
      exact rtRi X hlk hr (so_i hf) dJ3_checkIndex_8e157_17
    · have hf := it_f hf c2
      cases hf
def fJ0_checkIndex_df160 (p1 : Int32) (p2 : Int32) : Option Unit := br (fJ3_checkIndex_8e157 p1 p2) (fun _ => some ())
set_option maxRecDepth 100000 in
theorem tJ0_checkIndex_df160 (l : Launch) (E : Ev) (st : St) (sz : Nat) (p1 : Int32) (p2 : Int32) {res : Unit} (hf : fJ0_checkIndex_df160  p1 p2 = some res) : Met l yJ0_checkIndex_df160 (.code yJ0_checkIndex_df160 cJ0_checkIndex_df160 2 none :: uW) (rmk 1) (va_Pc [.int p1, .int p2] (Pre E st sz)) (QRu) 0 0 (NoF) := by
  refine Met_in (by decide) (Nat.le_of_ble_eq_true rfl) ?_
  intro p e s m below meth c X hr hlk hz G ls hl
  have hx := X.1.1
  have hb := X.1.2.1
  have hl : lv_has ls 2 [(0, .int p1), (1, .int p2)] := hl
  unfold fJ0_checkIndex_df160 at hf
  refine lv_iload_n hx hb dJ0_checkIndex_df160_0 rfl (lv_at hl 0 rfl) ?_
  refine lv_iload_n hx hb dJ0_checkIndex_df160_1 rfl (lv_at hl 1 rfl) ?_
  rcases X.2.2.2.1.2.2.2.2.2.2 with hz | ⟨t9, hz⟩
  · refine va_gets hx hb hz G.2.2 X.1.2.2.2.1 (X.1.2.2.2.2 _ kf_J0_1053) (fun _ h9 => h9) dJ0_checkIndex_df160_2 ?_
    obtain ⟨x1, h1, hf⟩ := br_s hf
    refine cSRi (As := [.int p1, .int p2, .null]) (rest := []) X G kc_J0_1059 (tJ3_checkIndex_8e157N l E st _ p1 p2 h1) rfl rfl (rmk_le (by omega) (by decide)) rfl hl.1 rfl (Nat.le_of_ble_eq_true rfl) dJ0_checkIndex_df160_5 ⟨Nat.zero_le _, Nat.zero_le _⟩ ?_
    refine lv_pop hx hb dJ0_checkIndex_df160_8 rfl ?_
    exact rtRu X hlk hr dJ0_checkIndex_df160_9
  · refine va_gets hx hb hz G.2.2 X.1.2.2.2.1 (X.1.2.2.2.2 _ kf_J0_1053) (fun _ h9 => h9) dJ0_checkIndex_df160_2 ?_
    obtain ⟨x1, h1, hf⟩ := br_s hf
    refine cSRi (As := [.int p1, .int p2, .ref t9]) (rest := []) X G kc_J0_1059 (tJ3_checkIndex_8e157 l E st _ (t3 := t9) p1 p2 h1) rfl rfl (rmk_le (by omega) (by decide)) rfl hl.1 rfl (Nat.le_of_ble_eq_true rfl) dJ0_checkIndex_df160_5 ⟨Nat.zero_le _, Nat.zero_le _⟩ ?_
    refine lv_pop hx hb dJ0_checkIndex_df160_8 rfl ?_
    exact rtRu X hlk hr dJ0_checkIndex_df160_9
def fJ1_charAt_3b067 (j1 : Nat) (p2 : Int32) : Option Int32 := br (fJ0_checkIndex_df160 p2 (Int32.ofNat (slen.getD j1 0))) (fun x2 => gd (ix p2 (slen.getD j1 0)) (some (UInt32.toInt32 (Int32.toUInt32 (((sbyt.getD j1 []).getD p2.toNatClampNeg 0) &&& (255 : Int32)) % 65536))))
set_option maxRecDepth 100000 in
theorem tJ1_charAt_3b067 (l : Launch) (E : Ev) (st : St) (sz : Nat) {j1 : Nat} (hj1 : j1 < 23) (p2 : Int32) {res : Int32} (hf : fJ1_charAt_3b067 j1 p2 = some res) : Met l yJ1_charAt_3b067 (.code yJ1_charAt_3b067 cJ1_charAt_3b067 2 (some .char) :: uW) (rmk 2) (va_Pc [.ref (eV E j1), .int p2] (Pre E st sz)) (QRi res) 0 0 (NoF) := by
  refine Met_in (by decide) (Nat.le_of_ble_eq_true rfl) ?_
  intro p e s m below meth c X hr hlk hz G ls hl
  have hx := X.1.1
  have hb := X.1.2.1
  have hl : lv_has ls 2 [(0, .ref (eV E j1)), (1, .int p2)] := hl
  unfold fJ1_charAt_3b067 at hf
  refine lv_iload_n hx hb dJ1_charAt_3b067_0 rfl (lv_at hl 1 rfl) ?_
  refine lv_aload_n hx hb dJ1_charAt_3b067_1 rfl (lv_at hl 0 rfl) ?_
  refine va_tlen hx hb ((X.2.2.2.1.1.1 j1 hj1).2.2.2) G.2.2 rfl dJ1_charAt_3b067_2 ?_
  obtain ⟨x2, h1, hf⟩ := br_s hf
  refine cSRu (As := [.int p2, .int (Int32.ofNat (slen.getD j1 0))]) (rest := []) X G kc_J1_9 (tJ0_checkIndex_df160 l E st _  p2 (Int32.ofNat (slen.getD j1 0)) h1) rfl rfl (rmk_le (by omega) (by decide)) rfl hl.1 rfl (Nat.le_of_ble_eq_true rfl) dJ1_charAt_3b067_3 ⟨Nat.zero_le _, Nat.zero_le _⟩ ?_
  refine lv_aload_n hx hb dJ1_charAt_3b067_6 rfl (lv_at hl 0 rfl) ?_
  refine lv_iload_n hx hb dJ1_charAt_3b067_7 rfl (lv_at hl 1 rfl) ?_
  obtain ⟨h3, hf⟩ := gd_s hf
  refine va_tb hx hb ((X.2.2.2.1.1.1 j1 hj1).2.2.2) G.2.2 (ix_in h3) rfl dJ1_charAt_3b067_8 ?_
  refine lv_sipush (v := (255 : Int32)) hx hb dJ1_charAt_3b067_9 (by decide) ?_
  refine lv_iand hx hb dJ1_charAt_3b067_12 ?_
  refine lv_i2c hx hb dJ1_charAt_3b067_13 rfl ?_
  exact rtRz X hlk hr (pk_nc _) (so_i hf) dJ1_charAt_3b067_14
def fJ0_charAt_5068e (j0 : Nat) (p1 : Int32) : Option Int32 := br (fJ0_isLatin1_aae02 j0) (fun x2 => if x2 = 0 then (none) else (br (fJ1_charAt_3b067 j0 p1) (fun x5 => gd (bc x5) (some x5))))
set_option maxRecDepth 100000 in
theorem tJ0_charAt_5068e (l : Launch) (E : Ev) (st : St) (sz : Nat) {j0 : Nat} (hj0 : j0 < 23) (p1 : Int32) {res : Int32} (hf : fJ0_charAt_5068e j0 p1 = some res) : Met l yJ0_charAt_5068e (.code yJ0_charAt_5068e cJ0_charAt_5068e 2 (some .char) :: uW) (rmk 3) (va_Pc [.ref (eK E j0), .int p1] (Pre E st sz)) (QRi res) 0 0 (NoF) := by
  refine Met_in (by decide) (Nat.le_of_ble_eq_true rfl) ?_
  intro p e s m below meth c X hr hlk hz G ls hl
  have hx := X.1.1
  have hb := X.1.2.1
  have hl : lv_has ls 2 [(0, .ref (eK E j0)), (1, .int p1)] := hl
  unfold fJ0_charAt_5068e at hf
  refine lv_aload_n hx hb dJ0_charAt_5068e_0 rfl (lv_at hl 0 rfl) ?_
  obtain ⟨x2, h1, hf⟩ := br_s hf
  refine cVRi (As := []) (rest := []) X G kc_J0_492 (tJ0_isLatin1_aae02 l E st _ hj0  h1) (vk_recv X.2.2.2.1.1 hj0 G.2.2) rfl rfl (rmk_le (by omega) (by decide)) rfl hl.1 rfl (Nat.le_of_ble_eq_true rfl) dJ0_charAt_5068e_1 ⟨Nat.zero_le _, Nat.zero_le _⟩ ?_
  refine lv_if_eq (tgt := 16) hx hb dJ0_charAt_5068e_4 (by decide) (fun c3 => ?_) (fun c3 => ?_)
  · have hf := it_t hf c3
    refine lv_aload_n hx hb dJ0_charAt_5068e_16 rfl (lv_at hl 0 rfl) ?_
    refine vk_getf hx hb ((X.2.2.2.1.1.1 j0 hj0).2.2.1) G.2.2 X.1.2.2.2.1 (X.1.2.2.2.2 _ kf_J0_9) (fun _ h9 => h9) dJ0_charAt_5068e_17 ?_
    refine lv_iload_n hx hb dJ0_charAt_5068e_20 rfl (lv_at hl 1 rfl) ?_
    cases hf
  · have hf := it_f hf c3
    refine lv_aload_n hx hb dJ0_charAt_5068e_7 rfl (lv_at hl 0 rfl) ?_
    refine vk_getf hx hb ((X.2.2.2.1.1.1 j0 hj0).2.2.1) G.2.2 X.1.2.2.2.1 (X.1.2.2.2.2 _ kf_J0_9) (fun _ h9 => h9) dJ0_charAt_5068e_8 ?_
    refine lv_iload_n hx hb dJ0_charAt_5068e_11 rfl (lv_at hl 1 rfl) ?_
    obtain ⟨x5, h4, hf⟩ := br_s hf
    refine cSRi (As := [.ref (eV E j0), .int p1]) (rest := []) X G kc_J0_495 (tJ1_charAt_3b067 l E st _ hj0 p1 h4) rfl rfl (rmk_le (by omega) (by decide)) rfl hl.1 rfl (Nat.le_of_ble_eq_true rfl) dJ0_charAt_5068e_12 ⟨Nat.zero_le _, Nat.zero_le _⟩ ?_
    obtain ⟨h6, hf⟩ := gd_s hf
    exact rtRz X hlk hr (bc_n h6) (so_i hf) dJ0_charAt_5068e_15
def fX10_stood_L63 (j1 : Nat) (st : St) : Nat → Int32 → Int32 → Option Int32
  | 0, _, _ => none
  | n + 1, y3, y4 => br (fJ0_length_8abf5 j1) (fun x2 => if x2 ≤ y4 then (gd (bz y3) (some y3)) else (if y3 = 0 then (gd (bz y3) (some y3)) else (gd (ix ((st.1 500 30) + y4) 400) (br (fJ0_charAt_5068e j1 y4) (fun x7 => if (st.1 540 ((st.1 500 30) + y4).toNatClampNeg) = x7 then (nm (y4 + (1 : Int32)) (fun x9 => (fX10_stood_L63 j1 st n) (1 : Int32) x9)) else (nm (y4 + (1 : Int32)) (fun x9 => (fX10_stood_L63 j1 st n) (0 : Int32) x9)))))))
set_option maxRecDepth 100000 in
theorem wX10_stood_L63 {p : Program} {l : Launch} {e : Env} {s : State} {m : MethodId} {args : Array Value} {below : List Frame} {meth : Method} {c : Code} {E : Ev} (hL : ∀ k, fxM k = true → k ∈ eL E) {j1 : Nat} (hj1 : j1 < 23) {st : St} {sz : Nat} {res : Int32} (X : CX p s m args c E RX10 cX10_stood 5 (Af E sz)) (hr : meth.sig.returnType = (some .boolean)) (hlk : meth.locks = false) (G : Gd E st (Af E sz) s s.heap []) : ∀ (n : Nat) (y3 : Int32) (y4 : Int32), fX10_stood_L63 j1 st  n y3 y4 = some res → ∀ ls : Array Slot, lv_has ls 5 [(0, .ref (eq E 500)), (1, .ref (eK E j1)), (3, .int y3), (4, .int y4)] → W p l e (rmk 4) s m args below meth c s.heap [] 0 0 (MQ below (QRi res) args s 0 0 (NoF)) (F0 m 63 ls []) := by
  have hx := X.1.1
  have hb := X.1.2.1
  intro n
  induction n with
  | zero =>
    intro y3 y4 hf ls hl
    cases (show (none : Option Int32) = some res from hf)
  | succ n ih =>
    intro y3 y4 hf ls hl
    rw [fX10_stood_L63] at hf
    refine lv_iload hx hb dX10_stood_63 (lv_at hl 3 rfl) ?_
    refine lv_aload_n hx hb dX10_stood_65 rfl (lv_at hl 1 rfl) ?_
    obtain ⟨x2, h1, hf⟩ := br_s hf
    refine cVRi (As := []) (rest := [.int y4]) X G kc_X10_201 (tJ0_length_8abf5 l E st _ hj1  h1) (vk_recv X.2.2.2.1.1 hj1 G.2.2) rfl rfl (rmk_le (by omega) (by decide)) rfl hl.1 rfl (Nat.le_of_ble_eq_true rfl) dX10_stood_66 ⟨Nat.zero_le _, Nat.zero_le _⟩ ?_
    refine lv_icmp_ge (tgt := 109) hx hb dX10_stood_69 (by decide) (fun c3 => ?_) (fun c3 => ?_)
    · have hf := it_t hf c3
      refine lv_iload_n hx hb dX10_stood_109 rfl (lv_at hl 2 rfl) ?_
      obtain ⟨h4, hf⟩ := gd_s hf
      exact rtRz X hlk hr (bz_n h4) (so_i hf) dX10_stood_110
    · have hf := it_f hf c3
      refine lv_iload_n hx hb dX10_stood_72 rfl (lv_at hl 2 rfl) ?_
      refine lv_if_eq (tgt := 109) hx hb dX10_stood_73 (by decide) (fun c4 => ?_) (fun c4 => ?_)
      · have hf := it_t hf c4
        refine lv_iload_n hx hb dX10_stood_109 rfl (lv_at hl 2 rfl) ?_
        obtain ⟨h5, hf⟩ := gd_s hf
        exact rtRz X hlk hr (bz_n h5) (so_i hf) dX10_stood_110
      · have hf := it_f hf c4
        refine lv_aload_n hx hb dX10_stood_76 rfl (lv_at hl 0 rfl) ?_
        refine gf10 X G (hL 500 rfl) rfl 39 (by decide) rfl kf_X10_95 iwX10 dX10_stood_77 ?_
        refine lv_aload_n hx hb dX10_stood_80 rfl (lv_at hl 0 rfl) ?_
        refine gf10 X G (hL 500 rfl) rfl 30 (by decide) rfl kf_X10_190 iwX10 dX10_stood_81 ?_
        refine lv_iload hx hb dX10_stood_84 (lv_at hl 3 rfl) ?_
        refine lv_iadd hx hb dX10_stood_86 ?_
        obtain ⟨h5, hf⟩ := gd_s hf
        refine ba_ld (k := 540) (n := 400) X G (hL 540 rfl) rfl (by decide) (ix_in h5) dX10_stood_87 ?_
        refine lv_aload_n hx hb dX10_stood_88 rfl (lv_at hl 1 rfl) ?_
        refine lv_iload hx hb dX10_stood_89 (lv_at hl 3 rfl) ?_
        obtain ⟨x7, h6, hf⟩ := br_s hf
        refine cVRi (As := [.int y4]) (rest := [.int (st.1 540 ((st.1 500 30) + y4).toNatClampNeg)]) X G kc_X10_206 (tJ0_charAt_5068e l E st _ hj1 y4 h6) (vk_recv X.2.2.2.1.1 hj1 G.2.2) rfl rfl (rmk_le (by omega) (by decide)) rfl hl.1 rfl (Nat.le_of_ble_eq_true rfl) dX10_stood_91 ⟨Nat.zero_le _, Nat.zero_le _⟩ ?_
        refine lv_icmp_ne (tgt := 101) hx hb dX10_stood_94 (by decide) (fun c8 => ?_) (fun c8 => ?_)
        · have hf := it_f hf c8
          refine lv_iconst (v := (0 : Int32)) hx hb dX10_stood_101 (by decide) ?_
          refine lv_istore_n (lv' := [(3, .int (0 : Int32)), (0, .ref (eq E 500)), (1, .ref (eK E j1)), (4, .int y4)]) hx hb dX10_stood_102 rfl hl (by decide) rfl (fun ls hl => ?_)
          obtain ⟨x9, ex9⟩ : ∃ y : Int32, y = (y4 + (1 : Int32)) := ⟨_, rfl⟩
          have hf := nm_s hf x9 ex9
          refine lv_iinc (k := 3) (v := x9) (lv' := [(4, .int x9), (3, .int (0 : Int32)), (0, .ref (eq E 500)), (1, .ref (eK E j1))]) hx hb dX10_stood_103 hl rfl (by rw [ex9]; rfl) (by decide) rfl (fun ls hl => ?_)
          refine lv_goto (tgt := 63) hx hb dX10_stood_106 (by decide) ?_
          exact ih (0 : Int32) x9 hf _ (lv_sub hl [2, 3, 1, 0] rfl)
        · have hf := it_t hf c8
          refine lv_iconst (v := (1 : Int32)) hx hb dX10_stood_97 (by decide) ?_
          refine lv_goto (tgt := 102) hx hb dX10_stood_98 (by decide) ?_
          refine lv_istore_n (lv' := [(3, .int (1 : Int32)), (0, .ref (eq E 500)), (1, .ref (eK E j1)), (4, .int y4)]) hx hb dX10_stood_102 rfl hl (by decide) rfl (fun ls hl => ?_)
          obtain ⟨x9, ex9⟩ : ∃ y : Int32, y = (y4 + (1 : Int32)) := ⟨_, rfl⟩
          have hf := nm_s hf x9 ex9
          refine lv_iinc (k := 3) (v := x9) (lv' := [(4, .int x9), (3, .int (1 : Int32)), (0, .ref (eq E 500)), (1, .ref (eK E j1))]) hx hb dX10_stood_103 hl rfl (by rw [ex9]; rfl) (by decide) rfl (fun ls hl => ?_)
          refine lv_goto (tgt := 63) hx hb dX10_stood_106 (by decide) ?_
          exact ih (1 : Int32) x9 hf _ (lv_sub hl [2, 3, 1, 0] rfl)
def fX10_stood_B41 (j1 : Nat) (st : St) (y2 : Int32) : Option Int32 := br (fJ0_length_8abf5 j1) (fun x2 => if (y2 - (st.1 500 30)) = x2 then (fX10_stood_L63 j1 st 10000 (1 : Int32) (0 : Int32)) else (fX10_stood_L63 j1 st 10000 (0 : Int32) (0 : Int32)))
set_option maxRecDepth 100000 in
theorem wX10_stood_B41 {p : Program} {l : Launch} {e : Env} {s : State} {m : MethodId} {args : Array Value} {below : List Frame} {meth : Method} {c : Code} {E : Ev} (hL : ∀ k, fxM k = true → k ∈ eL E) {j1 : Nat} (hj1 : j1 < 23) {st : St} {sz : Nat} {res : Int32} (X : CX p s m args c E RX10 cX10_stood 5 (Af E sz)) (hr : meth.sig.returnType = (some .boolean)) (hlk : meth.locks = false) (G : Gd E st (Af E sz) s s.heap []) : ∀ (y2 : Int32), fX10_stood_B41 j1 st  y2 = some res → ∀ ls : Array Slot, lv_has ls 5 [(0, .ref (eq E 500)), (1, .ref (eK E j1)), (2, .int y2)] → W p l e (rmk 4) s m args below meth c s.heap [] 0 0 (MQ below (QRi res) args s 0 0 (NoF)) (F0 m 41 ls []) := by
  have hx := X.1.1
  have hb := X.1.2.1
  intro y2 hf ls hl
  unfold fX10_stood_B41 at hf
  refine lv_iload_n hx hb dX10_stood_41 rfl (lv_at hl 2 rfl) ?_
  refine lv_aload_n hx hb dX10_stood_42 rfl (lv_at hl 0 rfl) ?_
  refine gf10 X G (hL 500 rfl) rfl 30 (by decide) rfl kf_X10_190 iwX10 dX10_stood_43 ?_
  refine lv_isub hx hb dX10_stood_46 ?_
  refine lv_aload_n hx hb dX10_stood_47 rfl (lv_at hl 1 rfl) ?_
  obtain ⟨x2, h1, hf⟩ := br_s hf
  refine cVRi (As := []) (rest := [.int (y2 - (st.1 500 30))]) X G kc_X10_201 (tJ0_length_8abf5 l E st _ hj1  h1) (vk_recv X.2.2.2.1.1 hj1 G.2.2) rfl rfl (rmk_le (by omega) (by decide)) rfl hl.1 rfl (Nat.le_of_ble_eq_true rfl) dX10_stood_48 ⟨Nat.zero_le _, Nat.zero_le _⟩ ?_
  refine lv_icmp_ne (tgt := 58) hx hb dX10_stood_51 (by decide) (fun c3 => ?_) (fun c3 => ?_)
  · have hf := it_f hf c3
    refine lv_iconst (v := (0 : Int32)) hx hb dX10_stood_58 (by decide) ?_
    refine lv_istore_n (lv' := [(3, .int (0 : Int32)), (0, .ref (eq E 500)), (1, .ref (eK E j1)), (2, .int y2)]) hx hb dX10_stood_59 rfl hl (by decide) rfl (fun ls hl => ?_)
    refine lv_iconst (v := (0 : Int32)) hx hb dX10_stood_60 (by decide) ?_
    refine lv_istore (lv' := [(4, .int (0 : Int32)), (3, .int (0 : Int32)), (0, .ref (eq E 500)), (1, .ref (eK E j1)), (2, .int y2)]) hx hb dX10_stood_61 hl (by decide) rfl (fun ls hl => ?_)
    exact wX10_stood_L63 hL hj1 X hr hlk G 10000 (0 : Int32) (0 : Int32) hf _ (lv_sub hl [2, 3, 1, 0] rfl)
  · have hf := it_t hf c3
    refine lv_iconst (v := (1 : Int32)) hx hb dX10_stood_54 (by decide) ?_
    refine lv_goto (tgt := 59) hx hb dX10_stood_55 (by decide) ?_
    refine lv_istore_n (lv' := [(3, .int (1 : Int32)), (0, .ref (eq E 500)), (1, .ref (eK E j1)), (2, .int y2)]) hx hb dX10_stood_59 rfl hl (by decide) rfl (fun ls hl => ?_)
    refine lv_iconst (v := (0 : Int32)) hx hb dX10_stood_60 (by decide) ?_
    refine lv_istore (lv' := [(4, .int (0 : Int32)), (3, .int (1 : Int32)), (0, .ref (eq E 500)), (1, .ref (eK E j1)), (2, .int y2)]) hx hb dX10_stood_61 hl (by decide) rfl (fun ls hl => ?_)
    exact wX10_stood_L63 hL hj1 X hr hlk G 10000 (1 : Int32) (0 : Int32) hf _ (lv_sub hl [2, 3, 1, 0] rfl)
def fX10_stood_L5 (j1 : Nat) (st : St) : Nat → Int32 → Option Int32
  | 0, _ => none
  | n + 1, y2 => if (st.1 500 29) ≤ y2 then (fX10_stood_B41 j1 st y2) else (gd (ix y2 400) (if (st.1 540 y2.toNatClampNeg) < (97 : Int32) then (fX10_stood_B41 j1 st y2) else (gd (ix y2 400) (if (122 : Int32) < (st.1 540 y2.toNatClampNeg) then (fX10_stood_B41 j1 st y2) else (nm (y2 + (1 : Int32)) (fun x6 => (fX10_stood_L5 j1 st n) x6))))))
set_option maxRecDepth 100000 in
theorem wX10_stood_L5 {p : Program} {l : Launch} {e : Env} {s : State} {m : MethodId} {args : Array Value} {below : List Frame} {meth : Method} {c : Code} {E : Ev} (hL : ∀ k, fxM k = true → k ∈ eL E) {j1 : Nat} (hj1 : j1 < 23) {st : St} {sz : Nat} {res : Int32} (X : CX p s m args c E RX10 cX10_stood 5 (Af E sz)) (hr : meth.sig.returnType = (some .boolean)) (hlk : meth.locks = false) (G : Gd E st (Af E sz) s s.heap []) : ∀ (n : Nat) (y2 : Int32), fX10_stood_L5 j1 st  n y2 = some res → ∀ ls : Array Slot, lv_has ls 5 [(0, .ref (eq E 500)), (1, .ref (eK E j1)), (2, .int y2)] → W p l e (rmk 4) s m args below meth c s.heap [] 0 0 (MQ below (QRi res) args s 0 0 (NoF)) (F0 m 5 ls []) := by
  have hx := X.1.1
  have hb := X.1.2.1
  intro n
  induction n with
  | zero =>
    intro y2 hf ls hl
    cases (show (none : Option Int32) = some res from hf)
  | succ n ih =>
    intro y2 hf ls hl
    rw [fX10_stood_L5] at hf
    refine lv_iload_n hx hb dX10_stood_5 rfl (lv_at hl 2 rfl) ?_
    refine lv_aload_n hx hb dX10_stood_6 rfl (lv_at hl 0 rfl) ?_
    refine gf10 X G (hL 500 rfl) rfl 29 (by decide) rfl kf_X10_160 iwX10 dX10_stood_7 ?_
    refine lv_icmp_ge (tgt := 41) hx hb dX10_stood_10 (by decide) (fun c1 => ?_) (fun c1 => ?_)
    · have hf := it_t hf c1
      exact wX10_stood_B41 hL hj1 X hr hlk G y2 hf _ (lv_sub hl [0, 1, 2] rfl)
    · have hf := it_f hf c1
      refine lv_aload_n hx hb dX10_stood_13 rfl (lv_at hl 0 rfl) ?_
      refine gf10 X G (hL 500 rfl) rfl 39 (by decide) rfl kf_X10_95 iwX10 dX10_stood_14 ?_
      refine lv_iload_n hx hb dX10_stood_17 rfl (lv_at hl 2 rfl) ?_
      obtain ⟨h2, hf⟩ := gd_s hf
      refine ba_ld (k := 540) (n := 400) X G (hL 540 rfl) rfl (by decide) (ix_in h2) dX10_stood_18 ?_
      refine lv_bipush (v := (97 : Int32)) hx hb dX10_stood_19 (by decide) ?_
      refine lv_icmp_lt (tgt := 41) hx hb dX10_stood_21 (by decide) (fun c3 => ?_) (fun c3 => ?_)
      · have hf := it_t hf c3
        exact wX10_stood_B41 hL hj1 X hr hlk G y2 hf _ (lv_sub hl [0, 1, 2] rfl)
      · have hf := it_f hf c3
        refine lv_aload_n hx hb dX10_stood_24 rfl (lv_at hl 0 rfl) ?_
        refine gf10 X G (hL 500 rfl) rfl 39 (by decide) rfl kf_X10_95 iwX10 dX10_stood_25 ?_
        refine lv_iload_n hx hb dX10_stood_28 rfl (lv_at hl 2 rfl) ?_
        obtain ⟨h4, hf⟩ := gd_s hf
        refine ba_ld (k := 540) (n := 400) X G (hL 540 rfl) rfl (by decide) (ix_in h4) dX10_stood_29 ?_
        refine lv_bipush (v := (122 : Int32)) hx hb dX10_stood_30 (by decide) ?_
        refine lv_icmp_gt (tgt := 41) hx hb dX10_stood_32 (by decide) (fun c5 => ?_) (fun c5 => ?_)
        · have hf := it_t hf c5
          exact wX10_stood_B41 hL hj1 X hr hlk G y2 hf _ (lv_sub hl [0, 1, 2] rfl)
        · have hf := it_f hf c5
          obtain ⟨x6, ex6⟩ : ∃ y : Int32, y = (y2 + (1 : Int32)) := ⟨_, rfl⟩
          have hf := nm_s hf x6 ex6
          refine lv_iinc (k := 2) (v := x6) (lv' := [(2, .int x6), (0, .ref (eq E 500)), (1, .ref (eK E j1))]) hx hb dX10_stood_35 hl rfl (by rw [ex6]; rfl) (by decide) rfl (fun ls hl => ?_)
          refine lv_goto (tgt := 5) hx hb dX10_stood_38 (by decide) ?_
          exact ih x6 hf _ (lv_sub hl [1, 2, 0] rfl)
def fX10_stood (j1 : Nat) (st : St) : Option Int32 := nm (st.1 500 30) (fun x1 => fX10_stood_L5 j1 st 10000 x1)
set_option maxRecDepth 100000 in
theorem tX10_stood (l : Launch) (E : Ev) (st : St) (sz : Nat) (hL : ∀ k, fxM k = true → k ∈ eL E) {j1 : Nat} (hj1 : j1 < 23)  {res : Int32} (hf : fX10_stood j1 st  = some res) : Met l yX10_stood (.code yX10_stood cX10_stood 5 (some .boolean) :: uW) (rmk 4) (va_Pc [.ref (eq E 500), .ref (eK E j1)] (Pre E st sz)) (QRi res) 0 0 (NoF) := by
  refine Met_in (by decide) (Nat.le_of_ble_eq_true rfl) ?_
  intro p e s m below meth c X hr hlk hz G ls hl
  have hx := X.1.1
  have hb := X.1.2.1
  have hl : lv_has ls 5 [(0, .ref (eq E 500)), (1, .ref (eK E j1))] := hl
  unfold fX10_stood at hf
  refine lv_aload_n hx hb dX10_stood_0 rfl (lv_at hl 0 rfl) ?_
  refine gf10 X G (hL 500 rfl) rfl 30 (by decide) rfl kf_X10_190 iwX10 dX10_stood_1 ?_
  refine lv_topi (fun x1 ex1 => ?_)
  have hf := nm_s hf x1 ex1
  refine lv_istore_n (lv' := [(2, .int x1), (0, .ref (eq E 500)), (1, .ref (eK E j1))]) hx hb dX10_stood_4 rfl hl (by decide) rfl (fun ls hl => ?_)
  exact wX10_stood_L5 hL hj1 X hr hlk G 10000 x1 hf _ (lv_sub hl [1, 2, 0] rfl)
def fX10_takes (j1 : Nat) (st : St) : Option (Int32 × St) := br (fX10_blanks st) (fun s2 => br (fX10_stood j1 s2) (fun x4 => if x4 = 0 then (nm (ui s2 500 30 ((s2.1 500 30) + (0 : Int32))) (fun s6 => gd (bz x4) (some (x4, s6)))) else (br (fJ0_length_8abf5 j1) (fun x7 => nm (ui s2 500 30 ((s2.1 500 30) + x7)) (fun s8 => gd (bz x4) (some (x4, s8)))))))
set_option maxRecDepth 100000 in
theorem tX10_takes (l : Launch) (E : Ev) (st : St) (sz : Nat) (hL : ∀ k, fxM k = true → k ∈ eL E) {j1 : Nat} (hj1 : j1 < 23)  {res : (Int32 × St)} (hf : fX10_takes j1  st = some res) : Met l yX10_takes (.code yX10_takes cX10_takes 3 (some .boolean) :: uW) (rmk 5) (va_Pc [.ref (eq E 500), .ref (eK E j1)] (Pre E st sz)) (QWi E res.2 sz res.1) 0 0 (Af E sz) := by
  refine Met_in (by decide) (Nat.le_of_ble_eq_true rfl) ?_
  intro p e s m below meth c X hr hlk hz G ls hl
  have hx := X.1.1
  have hb := X.1.2.1
  have hl : lv_has ls 3 [(0, .ref (eq E 500)), (1, .ref (eK E j1))] := hl
  unfold fX10_takes at hf
  refine lv_aload_n hx hb dX10_takes_0 rfl (lv_at hl 0 rfl) ?_
  obtain ⟨s2, h1, hf⟩ := br_s hf
  refine cVWv (As := []) (rest := []) X G kc_X10_210 (tX10_blanks l E st _ hL   h1) (rcv X G (hL 500 rfl) (cO10 rfl) rfl) rfl rfl (rmk_le (by omega) (by decide)) rfl hl.1 rfl (Nat.le_of_ble_eq_true rfl) dX10_takes_1 ⟨Nat.zero_le _, Nat.zero_le _⟩ (fun H locs G => ?_)
  refine lv_aload_n hx hb dX10_takes_4 rfl (lv_at hl 0 rfl) ?_
  refine lv_aload_n hx hb dX10_takes_5 rfl (lv_at hl 1 rfl) ?_
  obtain ⟨x4, h3, hf⟩ := br_s hf
  refine cVRi (As := [.ref (eK E j1)]) (rest := []) X G kc_X10_213 (tX10_stood l E s2 _ hL hj1  h3) (rcv X G (hL 500 rfl) (cO10 rfl) rfl) rfl rfl (rmk_le (by omega) (by decide)) rfl hl.1 rfl (Nat.le_of_ble_eq_true rfl) dX10_takes_6 ⟨Nat.zero_le _, Nat.zero_le _⟩ ?_
  refine lv_istore_n (lv' := [(2, .int x4), (0, .ref (eq E 500)), (1, .ref (eK E j1))]) hx hb dX10_takes_9 rfl hl (by decide) rfl (fun ls hl => ?_)
  refine lv_aload_n hx hb dX10_takes_10 rfl (lv_at hl 1 rfl) ?_
  refine lv_dup hx hb dX10_takes_11 rfl ?_
  refine gf10 X G (hL 500 rfl) rfl 30 (by decide) rfl kf_X10_190 iwX10 dX10_takes_12 ?_
  refine lv_iload_n hx hb dX10_takes_15 rfl (lv_at hl 0 rfl) ?_
  refine lv_if_eq (tgt := 26) hx hb dX10_takes_16 (by decide) (fun c5 => ?_) (fun c5 => ?_)
  · have hf := it_t hf c5
    refine lv_iconst (v := (0 : Int32)) hx hb dX10_takes_26 (by decide) ?_
    refine lv_iadd hx hb dX10_takes_27 ?_
    refine pf10 X G (hL 500 rfl) rfl 30 (by decide) ps10_30 uio kf_X10_190 iwX10 rfl (ty := .int) (by decide +kernel) rfl rfl dX10_takes_28 (fun s6 es6 H locs G => ?_)
    have hf := nm_s hf s6 es6
    refine lv_iload_n hx hb dX10_takes_31 rfl (lv_at hl 0 rfl) ?_
    obtain ⟨h7, hf⟩ := gd_s hf
    exact rtWz X hlk G hr (bz_n h7) (so_i hf) dX10_takes_32
  · have hf := it_f hf c5
    refine lv_aload_n hx hb dX10_takes_19 rfl (lv_at hl 2 rfl) ?_
    obtain ⟨x7, h6, hf⟩ := br_s hf
    refine cVRi (As := []) (rest := [.int (s2.1 500 30), .ref (eq E 500)]) X G kc_X10_201 (tJ0_length_8abf5 l E s2 _ hj1  h6) (vk_recv X.2.2.2.1.1 hj1 G.2.2) rfl rfl (rmk_le (by omega) (by decide)) rfl hl.1 rfl (Nat.le_of_ble_eq_true rfl) dX10_takes_20 ⟨Nat.zero_le _, Nat.zero_le _⟩ ?_
    refine lv_goto (tgt := 27) hx hb dX10_takes_23 (by decide) ?_
    refine lv_iadd hx hb dX10_takes_27 ?_
    refine pf10 X G (hL 500 rfl) rfl 30 (by decide) ps10_30 uio kf_X10_190 iwX10 rfl (ty := .int) (by decide +kernel) rfl rfl dX10_takes_28 (fun s8 es8 H locs G => ?_)
    have hf := nm_s hf s8 es8
    refine lv_iload_n hx hb dX10_takes_31 rfl (lv_at hl 0 rfl) ?_
    obtain ⟨h9, hf⟩ := gd_s hf
    exact rtWz X hlk G hr (bz_n h9) (so_i hf) dX10_takes_32
def fX10_entry (p1 : Int32) (p2 : Int32) (st : St) : Option St := if (st.1 500 31) = 0 then (gd (ix (((300 : Int32) * (st.1 500 32)) + (st.1 500 34)) 1800) (nm (ui st 541 (((300 : Int32) * (st.1 500 32)) + (st.1 500 34)).toNatClampNeg p1) (fun s3 => gd (ix (((300 : Int32) * (s3.1 500 32)) + (s3.1 500 34)) 1800) (nm (ui s3 542 (((300 : Int32) * (s3.1 500 32)) + (s3.1 500 34)).toNatClampNeg p2) (fun s5 => nm (ui s5 500 34 ((s5.1 500 34) + (1 : Int32))) (fun s6 => some s6)))))) else (some st)
set_option maxRecDepth 100000 in
theorem tX10_entry (l : Launch) (E : Ev) (st : St) (sz : Nat) (hL : ∀ k, fxM k = true → k ∈ eL E) (p1 : Int32) (p2 : Int32) {res : St} (hf : fX10_entry  p1 p2 st = some res) : Met l yX10_entry (.code yX10_entry cX10_entry 3 none :: uW) (rmk 0) (va_Pc [.ref (eq E 500), .int p1, .int p2] (Pre E st sz)) (QWv E res sz) 0 0 (Af E sz) := by
  refine Met_in (by decide) (Nat.le_of_ble_eq_true rfl) ?_
  intro p e s m below meth c X hr hlk hz G ls hl
  have hx := X.1.1
  have hb := X.1.2.1
  have hl : lv_has ls 3 [(0, .ref (eq E 500)), (1, .int p1), (2, .int p2)] := hl
  unfold fX10_entry at hf
  refine lv_aload_n hx hb dX10_entry_0 rfl (lv_at hl 0 rfl) ?_
  refine gf10 X G (hL 500 rfl) rfl 31 (by decide) rfl kf_X10_187 iwX10 dX10_entry_1 ?_
  refine lv_if_ne (tgt := 55) hx hb dX10_entry_4 (by decide) (fun c1 => ?_) (fun c1 => ?_)
  · have hf := it_f hf c1
    exact rtWv X hlk G hr (so_i hf) dX10_entry_55
  · have hf := it_t hf c1
    refine lv_aload_n hx hb dX10_entry_7 rfl (lv_at hl 0 rfl) ?_
    refine gf10 X G (hL 500 rfl) rfl 40 (by decide) rfl kf_X10_99 iwX10 dX10_entry_8 ?_
    refine lv_sipush (v := (300 : Int32)) hx hb dX10_entry_11 (by decide) ?_
    refine lv_aload_n hx hb dX10_entry_14 rfl (lv_at hl 0 rfl) ?_
    refine gf10 X G (hL 500 rfl) rfl 32 (by decide) rfl kf_X10_217 iwX10 dX10_entry_15 ?_
    refine lv_imul hx hb dX10_entry_18 ?_
    refine lv_aload_n hx hb dX10_entry_19 rfl (lv_at hl 0 rfl) ?_
    refine gf10 X G (hL 500 rfl) rfl 34 (by decide) rfl kf_X10_220 iwX10 dX10_entry_20 ?_
    refine lv_iadd hx hb dX10_entry_23 ?_
    refine lv_iload_n hx hb dX10_entry_24 rfl (lv_at hl 1 rfl) ?_
    obtain ⟨h2, hf⟩ := gd_s hf
    refine ia_st (k := 541) (n := 1800) X G (hL 541 rfl) rfl (by decide) (ix_in h2) dX10_entry_25 (fun s3 es3 H locs G => ?_)
    have hf := nm_s hf s3 es3
    refine lv_aload_n hx hb dX10_entry_26 rfl (lv_at hl 0 rfl) ?_
    refine gf10 X G (hL 500 rfl) rfl 41 (by decide) rfl kf_X10_102 iwX10 dX10_entry_27 ?_
    refine lv_sipush (v := (300 : Int32)) hx hb dX10_entry_30 (by decide) ?_
    refine lv_aload_n hx hb dX10_entry_33 rfl (lv_at hl 0 rfl) ?_
    refine gf10 X G (hL 500 rfl) rfl 32 (by decide) rfl kf_X10_217 iwX10 dX10_entry_34 ?_
    refine lv_imul hx hb dX10_entry_37 ?_
    refine lv_aload_n hx hb dX10_entry_38 rfl (lv_at hl 0 rfl) ?_
    refine gf10 X G (hL 500 rfl) rfl 34 (by decide) rfl kf_X10_220 iwX10 dX10_entry_39 ?_
    refine lv_iadd hx hb dX10_entry_42 ?_
    refine lv_iload_n hx hb dX10_entry_43 rfl (lv_at hl 2 rfl) ?_
    obtain ⟨h4, hf⟩ := gd_s hf
    refine ia_st (k := 542) (n := 1800) X G (hL 542 rfl) rfl (by decide) (ix_in h4) dX10_entry_44 (fun s5 es5 H locs G => ?_)
    have hf := nm_s hf s5 es5
    refine lv_aload_n hx hb dX10_entry_45 rfl (lv_at hl 0 rfl) ?_
    refine lv_dup hx hb dX10_entry_46 rfl ?_
    refine gf10 X G (hL 500 rfl) rfl 34 (by decide) rfl kf_X10_220 iwX10 dX10_entry_47 ?_
    refine lv_iconst (v := (1 : Int32)) hx hb dX10_entry_50 (by decide) ?_
    refine lv_iadd hx hb dX10_entry_51 ?_
    refine pf10 X G (hL 500 rfl) rfl 34 (by decide) ps10_34 uio kf_X10_220 iwX10 rfl (ty := .int) (by decide +kernel) rfl rfl dX10_entry_52 (fun s6 es6 H locs G => ?_)
    have hf := nm_s hf s6 es6
    exact rtWv X hlk G hr (so_i hf) dX10_entry_55
def fX10_isCounted_B15 (p1 : Int32) (st : St) : Option St := nm (ui st 500 36 ((st.1 500 36) + (1 : Int32))) (fun s1 => some s1)
set_option maxRecDepth 100000 in
theorem wX10_isCounted_B15 {p : Program} {l : Launch} {e : Env} {s : State} {m : MethodId} {args : Array Value} {below : List Frame} {meth : Method} {c : Code} {E : Ev} (hL : ∀ k, fxM k = true → k ∈ eL E) {p1 : Int32} {sz : Nat} {res : St} (X : CX p s m args c E RX10 cX10_isCounted 2 (Af E sz)) (hr : meth.sig.returnType = none) (hlk : meth.locks = false) : ∀  (st : St) (H : Heap) (locs : List Loc), fX10_isCounted_B15 p1   st = some res → Gd E st (Af E sz) s H locs → ∀ ls : Array Slot, lv_has ls 2 [(0, .ref (eq E 500))] → W p l e (rmk 1) s m args below meth c H locs 0 0 (MQ below (QWv E res sz) args s 0 0 (Af E sz)) (F0 m 15 ls []) := by
  have hx := X.1.1
  have hb := X.1.2.1
  intro  st H locs hf G ls hl
  unfold fX10_isCounted_B15 at hf
  refine lv_aload_n hx hb dX10_isCounted_15 rfl (lv_at hl 0 rfl) ?_
  refine lv_dup hx hb dX10_isCounted_16 rfl ?_
  refine gf10 X G (hL 500 rfl) rfl 36 (by decide) rfl kf_X10_223 iwX10 dX10_isCounted_17 ?_
  refine lv_iconst (v := (1 : Int32)) hx hb dX10_isCounted_20 (by decide) ?_
  refine lv_iadd hx hb dX10_isCounted_21 ?_
  refine pf10 X G (hL 500 rfl) rfl 36 (by decide) ps10_36 uio kf_X10_223 iwX10 rfl (ty := .int) (by decide +kernel) rfl rfl dX10_isCounted_22 (fun s1 es1 H locs G => ?_)
  have hf := nm_s hf s1 es1
  exact rtWv X hlk G hr (so_i hf) dX10_isCounted_25
def fX10_isCounted (p1 : Int32) (st : St) : Option St := if (st.1 500 36) = (60 : Int32) then (br (fX10_fails (3 : Int32) p1 st) (fun s3 => fX10_isCounted_B15 p1 s3)) else (fX10_isCounted_B15 p1 st)
set_option maxRecDepth 100000 in
theorem tX10_isCounted (l : Launch) (E : Ev) (st : St) (sz : Nat) (hL : ∀ k, fxM k = true → k ∈ eL E) (p1 : Int32) {res : St} (hf : fX10_isCounted  p1 st = some res) : Met l yX10_isCounted (.code yX10_isCounted cX10_isCounted 2 none :: uW) (rmk 1) (va_Pc [.ref (eq E 500), .int p1] (Pre E st sz)) (QWv E res sz) 0 0 (Af E sz) := by
  refine Met_in (by decide) (Nat.le_of_ble_eq_true rfl) ?_
  intro p e s m below meth c X hr hlk hz G ls hl
  have hx := X.1.1
  have hb := X.1.2.1
  have hl : lv_has ls 2 [(0, .ref (eq E 500)), (1, .int p1)] := hl
  unfold fX10_isCounted at hf
  refine lv_aload_n hx hb dX10_isCounted_0 rfl (lv_at hl 0 rfl) ?_
  refine gf10 X G (hL 500 rfl) rfl 36 (by decide) rfl kf_X10_223 iwX10 dX10_isCounted_1 ?_
  refine lv_bipush (v := (60 : Int32)) hx hb dX10_isCounted_4 (by decide) ?_
  refine lv_icmp_ne (tgt := 15) hx hb dX10_isCounted_6 (by decide) (fun c1 => ?_) (fun c1 => ?_)
  · have hf := it_f hf c1
    exact wX10_isCounted_B15 hL X hr hlk st _ _ hf G _ (lv_sub hl [0] rfl)
  · have hf := it_t hf c1
    refine lv_aload_n hx hb dX10_isCounted_9 rfl (lv_at hl 0 rfl) ?_
    refine lv_iconst (v := (3 : Int32)) hx hb dX10_isCounted_10 (by decide) ?_
    refine lv_iload_n hx hb dX10_isCounted_11 rfl (lv_at hl 1 rfl) ?_
    obtain ⟨s3, h2, hf⟩ := br_s hf
    refine cVWv (As := [.int (3 : Int32), .int p1]) (rest := []) X G kc_X10_226 (tX10_fails l E st _ hL  (3 : Int32) p1 h2) (rcv X G (hL 500 rfl) (cO10 rfl) rfl) rfl rfl (rmk_le (by omega) (by decide)) rfl hl.1 rfl (Nat.le_of_ble_eq_true rfl) dX10_isCounted_12 ⟨Nat.zero_le _, Nat.zero_le _⟩ (fun H locs G => ?_)
    exact wX10_isCounted_B15 hL X hr hlk s3 _ _ hf G _ (lv_sub hl [0] rfl)
def fX10_digits_B87 (p1 : Int32) (y2 : Int32) (y3 : Int32) (st : St) : Option (Int32 × St) := br (fX10_fails (1 : Int32) y2 st) (fun s2 => some (y3, s2))
set_option maxRecDepth 100000 in
theorem wX10_digits_B87 {p : Program} {l : Launch} {e : Env} {s : State} {m : MethodId} {args : Array Value} {below : List Frame} {meth : Method} {c : Code} {E : Ev} (hL : ∀ k, fxM k = true → k ∈ eL E) {p1 : Int32} {sz : Nat} {res : (Int32 × St)} (X : CX p s m args c E RX10 cX10_digits 4 (Af E sz)) (hr : meth.sig.returnType = (some .int)) (hlk : meth.locks = false) : ∀ (y2 : Int32) (y3 : Int32) (st : St) (H : Heap) (locs : List Loc), fX10_digits_B87 p1  y2 y3 st = some res → Gd E st (Af E sz) s H locs → ∀ ls : Array Slot, lv_has ls 4 [(0, .ref (eq E 500)), (2, .int y2), (3, .int y3)] → W p l e (rmk 2) s m args below meth c H locs 0 0 (MQ below (QWi E res.2 sz res.1) args s 0 0 (Af E sz)) (F0 m 87 ls []) := by
  have hx := X.1.1
  have hb := X.1.2.1
  intro y2 y3 st H locs hf G ls hl
  unfold fX10_digits_B87 at hf
  refine lv_aload_n hx hb dX10_digits_87 rfl (lv_at hl 0 rfl) ?_
  refine lv_iconst (v := (1 : Int32)) hx hb dX10_digits_88 (by decide) ?_
  refine lv_iload_n hx hb dX10_digits_89 rfl (lv_at hl 1 rfl) ?_
  obtain ⟨s2, h1, hf⟩ := br_s hf
  refine cVWv (As := [.int (1 : Int32), .int y2]) (rest := []) X G kc_X10_226 (tX10_fails l E st _ hL  (1 : Int32) y2 h1) (rcv X G (hL 500 rfl) (cO10 rfl) rfl) rfl rfl (rmk_le (by omega) (by decide)) rfl hl.1 rfl (Nat.le_of_ble_eq_true rfl) dX10_digits_90 ⟨Nat.zero_le _, Nat.zero_le _⟩ (fun H locs G => ?_)
  refine lv_iload_n hx hb dX10_digits_93 rfl (lv_at hl 2 rfl) ?_
  exact rtWi X hlk G hr (so_i hf) dX10_digits_94
def fX10_digits_B58 (p1 : Int32) (k25 : Int32 → Int32 → St → Option (Int32 × St)) (y2 : Int32) (z0 : Int32) (st : St) : Option (Int32 × St) := nm (ui st 500 30 ((st.1 500 30) + (1 : Int32))) (fun s1 => k25 y2 z0 s1)
set_option maxRecDepth 100000 in
theorem wX10_digits_B58 {p : Program} {l : Launch} {e : Env} {s : State} {m : MethodId} {args : Array Value} {below : List Frame} {meth : Method} {c : Code} {E : Ev} (hL : ∀ k, fxM k = true → k ∈ eL E) {p1 : Int32} {sz : Nat} {res : (Int32 × St)} (X : CX p s m args c E RX10 cX10_digits 4 (Af E sz)) (hr : meth.sig.returnType = (some .int)) (hlk : meth.locks = false) {k25 : Int32 → Int32 → St → Option (Int32 × St)} (hk25 : ∀ (y2 : Int32) (y3 : Int32) (st : St) (H : Heap) (locs : List Loc), k25 y2 y3 st = some res → Gd E st (Af E sz) s H locs → ∀ ls : Array Slot, lv_has ls 4 [(0, .ref (eq E 500)), (1, .int p1), (2, .int y2), (3, .int y3)] → W p l e (rmk 2) s m args below meth c H locs 0 0 (MQ below (QWi E res.2 sz res.1) args s 0 0 (Af E sz)) (F0 m 25 ls [])) : ∀ (y2 : Int32) (z0 : Int32) (st : St) (H : Heap) (locs : List Loc), fX10_digits_B58 p1 k25 y2 z0 st = some res → Gd E st (Af E sz) s H locs → ∀ ls : Array Slot, lv_has ls 4 [(0, .ref (eq E 500)), (1, .int p1), (2, .int y2)] → W p l e (rmk 2) s m args below meth c H locs 0 0 (MQ below (QWi E res.2 sz res.1) args s 0 0 (Af E sz)) (F0 m 58 ls [.int z0]) := by
  have hx := X.1.1
  have hb := X.1.2.1
  intro y2 z0 st H locs hf G ls hl
  unfold fX10_digits_B58 at hf
  refine lv_istore_n (lv' := [(3, .int z0), (0, .ref (eq E 500)), (1, .int p1), (2, .int y2)]) hx hb dX10_digits_58 rfl hl (by decide) rfl (fun ls hl => ?_)
  refine lv_aload_n hx hb dX10_digits_59 rfl (lv_at hl 1 rfl) ?_
  refine lv_dup hx hb dX10_digits_60 rfl ?_
  refine gf10 X G (hL 500 rfl) rfl 30 (by decide) rfl kf_X10_190 iwX10 dX10_digits_61 ?_
  refine lv_iconst (v := (1 : Int32)) hx hb dX10_digits_64 (by decide) ?_
  refine lv_iadd hx hb dX10_digits_65 ?_
  refine pf10 X G (hL 500 rfl) rfl 30 (by decide) ps10_30 uio kf_X10_190 iwX10 rfl (ty := .int) (by decide +kernel) rfl rfl dX10_digits_66 (fun s1 es1 H locs G => ?_)
  have hf := nm_s hf s1 es1
  refine lv_goto (tgt := 25) hx hb dX10_digits_69 (by decide) ?_
  exact hk25 y2 z0 s1 _ _ hf G _ (lv_sub hl [1, 2, 3, 0] rfl)
def fX10_digits_L25 (p1 : Int32) : Nat → Int32 → Int32 → St → Option (Int32 × St)
  | 0, _, _, _ => none
  | n + 1, y2, y3, st => br (fX10_isDigit st) (fun x2 => if x2 = 0 then (if (5 : Int32) < ((st.1 500 30) - y2) then (fX10_digits_B87 p1 y2 y3 st) else (if y3 ≤ p1 then (some (y3, st)) else (fX10_digits_B87 p1 y2 y3 st))) else (if (5 : Int32) ≤ ((st.1 500 30) - y2) then (fX10_digits_B58 p1 (fX10_digits_L25 p1 n) y2 y3 st) else (br (fX10_sign st) (fun x6 => fX10_digits_B58 p1 (fX10_digits_L25 p1 n) y2 ((((10 : Int32) * y3) + x6) - (48 : Int32)) st))))
set_option maxRecDepth 100000 in
theorem wX10_digits_L25 {p : Program} {l : Launch} {e : Env} {s : State} {m : MethodId} {args : Array Value} {below : List Frame} {meth : Method} {c : Code} {E : Ev} (hL : ∀ k, fxM k = true → k ∈ eL E) {p1 : Int32} {sz : Nat} {res : (Int32 × St)} (X : CX p s m args c E RX10 cX10_digits 4 (Af E sz)) (hr : meth.sig.returnType = (some .int)) (hlk : meth.locks = false) : ∀ (n : Nat) (y2 : Int32) (y3 : Int32) (st : St) (H : Heap) (locs : List Loc), fX10_digits_L25 p1  n y2 y3 st = some res → Gd E st (Af E sz) s H locs → ∀ ls : Array Slot, lv_has ls 4 [(0, .ref (eq E 500)), (1, .int p1), (2, .int y2), (3, .int y3)] → W p l e (rmk 2) s m args below meth c H locs 0 0 (MQ below (QWi E res.2 sz res.1) args s 0 0 (Af E sz)) (F0 m 25 ls []) := by
  have hx := X.1.1
  have hb := X.1.2.1
  intro n
  induction n with
  | zero =>
    intro y2 y3 st H locs hf G ls hl
    cases (show (none : Option (Int32 × St)) = some res from hf)
  | succ n ih =>
    intro y2 y3 st H locs hf G ls hl
    rw [fX10_digits_L25] at hf
    refine lv_aload_n hx hb dX10_digits_25 rfl (lv_at hl 0 rfl) ?_
    obtain ⟨x2, h1, hf⟩ := br_s hf
    refine cVRi (As := []) (rest := []) X G kc_X10_230 (tX10_isDigit l E st _ hL   h1) (rcv X G (hL 500 rfl) (cO10 rfl) rfl) rfl rfl (rmk_le (by omega) (by decide)) rfl hl.1 rfl (Nat.le_of_ble_eq_true rfl) dX10_digits_26 ⟨Nat.zero_le _, Nat.zero_le _⟩ ?_
    refine lv_if_eq (tgt := 72) hx hb dX10_digits_29 (by decide) (fun c3 => ?_) (fun c3 => ?_)
    · have hf := it_t hf c3
      refine lv_aload_n hx hb dX10_digits_72 rfl (lv_at hl 0 rfl) ?_
      refine gf10 X G (hL 500 rfl) rfl 30 (by decide) rfl kf_X10_190 iwX10 dX10_digits_73 ?_
      refine lv_iload_n hx hb dX10_digits_76 rfl (lv_at hl 2 rfl) ?_
      refine lv_isub hx hb dX10_digits_77 ?_
      refine lv_iconst (v := (5 : Int32)) hx hb dX10_digits_78 (by decide) ?_
      refine lv_icmp_gt (tgt := 87) hx hb dX10_digits_79 (by decide) (fun c4 => ?_) (fun c4 => ?_)
      · have hf := it_t hf c4
        exact wX10_digits_B87 hL X hr hlk y2 y3 st _ _ hf G _ (lv_sub hl [0, 2, 3] rfl)
      · have hf := it_f hf c4
        refine lv_iload_n hx hb dX10_digits_82 rfl (lv_at hl 3 rfl) ?_
        refine lv_iload_n hx hb dX10_digits_83 rfl (lv_at hl 1 rfl) ?_
        refine lv_icmp_le (tgt := 93) hx hb dX10_digits_84 (by decide) (fun c5 => ?_) (fun c5 => ?_)
        · have hf := it_t hf c5
          refine lv_iload_n hx hb dX10_digits_93 rfl (lv_at hl 3 rfl) ?_
          exact rtWi X hlk G hr (so_i hf) dX10_digits_94
        · have hf := it_f hf c5
          exact wX10_digits_B87 hL X hr hlk y2 y3 st _ _ hf G _ (lv_sub hl [0, 2, 3] rfl)
    · have hf := it_f hf c3
      refine lv_aload_n hx hb dX10_digits_32 rfl (lv_at hl 0 rfl) ?_
      refine gf10 X G (hL 500 rfl) rfl 30 (by decide) rfl kf_X10_190 iwX10 dX10_digits_33 ?_
      refine lv_iload_n hx hb dX10_digits_36 rfl (lv_at hl 2 rfl) ?_
      refine lv_isub hx hb dX10_digits_37 ?_
      refine lv_iconst (v := (5 : Int32)) hx hb dX10_digits_38 (by decide) ?_
      refine lv_icmp_ge (tgt := 57) hx hb dX10_digits_39 (by decide) (fun c4 => ?_) (fun c4 => ?_)
      · have hf := it_t hf c4
        refine lv_iload_n hx hb dX10_digits_57 rfl (lv_at hl 3 rfl) ?_
        exact wX10_digits_B58 hL X hr hlk ih y2 y3 st _ _ hf G _ (lv_sub hl [0, 1, 2] rfl)
      · have hf := it_f hf c4
        refine lv_bipush (v := (10 : Int32)) hx hb dX10_digits_42 (by decide) ?_
        refine lv_iload_n hx hb dX10_digits_44 rfl (lv_at hl 3 rfl) ?_
        refine lv_imul hx hb dX10_digits_45 ?_
        refine lv_aload_n hx hb dX10_digits_46 rfl (lv_at hl 0 rfl) ?_
        obtain ⟨x6, h5, hf⟩ := br_s hf
        refine cVRi (As := []) (rest := [.int ((10 : Int32) * y3)]) X G kc_X10_193 (tX10_sign l E st _ hL   h5) (rcv X G (hL 500 rfl) (cO10 rfl) rfl) rfl rfl (rmk_le (by omega) (by decide)) rfl hl.1 rfl (Nat.le_of_ble_eq_true rfl) dX10_digits_47 ⟨Nat.zero_le _, Nat.zero_le _⟩ ?_
        refine lv_iadd hx hb dX10_digits_50 ?_
        refine lv_bipush (v := (48 : Int32)) hx hb dX10_digits_51 (by decide) ?_
        refine lv_isub hx hb dX10_digits_53 ?_
        refine lv_goto (tgt := 58) hx hb dX10_digits_54 (by decide) ?_
        exact wX10_digits_B58 hL X hr hlk ih y2 ((((10 : Int32) * y3) + x6) - (48 : Int32)) st _ _ hf G _ (lv_sub hl [0, 1, 2] rfl)
def fX10_digits (p1 : Int32) (st : St) : Option (Int32 × St) := br (fX10_isDigit st) (fun x2 => if x2 = 0 then (br (fX10_fails (0 : Int32) (st.1 500 30) st) (fun s5 => some ((0 : Int32), s5))) else (nm (st.1 500 30) (fun x4 => fX10_digits_L25 p1 10000 x4 (0 : Int32) st)))
set_option maxRecDepth 100000 in
theorem tX10_digits (l : Launch) (E : Ev) (st : St) (sz : Nat) (hL : ∀ k, fxM k = true → k ∈ eL E) (p1 : Int32) {res : (Int32 × St)} (hf : fX10_digits  p1 st = some res) : Met l yX10_digits (.code yX10_digits cX10_digits 4 (some .int) :: uW) (rmk 2) (va_Pc [.ref (eq E 500), .int p1] (Pre E st sz)) (QWi E res.2 sz res.1) 0 0 (Af E sz) := by
  refine Met_in (by decide) (Nat.le_of_ble_eq_true rfl) ?_
  intro p e s m below meth c X hr hlk hz G ls hl
  have hx := X.1.1
  have hb := X.1.2.1
  have hl : lv_has ls 4 [(0, .ref (eq E 500)), (1, .int p1)] := hl
  unfold fX10_digits at hf
  refine lv_aload_n hx hb dX10_digits_0 rfl (lv_at hl 0 rfl) ?_
  obtain ⟨x2, h1, hf⟩ := br_s hf
  refine cVRi (As := []) (rest := []) X G kc_X10_230 (tX10_isDigit l E st _ hL   h1) (rcv X G (hL 500 rfl) (cO10 rfl) rfl) rfl rfl (rmk_le (by omega) (by decide)) rfl hl.1 rfl (Nat.le_of_ble_eq_true rfl) dX10_digits_1 ⟨Nat.zero_le _, Nat.zero_le _⟩ ?_
  refine lv_if_ne (tgt := 18) hx hb dX10_digits_4 (by decide) (fun c3 => ?_) (fun c3 => ?_)
  · have hf := it_f hf c3
    refine lv_aload_n hx hb dX10_digits_18 rfl (lv_at hl 0 rfl) ?_
    refine gf10 X G (hL 500 rfl) rfl 30 (by decide) rfl kf_X10_190 iwX10 dX10_digits_19 ?_
    refine lv_topi (fun x4 ex4 => ?_)
    have hf := nm_s hf x4 ex4
    refine lv_istore_n (lv' := [(2, .int x4), (0, .ref (eq E 500)), (1, .int p1)]) hx hb dX10_digits_22 rfl hl (by decide) rfl (fun ls hl => ?_)
    refine lv_iconst (v := (0 : Int32)) hx hb dX10_digits_23 (by decide) ?_
    refine lv_istore_n (lv' := [(3, .int (0 : Int32)), (2, .int x4), (0, .ref (eq E 500)), (1, .int p1)]) hx hb dX10_digits_24 rfl hl (by decide) rfl (fun ls hl => ?_)
    exact wX10_digits_L25 hL X hr hlk 10000 x4 (0 : Int32) st _ _ hf G _ (lv_sub hl [2, 3, 1, 0] rfl)
  · have hf := it_t hf c3
    refine lv_aload_n hx hb dX10_digits_7 rfl (lv_at hl 0 rfl) ?_
    refine lv_iconst (v := (0 : Int32)) hx hb dX10_digits_8 (by decide) ?_
    refine lv_aload_n hx hb dX10_digits_9 rfl (lv_at hl 0 rfl) ?_
    refine gf10 X G (hL 500 rfl) rfl 30 (by decide) rfl kf_X10_190 iwX10 dX10_digits_10 ?_
    obtain ⟨s5, h4, hf⟩ := br_s hf
    refine cVWv (As := [.int (0 : Int32), .int (st.1 500 30)]) (rest := []) X G kc_X10_226 (tX10_fails l E st _ hL  (0 : Int32) (st.1 500 30) h4) (rcv X G (hL 500 rfl) (cO10 rfl) rfl) rfl rfl (rmk_le (by omega) (by decide)) rfl hl.1 rfl (Nat.le_of_ble_eq_true rfl) dX10_digits_13 ⟨Nat.zero_le _, Nat.zero_le _⟩ (fun H locs G => ?_)
    refine lv_iconst (v := (0 : Int32)) hx hb dX10_digits_16 (by decide) ?_
    exact rtWi X hlk G hr (so_i hf) dX10_digits_17
def fX10_value_B62 (y1 : Int32) (y2 : Int32) (st : St) : Option St := if y2 = (st.1 500 38) then (br (fX10_fails (0 : Int32) y1 st) (fun s3 => some s3)) else (br (fX10_isCounted y1 st) (fun s3 => br (fX10_wordOf y2) (fun x5 => gd (decide (x5 < 23)) (br (fJ0_length_8abf5 x5) (fun x8 => nm (ui s3 500 30 ((s3.1 500 30) + x8)) (fun s9 => br (fX10_entry (1 : Int32) y2 s9) (fun s11 => some s11)))))))
set_option maxRecDepth 100000 in
theorem wX10_value_B62 {p : Program} {l : Launch} {e : Env} {s : State} {m : MethodId} {args : Array Value} {below : List Frame} {meth : Method} {c : Code} {E : Ev} (hL : ∀ k, fxM k = true → k ∈ eL E) {sz : Nat} {res : St} (X : CX p s m args c E RX10 cX10_value 3 (Af E sz)) (hr : meth.sig.returnType = none) (hlk : meth.locks = false) : ∀ (y1 : Int32) (y2 : Int32) (st : St) (H : Heap) (locs : List Loc), fX10_value_B62   y1 y2 st = some res → Gd E st (Af E sz) s H locs → ∀ ls : Array Slot, lv_has ls 3 [(0, .ref (eq E 500)), (1, .int y1), (2, .int y2)] → W p l e (rmk 5) s m args below meth c H locs 0 0 (MQ below (QWv E res sz) args s 0 0 (Af E sz)) (F0 m 62 ls []) := by
  have hx := X.1.1
  have hb := X.1.2.1
  intro y1 y2 st H locs hf G ls hl
  unfold fX10_value_B62 at hf
  refine lv_iload_n hx hb dX10_value_62 rfl (lv_at hl 2 rfl) ?_
  refine lv_aload_n hx hb dX10_value_63 rfl (lv_at hl 0 rfl) ?_
  refine gf10 X G (hL 500 rfl) rfl 38 (by decide) rfl kf_X10_91 iwX10 dX10_value_64 ?_
  refine lv_icmp_ne (tgt := 77) hx hb dX10_value_67 (by decide) (fun c1 => ?_) (fun c1 => ?_)
  · have hf := it_f hf c1
    refine lv_aload_n hx hb dX10_value_77 rfl (lv_at hl 0 rfl) ?_
    refine lv_iload_n hx hb dX10_value_78 rfl (lv_at hl 1 rfl) ?_
    obtain ⟨s3, h2, hf⟩ := br_s hf
    refine cVWv (As := [.int y1]) (rest := []) X G kc_X10_239 (tX10_isCounted l E st _ hL  y1 h2) (rcv X G (hL 500 rfl) (cO10 rfl) rfl) rfl rfl (rmk_le (by omega) (by decide)) rfl hl.1 rfl (Nat.le_of_ble_eq_true rfl) dX10_value_79 ⟨Nat.zero_le _, Nat.zero_le _⟩ (fun H locs G => ?_)
    refine lv_aload_n hx hb dX10_value_82 rfl (lv_at hl 0 rfl) ?_
    refine lv_dup hx hb dX10_value_83 rfl ?_
    refine gf10 X G (hL 500 rfl) rfl 30 (by decide) rfl kf_X10_190 iwX10 dX10_value_84 ?_
    refine lv_iload_n hx hb dX10_value_87 rfl (lv_at hl 2 rfl) ?_
    obtain ⟨x5, h4, hf⟩ := br_s hf
    obtain ⟨h6, hf⟩ := gd_s hf
    refine cSRq (As := [.int y2]) (rest := [.int (s3.1 500 30), .ref (eq E 500)]) X G kc_X10_245 (tX10_wordOf l E s3 _  y2 h4) rfl rfl (rmk_le (by omega) (by decide)) rfl hl.1 rfl (Nat.le_of_ble_eq_true rfl) dX10_value_88 ⟨Nat.zero_le _, Nat.zero_le _⟩ ?_
    obtain ⟨x8, h7, hf⟩ := br_s hf
    refine cVRi (As := []) (rest := [.int (s3.1 500 30), .ref (eq E 500)]) X G kc_X10_201 (tJ0_length_8abf5 l E s3 _ (of_decide_eq_true h6)  h7) (vk_recv X.2.2.2.1.1 (of_decide_eq_true h6) G.2.2) rfl rfl (rmk_le (by omega) (by decide)) rfl hl.1 rfl (Nat.le_of_ble_eq_true rfl) dX10_value_91 ⟨Nat.zero_le _, Nat.zero_le _⟩ ?_
    refine lv_iadd hx hb dX10_value_94 ?_
    refine pf10 X G (hL 500 rfl) rfl 30 (by decide) ps10_30 uio kf_X10_190 iwX10 rfl (ty := .int) (by decide +kernel) rfl rfl dX10_value_95 (fun s9 es9 H locs G => ?_)
    have hf := nm_s hf s9 es9
    refine lv_aload_n hx hb dX10_value_98 rfl (lv_at hl 0 rfl) ?_
    refine lv_iconst (v := (1 : Int32)) hx hb dX10_value_99 (by decide) ?_
    refine lv_iload_n hx hb dX10_value_100 rfl (lv_at hl 2 rfl) ?_
    obtain ⟨s11, h10, hf⟩ := br_s hf
    refine cVWv (As := [.int (1 : Int32), .int y2]) (rest := []) X G kc_X10_242 (tX10_entry l E s9 _ hL  (1 : Int32) y2 h10) (rcv X G (hL 500 rfl) (cO10 rfl) rfl) rfl rfl (rmk_le (by omega) (by decide)) rfl hl.1 rfl (Nat.le_of_ble_eq_true rfl) dX10_value_101 ⟨Nat.zero_le _, Nat.zero_le _⟩ (fun H locs G => ?_)
    exact rtWv X hlk G hr (so_i hf) dX10_value_104
  · have hf := it_t hf c1
    refine lv_aload_n hx hb dX10_value_70 rfl (lv_at hl 0 rfl) ?_
    refine lv_iconst (v := (0 : Int32)) hx hb dX10_value_71 (by decide) ?_
    refine lv_iload_n hx hb dX10_value_72 rfl (lv_at hl 1 rfl) ?_
    obtain ⟨s3, h2, hf⟩ := br_s hf
    refine cVWv (As := [.int (0 : Int32), .int y1]) (rest := []) X G kc_X10_226 (tX10_fails l E st _ hL  (0 : Int32) y1 h2) (rcv X G (hL 500 rfl) (cO10 rfl) rfl) rfl rfl (rmk_le (by omega) (by decide)) rfl hl.1 rfl (Nat.le_of_ble_eq_true rfl) dX10_value_73 ⟨Nat.zero_le _, Nat.zero_le _⟩ (fun H locs G => ?_)
    exact rtWv X hlk G hr (so_i hf) dX10_value_76
def fX10_value_L37 : Nat → Int32 → Int32 → St → Option St
  | 0, _, _, _ => none
  | n + 1, y1, y2, st => if (st.1 500 38) ≤ y2 then (fX10_value_B62 y1 y2 st) else (br (fX10_wordOf y2) (fun x3 => gd (decide (x3 < 23)) (br (fX10_stood x3 st) (fun x6 => if x6 = 0 then (nm (y2 + (1 : Int32)) (fun x8 => (fX10_value_L37 n) y1 x8 st)) else (fX10_value_B62 y1 y2 st)))))
set_option maxRecDepth 100000 in
theorem wX10_value_L37 {p : Program} {l : Launch} {e : Env} {s : State} {m : MethodId} {args : Array Value} {below : List Frame} {meth : Method} {c : Code} {E : Ev} (hL : ∀ k, fxM k = true → k ∈ eL E) {sz : Nat} {res : St} (X : CX p s m args c E RX10 cX10_value 3 (Af E sz)) (hr : meth.sig.returnType = none) (hlk : meth.locks = false) : ∀ (n : Nat) (y1 : Int32) (y2 : Int32) (st : St) (H : Heap) (locs : List Loc), fX10_value_L37   n y1 y2 st = some res → Gd E st (Af E sz) s H locs → ∀ ls : Array Slot, lv_has ls 3 [(0, .ref (eq E 500)), (1, .int y1), (2, .int y2)] → W p l e (rmk 5) s m args below meth c H locs 0 0 (MQ below (QWv E res sz) args s 0 0 (Af E sz)) (F0 m 37 ls []) := by
  have hx := X.1.1
  have hb := X.1.2.1
  intro n
  induction n with
  | zero =>
    intro y1 y2 st H locs hf G ls hl
    cases (show (none : Option St) = some res from hf)
  | succ n ih =>
    intro y1 y2 st H locs hf G ls hl
    rw [fX10_value_L37] at hf
    refine lv_iload_n hx hb dX10_value_37 rfl (lv_at hl 2 rfl) ?_
    refine lv_aload_n hx hb dX10_value_38 rfl (lv_at hl 0 rfl) ?_
    refine gf10 X G (hL 500 rfl) rfl 38 (by decide) rfl kf_X10_91 iwX10 dX10_value_39 ?_
    refine lv_icmp_ge (tgt := 62) hx hb dX10_value_42 (by decide) (fun c1 => ?_) (fun c1 => ?_)
    · have hf := it_t hf c1
      exact wX10_value_B62 hL X hr hlk y1 y2 st _ _ hf G _ (lv_sub hl [0, 1, 2] rfl)
    · have hf := it_f hf c1
      refine lv_aload_n hx hb dX10_value_45 rfl (lv_at hl 0 rfl) ?_
      refine lv_iload_n hx hb dX10_value_46 rfl (lv_at hl 2 rfl) ?_
      obtain ⟨x3, h2, hf⟩ := br_s hf
      obtain ⟨h4, hf⟩ := gd_s hf
      refine cSRq (As := [.int y2]) (rest := [.ref (eq E 500)]) X G kc_X10_245 (tX10_wordOf l E st _  y2 h2) rfl rfl (rmk_le (by omega) (by decide)) rfl hl.1 rfl (Nat.le_of_ble_eq_true rfl) dX10_value_47 ⟨Nat.zero_le _, Nat.zero_le _⟩ ?_
      obtain ⟨x6, h5, hf⟩ := br_s hf
      refine cVRi (As := [.ref (eK E x3)]) (rest := []) X G kc_X10_213 (tX10_stood l E st _ hL (of_decide_eq_true h4)  h5) (rcv X G (hL 500 rfl) (cO10 rfl) rfl) rfl rfl (rmk_le (by omega) (by decide)) rfl hl.1 rfl (Nat.le_of_ble_eq_true rfl) dX10_value_50 ⟨Nat.zero_le _, Nat.zero_le _⟩ ?_
      refine lv_if_ne (tgt := 62) hx hb dX10_value_53 (by decide) (fun c7 => ?_) (fun c7 => ?_)
      · have hf := it_f hf c7
        exact wX10_value_B62 hL X hr hlk y1 y2 st _ _ hf G _ (lv_sub hl [0, 1, 2] rfl)
      · have hf := it_t hf c7
        obtain ⟨x8, ex8⟩ : ∃ y : Int32, y = (y2 + (1 : Int32)) := ⟨_, rfl⟩
        have hf := nm_s hf x8 ex8
        refine lv_iinc (k := 2) (v := x8) (lv' := [(2, .int x8), (0, .ref (eq E 500)), (1, .int y1)]) hx hb dX10_value_56 hl rfl (by rw [ex8]; rfl) (by decide) rfl (fun ls hl => ?_)
        refine lv_goto (tgt := 37) hx hb dX10_value_59 (by decide) ?_
        exact ih y1 x8 st _ _ hf G _ (lv_sub hl [1, 2, 0] rfl)
def fX10_value (st : St) : Option St := br (fX10_blanks st) (fun s2 => nm (s2.1 500 30) (fun x3 => br (fX10_isDigit s2) (fun x5 => if x5 = 0 then (fX10_value_L37 10000 x3 (0 : Int32) s2) else (bw (fX10_digits (99999 : Int32) s2) (fun x9 s8 => br (fX10_isCounted x3 s8) (fun s11 => br (fX10_entry (0 : Int32) x9 s11) (fun s13 => some s13)))))))
set_option maxRecDepth 100000 in
theorem tX10_value (l : Launch) (E : Ev) (st : St) (sz : Nat) (hL : ∀ k, fxM k = true → k ∈ eL E)  {res : St} (hf : fX10_value   st = some res) : Met l yX10_value (.code yX10_value cX10_value 3 none :: uW) (rmk 5) (va_Pc [.ref (eq E 500)] (Pre E st sz)) (QWv E res sz) 0 0 (Af E sz) := by
  refine Met_in (by decide) (Nat.le_of_ble_eq_true rfl) ?_
  intro p e s m below meth c X hr hlk hz G ls hl
  have hx := X.1.1
  have hb := X.1.2.1
  have hl : lv_has ls 3 [(0, .ref (eq E 500))] := hl
  unfold fX10_value at hf
  refine lv_aload_n hx hb dX10_value_0 rfl (lv_at hl 0 rfl) ?_
  obtain ⟨s2, h1, hf⟩ := br_s hf
  refine cVWv (As := []) (rest := []) X G kc_X10_210 (tX10_blanks l E st _ hL   h1) (rcv X G (hL 500 rfl) (cO10 rfl) rfl) rfl rfl (rmk_le (by omega) (by decide)) rfl hl.1 rfl (Nat.le_of_ble_eq_true rfl) dX10_value_1 ⟨Nat.zero_le _, Nat.zero_le _⟩ (fun H locs G => ?_)
  refine lv_aload_n hx hb dX10_value_4 rfl (lv_at hl 0 rfl) ?_
  refine gf10 X G (hL 500 rfl) rfl 30 (by decide) rfl kf_X10_190 iwX10 dX10_value_5 ?_
  refine lv_topi (fun x3 ex3 => ?_)
  have hf := nm_s hf x3 ex3
  refine lv_istore_n (lv' := [(1, .int x3), (0, .ref (eq E 500))]) hx hb dX10_value_8 rfl hl (by decide) rfl (fun ls hl => ?_)
  refine lv_aload_n hx hb dX10_value_9 rfl (lv_at hl 1 rfl) ?_
  obtain ⟨x5, h4, hf⟩ := br_s hf
  refine cVRi (As := []) (rest := []) X G kc_X10_230 (tX10_isDigit l E s2 _ hL   h4) (rcv X G (hL 500 rfl) (cO10 rfl) rfl) rfl rfl (rmk_le (by omega) (by decide)) rfl hl.1 rfl (Nat.le_of_ble_eq_true rfl) dX10_value_10 ⟨Nat.zero_le _, Nat.zero_le _⟩ ?_
  refine lv_if_eq (tgt := 35) hx hb dX10_value_13 (by decide) (fun c6 => ?_) (fun c6 => ?_)
  · have hf := it_t hf c6
    refine lv_iconst (v := (0 : Int32)) hx hb dX10_value_35 (by decide) ?_
    refine lv_istore_n (lv' := [(2, .int (0 : Int32)), (1, .int x3), (0, .ref (eq E 500))]) hx hb dX10_value_36 rfl hl (by decide) rfl (fun ls hl => ?_)
    exact wX10_value_L37 hL X hr hlk 10000 x3 (0 : Int32) s2 _ _ hf G _ (lv_sub hl [2, 1, 0] rfl)
  · have hf := it_f hf c6
    refine lv_aload_n hx hb dX10_value_16 rfl (lv_at hl 1 rfl) ?_
    refine lv_ldc (v := (99999 : Int32)) hx hb X.1.2.2.2.1 (X.1.2.2.2.2 _ kk_X10_234) dX10_value_17 ?_
    obtain ⟨x9, s8, h7, hf⟩ := bw_s hf
    refine cVWi (As := [.int (99999 : Int32)]) (rest := []) X G kc_X10_235 (tX10_digits l E s2 _ hL  (99999 : Int32) h7) (rcv X G (hL 500 rfl) (cO10 rfl) rfl) rfl rfl (rmk_le (by omega) (by decide)) rfl hl.1 rfl (Nat.le_of_ble_eq_true rfl) dX10_value_19 ⟨Nat.zero_le _, Nat.zero_le _⟩ (fun H locs G => ?_)
    refine lv_istore_n (lv' := [(2, .int x9), (1, .int x3), (0, .ref (eq E 500))]) hx hb dX10_value_22 rfl hl (by decide) rfl (fun ls hl => ?_)
    refine lv_aload_n hx hb dX10_value_23 rfl (lv_at hl 2 rfl) ?_
    refine lv_iload_n hx hb dX10_value_24 rfl (lv_at hl 1 rfl) ?_
    obtain ⟨s11, h10, hf⟩ := br_s hf
    refine cVWv (As := [.int x3]) (rest := []) X G kc_X10_239 (tX10_isCounted l E s8 _ hL  x3 h10) (rcv X G (hL 500 rfl) (cO10 rfl) rfl) rfl rfl (rmk_le (by omega) (by decide)) rfl hl.1 rfl (Nat.le_of_ble_eq_true rfl) dX10_value_25 ⟨Nat.zero_le _, Nat.zero_le _⟩ (fun H locs G => ?_)
    refine lv_aload_n hx hb dX10_value_28 rfl (lv_at hl 2 rfl) ?_
    refine lv_iconst (v := (0 : Int32)) hx hb dX10_value_29 (by decide) ?_
    refine lv_iload_n hx hb dX10_value_30 rfl (lv_at hl 0 rfl) ?_
    obtain ⟨s13, h12, hf⟩ := br_s hf
    refine cVWv (As := [.int (0 : Int32), .int x9]) (rest := []) X G kc_X10_242 (tX10_entry l E s11 _ hL  (0 : Int32) x9 h12) (rcv X G (hL 500 rfl) (cO10 rfl) rfl) rfl rfl (rmk_le (by omega) (by decide)) rfl hl.1 rfl (Nat.le_of_ble_eq_true rfl) dX10_value_31 ⟨Nat.zero_le _, Nat.zero_le _⟩ (fun H locs G => ?_)
    exact rtWv X hlk G hr (so_i hf) dX10_value_34
def fX10_term_B72 (k8 : St → Option St) (z0 : Int32) (st : St) : Option St := nm (ui st 500 30 ((st.1 500 30) + (1 : Int32))) (fun s1 => br (fX10_value s1) (fun s3 => br (fX10_entry z0 (0 : Int32) s3) (fun s5 => br (fX10_blanks s5) (fun s7 => k8 s7))))
set_option maxRecDepth 100000 in
theorem wX10_term_B72 {p : Program} {l : Launch} {e : Env} {s : State} {m : MethodId} {args : Array Value} {below : List Frame} {meth : Method} {c : Code} {E : Ev} (hL : ∀ k, fxM k = true → k ∈ eL E) {sz : Nat} {res : St} (X : CX p s m args c E RX10 cX10_term 2 (Af E sz)) (hr : meth.sig.returnType = none) (hlk : meth.locks = false) {k8 : St → Option St} (hk8 : ∀  (st : St) (H : Heap) (locs : List Loc), k8  st = some res → Gd E st (Af E sz) s H locs → ∀ ls : Array Slot, lv_has ls 2 [(0, .ref (eq E 500))] → W p l e (rmk 6) s m args below meth c H locs 0 0 (MQ below (QWv E res sz) args s 0 0 (Af E sz)) (F0 m 8 ls [])) : ∀ (z0 : Int32) (st : St) (H : Heap) (locs : List Loc), fX10_term_B72  k8 z0 st = some res → Gd E st (Af E sz) s H locs → ∀ ls : Array Slot, lv_has ls 2 [(0, .ref (eq E 500))] → W p l e (rmk 6) s m args below meth c H locs 0 0 (MQ below (QWv E res sz) args s 0 0 (Af E sz)) (F0 m 72 ls [.int z0]) := by
  have hx := X.1.1
  have hb := X.1.2.1
  intro z0 st H locs hf G ls hl
  unfold fX10_term_B72 at hf
  refine lv_istore_n (lv' := [(1, .int z0), (0, .ref (eq E 500))]) hx hb dX10_term_72 rfl hl (by decide) rfl (fun ls hl => ?_)
  refine lv_aload_n hx hb dX10_term_73 rfl (lv_at hl 1 rfl) ?_
  refine lv_dup hx hb dX10_term_74 rfl ?_
  refine gf10 X G (hL 500 rfl) rfl 30 (by decide) rfl kf_X10_190 iwX10 dX10_term_75 ?_
  refine lv_iconst (v := (1 : Int32)) hx hb dX10_term_78 (by decide) ?_
  refine lv_iadd hx hb dX10_term_79 ?_
  refine pf10 X G (hL 500 rfl) rfl 30 (by decide) ps10_30 uio kf_X10_190 iwX10 rfl (ty := .int) (by decide +kernel) rfl rfl dX10_term_80 (fun s1 es1 H locs G => ?_)
  have hf := nm_s hf s1 es1
  refine lv_aload_n hx hb dX10_term_83 rfl (lv_at hl 1 rfl) ?_
  obtain ⟨s3, h2, hf⟩ := br_s hf
  refine cVWv (As := []) (rest := []) X G kc_X10_249 (tX10_value l E s1 _ hL   h2) (rcv X G (hL 500 rfl) (cO10 rfl) rfl) rfl rfl (rmk_le (by omega) (by decide)) rfl hl.1 rfl (Nat.le_of_ble_eq_true rfl) dX10_term_84 ⟨Nat.zero_le _, Nat.zero_le _⟩ (fun H locs G => ?_)
  refine lv_aload_n hx hb dX10_term_87 rfl (lv_at hl 1 rfl) ?_
  refine lv_iload_n hx hb dX10_term_88 rfl (lv_at hl 0 rfl) ?_
  refine lv_iconst (v := (0 : Int32)) hx hb dX10_term_89 (by decide) ?_
  obtain ⟨s5, h4, hf⟩ := br_s hf
  refine cVWv (As := [.int z0, .int (0 : Int32)]) (rest := []) X G kc_X10_242 (tX10_entry l E s3 _ hL  z0 (0 : Int32) h4) (rcv X G (hL 500 rfl) (cO10 rfl) rfl) rfl rfl (rmk_le (by omega) (by decide)) rfl hl.1 rfl (Nat.le_of_ble_eq_true rfl) dX10_term_90 ⟨Nat.zero_le _, Nat.zero_le _⟩ (fun H locs G => ?_)
  refine lv_aload_n hx hb dX10_term_93 rfl (lv_at hl 1 rfl) ?_
  obtain ⟨s7, h6, hf⟩ := br_s hf
  refine cVWv (As := []) (rest := []) X G kc_X10_210 (tX10_blanks l E s5 _ hL   h6) (rcv X G (hL 500 rfl) (cO10 rfl) rfl) rfl rfl (rmk_le (by omega) (by decide)) rfl hl.1 rfl (Nat.le_of_ble_eq_true rfl) dX10_term_94 ⟨Nat.zero_le _, Nat.zero_le _⟩ (fun H locs G => ?_)
  refine lv_goto (tgt := 8) hx hb dX10_term_97 (by decide) ?_
  exact hk8 s7 _ _ hf G _ (lv_sub hl [1] rfl)
def fX10_term_B42 (k8 : St → Option St) (st : St) : Option St := br (fX10_sign st) (fun x2 => if x2 = (42 : Int32) then (fX10_term_B72 k8 (13 : Int32) st) else (br (fX10_sign st) (fun x5 => if x5 = (47 : Int32) then (fX10_term_B72 k8 (14 : Int32) st) else (fX10_term_B72 k8 (15 : Int32) st))))
set_option maxRecDepth 100000 in
theorem wX10_term_B42 {p : Program} {l : Launch} {e : Env} {s : State} {m : MethodId} {args : Array Value} {below : List Frame} {meth : Method} {c : Code} {E : Ev} (hL : ∀ k, fxM k = true → k ∈ eL E) {sz : Nat} {res : St} (X : CX p s m args c E RX10 cX10_term 2 (Af E sz)) (hr : meth.sig.returnType = none) (hlk : meth.locks = false) {k8 : St → Option St} (hk8 : ∀  (st : St) (H : Heap) (locs : List Loc), k8  st = some res → Gd E st (Af E sz) s H locs → ∀ ls : Array Slot, lv_has ls 2 [(0, .ref (eq E 500))] → W p l e (rmk 6) s m args below meth c H locs 0 0 (MQ below (QWv E res sz) args s 0 0 (Af E sz)) (F0 m 8 ls [])) : ∀  (st : St) (H : Heap) (locs : List Loc), fX10_term_B42  k8  st = some res → Gd E st (Af E sz) s H locs → ∀ ls : Array Slot, lv_has ls 2 [(0, .ref (eq E 500))] → W p l e (rmk 6) s m args below meth c H locs 0 0 (MQ below (QWv E res sz) args s 0 0 (Af E sz)) (F0 m 42 ls []) := by
  have hx := X.1.1
  have hb := X.1.2.1
  intro  st H locs hf G ls hl
  unfold fX10_term_B42 at hf
  refine lv_aload_n hx hb dX10_term_42 rfl (lv_at hl 0 rfl) ?_
  obtain ⟨x2, h1, hf⟩ := br_s hf
  refine cVRi (As := []) (rest := []) X G kc_X10_193 (tX10_sign l E st _ hL   h1) (rcv X G (hL 500 rfl) (cO10 rfl) rfl) rfl rfl (rmk_le (by omega) (by decide)) rfl hl.1 rfl (Nat.le_of_ble_eq_true rfl) dX10_term_43 ⟨Nat.zero_le _, Nat.zero_le _⟩ ?_
  refine lv_bipush (v := (42 : Int32)) hx hb dX10_term_46 (by decide) ?_
  refine lv_icmp_ne (tgt := 56) hx hb dX10_term_48 (by decide) (fun c3 => ?_) (fun c3 => ?_)
  · have hf := it_f hf c3
    refine lv_aload_n hx hb dX10_term_56 rfl (lv_at hl 0 rfl) ?_
    obtain ⟨x5, h4, hf⟩ := br_s hf
    refine cVRi (As := []) (rest := []) X G kc_X10_193 (tX10_sign l E st _ hL   h4) (rcv X G (hL 500 rfl) (cO10 rfl) rfl) rfl rfl (rmk_le (by omega) (by decide)) rfl hl.1 rfl (Nat.le_of_ble_eq_true rfl) dX10_term_57 ⟨Nat.zero_le _, Nat.zero_le _⟩ ?_
    refine lv_bipush (v := (47 : Int32)) hx hb dX10_term_60 (by decide) ?_
    refine lv_icmp_ne (tgt := 70) hx hb dX10_term_62 (by decide) (fun c6 => ?_) (fun c6 => ?_)
    · have hf := it_f hf c6
      refine lv_bipush (v := (15 : Int32)) hx hb dX10_term_70 (by decide) ?_
      exact wX10_term_B72 hL X hr hlk hk8 (15 : Int32) st _ _ hf G _ (lv_sub hl [0] rfl)
    · have hf := it_t hf c6
      refine lv_bipush (v := (14 : Int32)) hx hb dX10_term_65 (by decide) ?_
      refine lv_goto (tgt := 72) hx hb dX10_term_67 (by decide) ?_
      exact wX10_term_B72 hL X hr hlk hk8 (14 : Int32) st _ _ hf G _ (lv_sub hl [0] rfl)
  · have hf := it_t hf c3
    refine lv_bipush (v := (13 : Int32)) hx hb dX10_term_51 (by decide) ?_
    refine lv_goto (tgt := 72) hx hb dX10_term_53 (by decide) ?_
    exact wX10_term_B72 hL X hr hlk hk8 (13 : Int32) st _ _ hf G _ (lv_sub hl [0] rfl)
def fX10_term_L8 : Nat → St → Option St
  | 0, _ => none
  | n + 1, st => if (st.1 500 31) = 0 then (br (fX10_sign st) (fun x3 => if x3 = (42 : Int32) then (fX10_term_B42 (fX10_term_L8 n) st) else (br (fX10_sign st) (fun x6 => if x6 = (47 : Int32) then (fX10_term_B42 (fX10_term_L8 n) st) else (br (fX10_sign st) (fun x9 => if x9 = (37 : Int32) then (fX10_term_B42 (fX10_term_L8 n) st) else (some st))))))) else (some st)
set_option maxRecDepth 100000 in
theorem wX10_term_L8 {p : Program} {l : Launch} {e : Env} {s : State} {m : MethodId} {args : Array Value} {below : List Frame} {meth : Method} {c : Code} {E : Ev} (hL : ∀ k, fxM k = true → k ∈ eL E) {sz : Nat} {res : St} (X : CX p s m args c E RX10 cX10_term 2 (Af E sz)) (hr : meth.sig.returnType = none) (hlk : meth.locks = false) : ∀ (n : Nat)  (st : St) (H : Heap) (locs : List Loc), fX10_term_L8   n  st = some res → Gd E st (Af E sz) s H locs → ∀ ls : Array Slot, lv_has ls 2 [(0, .ref (eq E 500))] → W p l e (rmk 6) s m args below meth c H locs 0 0 (MQ below (QWv E res sz) args s 0 0 (Af E sz)) (F0 m 8 ls []) := by
  have hx := X.1.1
  have hb := X.1.2.1
  intro n
  induction n with
  | zero =>
    intro  st H locs hf G ls hl
    cases (show (none : Option St) = some res from hf)
  | succ n ih =>
    intro  st H locs hf G ls hl
    rw [fX10_term_L8] at hf
    refine lv_aload_n hx hb dX10_term_8 rfl (lv_at hl 0 rfl) ?_
    refine gf10 X G (hL 500 rfl) rfl 31 (by decide) rfl kf_X10_187 iwX10 dX10_term_9 ?_
    refine lv_if_ne (tgt := 100) hx hb dX10_term_12 (by decide) (fun c1 => ?_) (fun c1 => ?_)
    · have hf := it_f hf c1
      exact rtWv X hlk G hr (so_i hf) dX10_term_100
    · have hf := it_t hf c1
      refine lv_aload_n hx hb dX10_term_15 rfl (lv_at hl 0 rfl) ?_
      obtain ⟨x3, h2, hf⟩ := br_s hf
      refine cVRi (As := []) (rest := []) X G kc_X10_193 (tX10_sign l E st _ hL   h2) (rcv X G (hL 500 rfl) (cO10 rfl) rfl) rfl rfl (rmk_le (by omega) (by decide)) rfl hl.1 rfl (Nat.le_of_ble_eq_true rfl) dX10_term_16 ⟨Nat.zero_le _, Nat.zero_le _⟩ ?_
      refine lv_bipush (v := (42 : Int32)) hx hb dX10_term_19 (by decide) ?_
      refine lv_icmp_eq (tgt := 42) hx hb dX10_term_21 (by decide) (fun c4 => ?_) (fun c4 => ?_)
      · have hf := it_t hf c4
        exact wX10_term_B42 hL X hr hlk ih st _ _ hf G _ (lv_sub hl [0] rfl)
      · have hf := it_f hf c4
        refine lv_aload_n hx hb dX10_term_24 rfl (lv_at hl 0 rfl) ?_
        obtain ⟨x6, h5, hf⟩ := br_s hf
        refine cVRi (As := []) (rest := []) X G kc_X10_193 (tX10_sign l E st _ hL   h5) (rcv X G (hL 500 rfl) (cO10 rfl) rfl) rfl rfl (rmk_le (by omega) (by decide)) rfl hl.1 rfl (Nat.le_of_ble_eq_true rfl) dX10_term_25 ⟨Nat.zero_le _, Nat.zero_le _⟩ ?_
        refine lv_bipush (v := (47 : Int32)) hx hb dX10_term_28 (by decide) ?_
        refine lv_icmp_eq (tgt := 42) hx hb dX10_term_30 (by decide) (fun c7 => ?_) (fun c7 => ?_)
        · have hf := it_t hf c7
          exact wX10_term_B42 hL X hr hlk ih st _ _ hf G _ (lv_sub hl [0] rfl)
        · have hf := it_f hf c7
          refine lv_aload_n hx hb dX10_term_33 rfl (lv_at hl 0 rfl) ?_
          obtain ⟨x9, h8, hf⟩ := br_s hf
          refine cVRi (As := []) (rest := []) X G kc_X10_193 (tX10_sign l E st _ hL   h8) (rcv X G (hL 500 rfl) (cO10 rfl) rfl) rfl rfl (rmk_le (by omega) (by decide)) rfl hl.1 rfl (Nat.le_of_ble_eq_true rfl) dX10_term_34 ⟨Nat.zero_le _, Nat.zero_le _⟩ ?_
          refine lv_bipush (v := (37 : Int32)) hx hb dX10_term_37 (by decide) ?_
          refine lv_icmp_ne (tgt := 100) hx hb dX10_term_39 (by decide) (fun c10 => ?_) (fun c10 => ?_)
          · have hf := it_f hf c10
            exact rtWv X hlk G hr (so_i hf) dX10_term_100
          · have hf := it_t hf c10
            exact wX10_term_B42 hL X hr hlk ih st _ _ hf G _ (lv_sub hl [0] rfl)
def fX10_term (st : St) : Option St := br (fX10_value st) (fun s2 => br (fX10_blanks s2) (fun s4 => fX10_term_L8 10000 s4))
set_option maxRecDepth 100000 in
theorem tX10_term (l : Launch) (E : Ev) (st : St) (sz : Nat) (hL : ∀ k, fxM k = true → k ∈ eL E)  {res : St} (hf : fX10_term   st = some res) : Met l yX10_term (.code yX10_term cX10_term 2 none :: uW) (rmk 6) (va_Pc [.ref (eq E 500)] (Pre E st sz)) (QWv E res sz) 0 0 (Af E sz) := by
  refine Met_in (by decide) (Nat.le_of_ble_eq_true rfl) ?_
  intro p e s m below meth c X hr hlk hz G ls hl
  have hx := X.1.1
  have hb := X.1.2.1
  have hl : lv_has ls 2 [(0, .ref (eq E 500))] := hl
  unfold fX10_term at hf
  refine lv_aload_n hx hb dX10_term_0 rfl (lv_at hl 0 rfl) ?_
  obtain ⟨s2, h1, hf⟩ := br_s hf
  refine cVWv (As := []) (rest := []) X G kc_X10_249 (tX10_value l E st _ hL   h1) (rcv X G (hL 500 rfl) (cO10 rfl) rfl) rfl rfl (rmk_le (by omega) (by decide)) rfl hl.1 rfl (Nat.le_of_ble_eq_true rfl) dX10_term_1 ⟨Nat.zero_le _, Nat.zero_le _⟩ (fun H locs G => ?_)
  refine lv_aload_n hx hb dX10_term_4 rfl (lv_at hl 0 rfl) ?_
  obtain ⟨s4, h3, hf⟩ := br_s hf
  refine cVWv (As := []) (rest := []) X G kc_X10_210 (tX10_blanks l E s2 _ hL   h3) (rcv X G (hL 500 rfl) (cO10 rfl) rfl) rfl rfl (rmk_le (by omega) (by decide)) rfl hl.1 rfl (Nat.le_of_ble_eq_true rfl) dX10_term_5 ⟨Nat.zero_le _, Nat.zero_le _⟩ (fun H locs G => ?_)
  exact wX10_term_L8 hL X hr hlk 10000 s4 _ _ hf G _ (lv_sub hl [0] rfl)
def fX10_sum_B43 (k4 : St → Option St) (z0 : Int32) (st : St) : Option St := nm (ui st 500 30 ((st.1 500 30) + (1 : Int32))) (fun s1 => br (fX10_term s1) (fun s3 => br (fX10_entry z0 (0 : Int32) s3) (fun s5 => k4 s5)))
set_option maxRecDepth 100000 in
theorem wX10_sum_B43 {p : Program} {l : Launch} {e : Env} {s : State} {m : MethodId} {args : Array Value} {below : List Frame} {meth : Method} {c : Code} {E : Ev} (hL : ∀ k, fxM k = true → k ∈ eL E) {sz : Nat} {res : St} (X : CX p s m args c E RX10 cX10_sum 2 (Af E sz)) (hr : meth.sig.returnType = none) (hlk : meth.locks = false) {k4 : St → Option St} (hk4 : ∀  (st : St) (H : Heap) (locs : List Loc), k4  st = some res → Gd E st (Af E sz) s H locs → ∀ ls : Array Slot, lv_has ls 2 [(0, .ref (eq E 500))] → W p l e (rmk 7) s m args below meth c H locs 0 0 (MQ below (QWv E res sz) args s 0 0 (Af E sz)) (F0 m 4 ls [])) : ∀ (z0 : Int32) (st : St) (H : Heap) (locs : List Loc), fX10_sum_B43  k4 z0 st = some res → Gd E st (Af E sz) s H locs → ∀ ls : Array Slot, lv_has ls 2 [(0, .ref (eq E 500))] → W p l e (rmk 7) s m args below meth c H locs 0 0 (MQ below (QWv E res sz) args s 0 0 (Af E sz)) (F0 m 43 ls [.int z0]) := by
  have hx := X.1.1
  have hb := X.1.2.1
  intro z0 st H locs hf G ls hl
  unfold fX10_sum_B43 at hf
  refine lv_istore_n (lv' := [(1, .int z0), (0, .ref (eq E 500))]) hx hb dX10_sum_43 rfl hl (by decide) rfl (fun ls hl => ?_)
  refine lv_aload_n hx hb dX10_sum_44 rfl (lv_at hl 1 rfl) ?_
  refine lv_dup hx hb dX10_sum_45 rfl ?_
  refine gf10 X G (hL 500 rfl) rfl 30 (by decide) rfl kf_X10_190 iwX10 dX10_sum_46 ?_
  refine lv_iconst (v := (1 : Int32)) hx hb dX10_sum_49 (by decide) ?_
  refine lv_iadd hx hb dX10_sum_50 ?_
  refine pf10 X G (hL 500 rfl) rfl 30 (by decide) ps10_30 uio kf_X10_190 iwX10 rfl (ty := .int) (by decide +kernel) rfl rfl dX10_sum_51 (fun s1 es1 H locs G => ?_)
  have hf := nm_s hf s1 es1
  refine lv_aload_n hx hb dX10_sum_54 rfl (lv_at hl 1 rfl) ?_
  obtain ⟨s3, h2, hf⟩ := br_s hf
  refine cVWv (As := []) (rest := []) X G kc_X10_252 (tX10_term l E s1 _ hL   h2) (rcv X G (hL 500 rfl) (cO10 rfl) rfl) rfl rfl (rmk_le (by omega) (by decide)) rfl hl.1 rfl (Nat.le_of_ble_eq_true rfl) dX10_sum_55 ⟨Nat.zero_le _, Nat.zero_le _⟩ (fun H locs G => ?_)
  refine lv_aload_n hx hb dX10_sum_58 rfl (lv_at hl 1 rfl) ?_
  refine lv_iload_n hx hb dX10_sum_59 rfl (lv_at hl 0 rfl) ?_
  refine lv_iconst (v := (0 : Int32)) hx hb dX10_sum_60 (by decide) ?_
  obtain ⟨s5, h4, hf⟩ := br_s hf
  refine cVWv (As := [.int z0, .int (0 : Int32)]) (rest := []) X G kc_X10_242 (tX10_entry l E s3 _ hL  z0 (0 : Int32) h4) (rcv X G (hL 500 rfl) (cO10 rfl) rfl) rfl rfl (rmk_le (by omega) (by decide)) rfl hl.1 rfl (Nat.le_of_ble_eq_true rfl) dX10_sum_61 ⟨Nat.zero_le _, Nat.zero_le _⟩ (fun H locs G => ?_)
  refine lv_goto (tgt := 4) hx hb dX10_sum_64 (by decide) ?_
  exact hk4 s5 _ _ hf G _ (lv_sub hl [1] rfl)
def fX10_sum_B29 (k4 : St → Option St) (st : St) : Option St := br (fX10_sign st) (fun x2 => if x2 = (43 : Int32) then (fX10_sum_B43 k4 (2 : Int32) st) else (fX10_sum_B43 k4 (3 : Int32) st))
set_option maxRecDepth 100000 in
theorem wX10_sum_B29 {p : Program} {l : Launch} {e : Env} {s : State} {m : MethodId} {args : Array Value} {below : List Frame} {meth : Method} {c : Code} {E : Ev} (hL : ∀ k, fxM k = true → k ∈ eL E) {sz : Nat} {res : St} (X : CX p s m args c E RX10 cX10_sum 2 (Af E sz)) (hr : meth.sig.returnType = none) (hlk : meth.locks = false) {k4 : St → Option St} (hk4 : ∀  (st : St) (H : Heap) (locs : List Loc), k4  st = some res → Gd E st (Af E sz) s H locs → ∀ ls : Array Slot, lv_has ls 2 [(0, .ref (eq E 500))] → W p l e (rmk 7) s m args below meth c H locs 0 0 (MQ below (QWv E res sz) args s 0 0 (Af E sz)) (F0 m 4 ls [])) : ∀  (st : St) (H : Heap) (locs : List Loc), fX10_sum_B29  k4  st = some res → Gd E st (Af E sz) s H locs → ∀ ls : Array Slot, lv_has ls 2 [(0, .ref (eq E 500))] → W p l e (rmk 7) s m args below meth c H locs 0 0 (MQ below (QWv E res sz) args s 0 0 (Af E sz)) (F0 m 29 ls []) := by
  have hx := X.1.1
  have hb := X.1.2.1
  intro  st H locs hf G ls hl
  unfold fX10_sum_B29 at hf
  refine lv_aload_n hx hb dX10_sum_29 rfl (lv_at hl 0 rfl) ?_
  obtain ⟨x2, h1, hf⟩ := br_s hf
  refine cVRi (As := []) (rest := []) X G kc_X10_193 (tX10_sign l E st _ hL   h1) (rcv X G (hL 500 rfl) (cO10 rfl) rfl) rfl rfl (rmk_le (by omega) (by decide)) rfl hl.1 rfl (Nat.le_of_ble_eq_true rfl) dX10_sum_30 ⟨Nat.zero_le _, Nat.zero_le _⟩ ?_
  refine lv_bipush (v := (43 : Int32)) hx hb dX10_sum_33 (by decide) ?_
  refine lv_icmp_ne (tgt := 42) hx hb dX10_sum_35 (by decide) (fun c3 => ?_) (fun c3 => ?_)
  · have hf := it_f hf c3
    refine lv_iconst (v := (3 : Int32)) hx hb dX10_sum_42 (by decide) ?_
    exact wX10_sum_B43 hL X hr hlk hk4 (3 : Int32) st _ _ hf G _ (lv_sub hl [0] rfl)
  · have hf := it_t hf c3
    refine lv_iconst (v := (2 : Int32)) hx hb dX10_sum_38 (by decide) ?_
    refine lv_goto (tgt := 43) hx hb dX10_sum_39 (by decide) ?_
    exact wX10_sum_B43 hL X hr hlk hk4 (2 : Int32) st _ _ hf G _ (lv_sub hl [0] rfl)
def fX10_sum_L4 : Nat → St → Option St
  | 0, _ => none
  | n + 1, st => if (st.1 500 31) = 0 then (br (fX10_sign st) (fun x3 => if x3 = (43 : Int32) then (fX10_sum_B29 (fX10_sum_L4 n) st) else (br (fX10_sign st) (fun x6 => if x6 = (45 : Int32) then (fX10_sum_B29 (fX10_sum_L4 n) st) else (some st))))) else (some st)
set_option maxRecDepth 100000 in
theorem wX10_sum_L4 {p : Program} {l : Launch} {e : Env} {s : State} {m : MethodId} {args : Array Value} {below : List Frame} {meth : Method} {c : Code} {E : Ev} (hL : ∀ k, fxM k = true → k ∈ eL E) {sz : Nat} {res : St} (X : CX p s m args c E RX10 cX10_sum 2 (Af E sz)) (hr : meth.sig.returnType = none) (hlk : meth.locks = false) : ∀ (n : Nat)  (st : St) (H : Heap) (locs : List Loc), fX10_sum_L4   n  st = some res → Gd E st (Af E sz) s H locs → ∀ ls : Array Slot, lv_has ls 2 [(0, .ref (eq E 500))] → W p l e (rmk 7) s m args below meth c H locs 0 0 (MQ below (QWv E res sz) args s 0 0 (Af E sz)) (F0 m 4 ls []) := by
  have hx := X.1.1
  have hb := X.1.2.1
  intro n
  induction n with
  | zero =>
    intro  st H locs hf G ls hl
    cases (show (none : Option St) = some res from hf)
  | succ n ih =>
    intro  st H locs hf G ls hl
    rw [fX10_sum_L4] at hf
    refine lv_aload_n hx hb dX10_sum_4 rfl (lv_at hl 0 rfl) ?_
    refine gf10 X G (hL 500 rfl) rfl 31 (by decide) rfl kf_X10_187 iwX10 dX10_sum_5 ?_
    refine lv_if_ne (tgt := 67) hx hb dX10_sum_8 (by decide) (fun c1 => ?_) (fun c1 => ?_)
    · have hf := it_f hf c1
      exact rtWv X hlk G hr (so_i hf) dX10_sum_67
    · have hf := it_t hf c1
      refine lv_aload_n hx hb dX10_sum_11 rfl (lv_at hl 0 rfl) ?_
      obtain ⟨x3, h2, hf⟩ := br_s hf
      refine cVRi (As := []) (rest := []) X G kc_X10_193 (tX10_sign l E st _ hL   h2) (rcv X G (hL 500 rfl) (cO10 rfl) rfl) rfl rfl (rmk_le (by omega) (by decide)) rfl hl.1 rfl (Nat.le_of_ble_eq_true rfl) dX10_sum_12 ⟨Nat.zero_le _, Nat.zero_le _⟩ ?_
      refine lv_bipush (v := (43 : Int32)) hx hb dX10_sum_15 (by decide) ?_
      refine lv_icmp_eq (tgt := 29) hx hb dX10_sum_17 (by decide) (fun c4 => ?_) (fun c4 => ?_)
      · have hf := it_t hf c4
        exact wX10_sum_B29 hL X hr hlk ih st _ _ hf G _ (lv_sub hl [0] rfl)
      · have hf := it_f hf c4
        refine lv_aload_n hx hb dX10_sum_20 rfl (lv_at hl 0 rfl) ?_
        obtain ⟨x6, h5, hf⟩ := br_s hf
        refine cVRi (As := []) (rest := []) X G kc_X10_193 (tX10_sign l E st _ hL   h5) (rcv X G (hL 500 rfl) (cO10 rfl) rfl) rfl rfl (rmk_le (by omega) (by decide)) rfl hl.1 rfl (Nat.le_of_ble_eq_true rfl) dX10_sum_21 ⟨Nat.zero_le _, Nat.zero_le _⟩ ?_
        refine lv_bipush (v := (45 : Int32)) hx hb dX10_sum_24 (by decide) ?_
        refine lv_icmp_ne (tgt := 67) hx hb dX10_sum_26 (by decide) (fun c7 => ?_) (fun c7 => ?_)
        · have hf := it_f hf c7
          exact rtWv X hlk G hr (so_i hf) dX10_sum_67
        · have hf := it_t hf c7
          exact wX10_sum_B29 hL X hr hlk ih st _ _ hf G _ (lv_sub hl [0] rfl)
def fX10_sum (st : St) : Option St := br (fX10_term st) (fun s2 => fX10_sum_L4 10000 s2)
set_option maxRecDepth 100000 in
theorem tX10_sum (l : Launch) (E : Ev) (st : St) (sz : Nat) (hL : ∀ k, fxM k = true → k ∈ eL E)  {res : St} (hf : fX10_sum   st = some res) : Met l yX10_sum (.code yX10_sum cX10_sum 2 none :: uW) (rmk 7) (va_Pc [.ref (eq E 500)] (Pre E st sz)) (QWv E res sz) 0 0 (Af E sz) := by
  refine Met_in (by decide) (Nat.le_of_ble_eq_true rfl) ?_
  intro p e s m below meth c X hr hlk hz G ls hl
  have hx := X.1.1
  have hb := X.1.2.1
  have hl : lv_has ls 2 [(0, .ref (eq E 500))] := hl
  unfold fX10_sum at hf
  refine lv_aload_n hx hb dX10_sum_0 rfl (lv_at hl 0 rfl) ?_
  obtain ⟨s2, h1, hf⟩ := br_s hf
  refine cVWv (As := []) (rest := []) X G kc_X10_252 (tX10_term l E st _ hL   h1) (rcv X G (hL 500 rfl) (cO10 rfl) rfl) rfl rfl (rmk_le (by omega) (by decide)) rfl hl.1 rfl (Nat.le_of_ble_eq_true rfl) dX10_sum_1 ⟨Nat.zero_le _, Nat.zero_le _⟩ (fun H locs G => ?_)
  exact wX10_sum_L4 hL X hr hlk 10000 s2 _ _ hf G _ (lv_sub hl [0] rfl)
def fX10_compared_B90 (y1 : Int32) (y2 : Int32) (z0 : Int32) (z1 : Int32) (st : St) : Option St := nm (ui st 500 30 (z1 + z0)) (fun s1 => br (fX10_sum s1) (fun s3 => if y1 = (61 : Int32) then (br (fX10_entry (6 : Int32) (0 : Int32) s3) (fun s6 => some s6)) else (if y1 = (60 : Int32) then (if y2 = 0 then (br (fX10_entry (4 : Int32) (0 : Int32) s3) (fun s8 => some s8)) else (br (fX10_entry (5 : Int32) (0 : Int32) s3) (fun s8 => some s8))) else (if y2 = 0 then (br (fX10_entry (8 : Int32) (0 : Int32) s3) (fun s8 => some s8)) else (br (fX10_entry (7 : Int32) (0 : Int32) s3) (fun s8 => some s8))))))
set_option maxRecDepth 100000 in
theorem wX10_compared_B90 {p : Program} {l : Launch} {e : Env} {s : State} {m : MethodId} {args : Array Value} {below : List Frame} {meth : Method} {c : Code} {E : Ev} (hL : ∀ k, fxM k = true → k ∈ eL E) {sz : Nat} {res : St} (X : CX p s m args c E RX10 cX10_compared 3 (Af E sz)) (hr : meth.sig.returnType = none) (hlk : meth.locks = false) : ∀ (y1 : Int32) (y2 : Int32) (z0 : Int32) (z1 : Int32) (st : St) (H : Heap) (locs : List Loc), fX10_compared_B90   y1 y2 z0 z1 st = some res → Gd E st (Af E sz) s H locs → ∀ ls : Array Slot, lv_has ls 3 [(0, .ref (eq E 500)), (1, .int y1), (2, .int y2)] → W p l e (rmk 8) s m args below meth c H locs 0 0 (MQ below (QWv E res sz) args s 0 0 (Af E sz)) (F0 m 90 ls [.int z0, .int z1, .ref (eq E 500)]) := by
  have hx := X.1.1
  have hb := X.1.2.1
  intro y1 y2 z0 z1 st H locs hf G ls hl
  unfold fX10_compared_B90 at hf
  refine lv_iadd hx hb dX10_compared_90 ?_
  refine pf10 X G (hL 500 rfl) rfl 30 (by decide) ps10_30 uio kf_X10_190 iwX10 rfl (ty := .int) (by decide +kernel) rfl rfl dX10_compared_91 (fun s1 es1 H locs G => ?_)
  have hf := nm_s hf s1 es1
  refine lv_aload_n hx hb dX10_compared_94 rfl (lv_at hl 0 rfl) ?_
  obtain ⟨s3, h2, hf⟩ := br_s hf
  refine cVWv (As := []) (rest := []) X G kc_X10_255 (tX10_sum l E s1 _ hL   h2) (rcv X G (hL 500 rfl) (cO10 rfl) rfl) rfl rfl (rmk_le (by omega) (by decide)) rfl hl.1 rfl (Nat.le_of_ble_eq_true rfl) dX10_compared_95 ⟨Nat.zero_le _, Nat.zero_le _⟩ (fun H locs G => ?_)
  refine lv_aload_n hx hb dX10_compared_98 rfl (lv_at hl 0 rfl) ?_
  refine lv_iload_n hx hb dX10_compared_99 rfl (lv_at hl 1 rfl) ?_
  refine lv_bipush (v := (61 : Int32)) hx hb dX10_compared_100 (by decide) ?_
  refine lv_icmp_ne (tgt := 110) hx hb dX10_compared_102 (by decide) (fun c4 => ?_) (fun c4 => ?_)
  · have hf := it_f hf c4
    refine lv_iload_n hx hb dX10_compared_110 rfl (lv_at hl 1 rfl) ?_
    refine lv_bipush (v := (60 : Int32)) hx hb dX10_compared_111 (by decide) ?_
    refine lv_icmp_ne (tgt := 128) hx hb dX10_compared_113 (by decide) (fun c5 => ?_) (fun c5 => ?_)
    · have hf := it_f hf c5
      refine lv_iload_n hx hb dX10_compared_128 rfl (lv_at hl 2 rfl) ?_
      refine lv_if_eq (tgt := 137) hx hb dX10_compared_129 (by decide) (fun c6 => ?_) (fun c6 => ?_)
      · have hf := it_t hf c6
        refine lv_bipush (v := (8 : Int32)) hx hb dX10_compared_137 (by decide) ?_
        refine lv_iconst (v := (0 : Int32)) hx hb dX10_compared_139 (by decide) ?_
        obtain ⟨s8, h7, hf⟩ := br_s hf
        refine cVWv (As := [.int (8 : Int32), .int (0 : Int32)]) (rest := []) X G kc_X10_242 (tX10_entry l E s3 _ hL  (8 : Int32) (0 : Int32) h7) (rcv X G (hL 500 rfl) (cO10 rfl) rfl) rfl rfl (rmk_le (by omega) (by decide)) rfl hl.1 rfl (Nat.le_of_ble_eq_true rfl) dX10_compared_140 ⟨Nat.zero_le _, Nat.zero_le _⟩ (fun H locs G => ?_)
        exact rtWv X hlk G hr (so_i hf) dX10_compared_143
      · have hf := it_f hf c6
        refine lv_bipush (v := (7 : Int32)) hx hb dX10_compared_132 (by decide) ?_
        refine lv_goto (tgt := 139) hx hb dX10_compared_134 (by decide) ?_
        refine lv_iconst (v := (0 : Int32)) hx hb dX10_compared_139 (by decide) ?_
        obtain ⟨s8, h7, hf⟩ := br_s hf
        refine cVWv (As := [.int (7 : Int32), .int (0 : Int32)]) (rest := []) X G kc_X10_242 (tX10_entry l E s3 _ hL  (7 : Int32) (0 : Int32) h7) (rcv X G (hL 500 rfl) (cO10 rfl) rfl) rfl rfl (rmk_le (by omega) (by decide)) rfl hl.1 rfl (Nat.le_of_ble_eq_true rfl) dX10_compared_140 ⟨Nat.zero_le _, Nat.zero_le _⟩ (fun H locs G => ?_)
        exact rtWv X hlk G hr (so_i hf) dX10_compared_143
    · have hf := it_t hf c5
      refine lv_iload_n hx hb dX10_compared_116 rfl (lv_at hl 2 rfl) ?_
      refine lv_if_eq (tgt := 124) hx hb dX10_compared_117 (by decide) (fun c6 => ?_) (fun c6 => ?_)
      · have hf := it_t hf c6
        refine lv_iconst (v := (4 : Int32)) hx hb dX10_compared_124 (by decide) ?_
        refine lv_goto (tgt := 139) hx hb dX10_compared_125 (by decide) ?_
        refine lv_iconst (v := (0 : Int32)) hx hb dX10_compared_139 (by decide) ?_
        obtain ⟨s8, h7, hf⟩ := br_s hf
        refine cVWv (As := [.int (4 : Int32), .int (0 : Int32)]) (rest := []) X G kc_X10_242 (tX10_entry l E s3 _ hL  (4 : Int32) (0 : Int32) h7) (rcv X G (hL 500 rfl) (cO10 rfl) rfl) rfl rfl (rmk_le (by omega) (by decide)) rfl hl.1 rfl (Nat.le_of_ble_eq_true rfl) dX10_compared_140 ⟨Nat.zero_le _, Nat.zero_le _⟩ (fun H locs G => ?_)
        exact rtWv X hlk G hr (so_i hf) dX10_compared_143
      · have hf := it_f hf c6
        refine lv_iconst (v := (5 : Int32)) hx hb dX10_compared_120 (by decide) ?_
        refine lv_goto (tgt := 139) hx hb dX10_compared_121 (by decide) ?_
        refine lv_iconst (v := (0 : Int32)) hx hb dX10_compared_139 (by decide) ?_
        obtain ⟨s8, h7, hf⟩ := br_s hf
        refine cVWv (As := [.int (5 : Int32), .int (0 : Int32)]) (rest := []) X G kc_X10_242 (tX10_entry l E s3 _ hL  (5 : Int32) (0 : Int32) h7) (rcv X G (hL 500 rfl) (cO10 rfl) rfl) rfl rfl (rmk_le (by omega) (by decide)) rfl hl.1 rfl (Nat.le_of_ble_eq_true rfl) dX10_compared_140 ⟨Nat.zero_le _, Nat.zero_le _⟩ (fun H locs G => ?_)
        exact rtWv X hlk G hr (so_i hf) dX10_compared_143
  · have hf := it_t hf c4
    refine lv_bipush (v := (6 : Int32)) hx hb dX10_compared_105 (by decide) ?_
    refine lv_goto (tgt := 139) hx hb dX10_compared_107 (by decide) ?_
    refine lv_iconst (v := (0 : Int32)) hx hb dX10_compared_139 (by decide) ?_
    obtain ⟨s6, h5, hf⟩ := br_s hf
    refine cVWv (As := [.int (6 : Int32), .int (0 : Int32)]) (rest := []) X G kc_X10_242 (tX10_entry l E s3 _ hL  (6 : Int32) (0 : Int32) h5) (rcv X G (hL 500 rfl) (cO10 rfl) rfl) rfl rfl (rmk_le (by omega) (by decide)) rfl hl.1 rfl (Nat.le_of_ble_eq_true rfl) dX10_compared_140 ⟨Nat.zero_le _, Nat.zero_le _⟩ (fun H locs G => ?_)
    exact rtWv X hlk G hr (so_i hf) dX10_compared_143
def fX10_compared_B75 (y1 : Int32) (z0 : Int32) (st : St) : Option St := if z0 = 0 then (fX10_compared_B90 y1 z0 (0 : Int32) (st.1 500 30) st) else (fX10_compared_B90 y1 z0 (1 : Int32) (st.1 500 30) st)
set_option maxRecDepth 100000 in
theorem wX10_compared_B75 {p : Program} {l : Launch} {e : Env} {s : State} {m : MethodId} {args : Array Value} {below : List Frame} {meth : Method} {c : Code} {E : Ev} (hL : ∀ k, fxM k = true → k ∈ eL E) {sz : Nat} {res : St} (X : CX p s m args c E RX10 cX10_compared 3 (Af E sz)) (hr : meth.sig.returnType = none) (hlk : meth.locks = false) : ∀ (y1 : Int32) (z0 : Int32) (st : St) (H : Heap) (locs : List Loc), fX10_compared_B75   y1 z0 st = some res → Gd E st (Af E sz) s H locs → ∀ ls : Array Slot, lv_has ls 3 [(0, .ref (eq E 500)), (1, .int y1)] → W p l e (rmk 8) s m args below meth c H locs 0 0 (MQ below (QWv E res sz) args s 0 0 (Af E sz)) (F0 m 75 ls [.int z0]) := by
  have hx := X.1.1
  have hb := X.1.2.1
  intro y1 z0 st H locs hf G ls hl
  unfold fX10_compared_B75 at hf
  refine lv_istore_n (lv' := [(2, .int z0), (0, .ref (eq E 500)), (1, .int y1)]) hx hb dX10_compared_75 rfl hl (by decide) rfl (fun ls hl => ?_)
  refine lv_aload_n hx hb dX10_compared_76 rfl (lv_at hl 1 rfl) ?_
  refine lv_dup hx hb dX10_compared_77 rfl ?_
  refine gf10 X G (hL 500 rfl) rfl 30 (by decide) rfl kf_X10_190 iwX10 dX10_compared_78 ?_
  refine lv_iload_n hx hb dX10_compared_81 rfl (lv_at hl 0 rfl) ?_
  refine lv_if_eq (tgt := 89) hx hb dX10_compared_82 (by decide) (fun c1 => ?_) (fun c1 => ?_)
  · have hf := it_t hf c1
    refine lv_iconst (v := (0 : Int32)) hx hb dX10_compared_89 (by decide) ?_
    exact wX10_compared_B90 hL X hr hlk y1 z0 (0 : Int32) (st.1 500 30) st _ _ hf G _ (lv_sub hl [1, 2, 0] rfl)
  · have hf := it_f hf c1
    refine lv_iconst (v := (1 : Int32)) hx hb dX10_compared_85 (by decide) ?_
    refine lv_goto (tgt := 90) hx hb dX10_compared_86 (by decide) ?_
    exact wX10_compared_B90 hL X hr hlk y1 z0 (1 : Int32) (st.1 500 30) st _ _ hf G _ (lv_sub hl [1, 2, 0] rfl)
def fX10_compared_B74 (y1 : Int32) (st : St) : Option St := fX10_compared_B75 y1 (0 : Int32) st
set_option maxRecDepth 100000 in
theorem wX10_compared_B74 {p : Program} {l : Launch} {e : Env} {s : State} {m : MethodId} {args : Array Value} {below : List Frame} {meth : Method} {c : Code} {E : Ev} (hL : ∀ k, fxM k = true → k ∈ eL E) {sz : Nat} {res : St} (X : CX p s m args c E RX10 cX10_compared 3 (Af E sz)) (hr : meth.sig.returnType = none) (hlk : meth.locks = false) : ∀ (y1 : Int32) (st : St) (H : Heap) (locs : List Loc), fX10_compared_B74   y1 st = some res → Gd E st (Af E sz) s H locs → ∀ ls : Array Slot, lv_has ls 3 [(0, .ref (eq E 500)), (1, .int y1)] → W p l e (rmk 8) s m args below meth c H locs 0 0 (MQ below (QWv E res sz) args s 0 0 (Af E sz)) (F0 m 74 ls []) := by
  have hx := X.1.1
  have hb := X.1.2.1
  intro y1 st H locs hf G ls hl
  unfold fX10_compared_B74 at hf
  refine lv_iconst (v := (0 : Int32)) hx hb dX10_compared_74 (by decide) ?_
  exact wX10_compared_B75 hL X hr hlk y1 (0 : Int32) st _ _ hf G _ (lv_sub hl [0, 1] rfl)
def fX10_compared_B37 (y1 : Int32) (st : St) : Option St := br (fX10_isCounted (st.1 500 30) st) (fun s2 => nm (ui s2 500 30 ((s2.1 500 30) + (1 : Int32))) (fun s3 => if y1 = (61 : Int32) then (fX10_compared_B74 y1 s3) else (br (fX10_sign s3) (fun x6 => if x6 = (61 : Int32) then (fX10_compared_B75 y1 (1 : Int32) s3) else (fX10_compared_B74 y1 s3)))))
set_option maxRecDepth 100000 in
theorem wX10_compared_B37 {p : Program} {l : Launch} {e : Env} {s : State} {m : MethodId} {args : Array Value} {below : List Frame} {meth : Method} {c : Code} {E : Ev} (hL : ∀ k, fxM k = true → k ∈ eL E) {sz : Nat} {res : St} (X : CX p s m args c E RX10 cX10_compared 3 (Af E sz)) (hr : meth.sig.returnType = none) (hlk : meth.locks = false) : ∀ (y1 : Int32) (st : St) (H : Heap) (locs : List Loc), fX10_compared_B37   y1 st = some res → Gd E st (Af E sz) s H locs → ∀ ls : Array Slot, lv_has ls 3 [(0, .ref (eq E 500)), (1, .int y1)] → W p l e (rmk 8) s m args below meth c H locs 0 0 (MQ below (QWv E res sz) args s 0 0 (Af E sz)) (F0 m 37 ls []) := by
  have hx := X.1.1
  have hb := X.1.2.1
  intro y1 st H locs hf G ls hl
  unfold fX10_compared_B37 at hf
  refine lv_aload_n hx hb dX10_compared_37 rfl (lv_at hl 0 rfl) ?_
  refine lv_aload_n hx hb dX10_compared_38 rfl (lv_at hl 0 rfl) ?_
  refine gf10 X G (hL 500 rfl) rfl 30 (by decide) rfl kf_X10_190 iwX10 dX10_compared_39 ?_
  obtain ⟨s2, h1, hf⟩ := br_s hf
  refine cVWv (As := [.int (st.1 500 30)]) (rest := []) X G kc_X10_239 (tX10_isCounted l E st _ hL  (st.1 500 30) h1) (rcv X G (hL 500 rfl) (cO10 rfl) rfl) rfl rfl (rmk_le (by omega) (by decide)) rfl hl.1 rfl (Nat.le_of_ble_eq_true rfl) dX10_compared_42 ⟨Nat.zero_le _, Nat.zero_le _⟩ (fun H locs G => ?_)
  refine lv_aload_n hx hb dX10_compared_45 rfl (lv_at hl 0 rfl) ?_
  refine lv_dup hx hb dX10_compared_46 rfl ?_
  refine gf10 X G (hL 500 rfl) rfl 30 (by decide) rfl kf_X10_190 iwX10 dX10_compared_47 ?_
  refine lv_iconst (v := (1 : Int32)) hx hb dX10_compared_50 (by decide) ?_
  refine lv_iadd hx hb dX10_compared_51 ?_
  refine pf10 X G (hL 500 rfl) rfl 30 (by decide) ps10_30 uio kf_X10_190 iwX10 rfl (ty := .int) (by decide +kernel) rfl rfl dX10_compared_52 (fun s3 es3 H locs G => ?_)
  have hf := nm_s hf s3 es3
  refine lv_iload_n hx hb dX10_compared_55 rfl (lv_at hl 1 rfl) ?_
  refine lv_bipush (v := (61 : Int32)) hx hb dX10_compared_56 (by decide) ?_
  refine lv_icmp_eq (tgt := 74) hx hb dX10_compared_58 (by decide) (fun c4 => ?_) (fun c4 => ?_)
  · have hf := it_t hf c4
    exact wX10_compared_B74 hL X hr hlk y1 s3 _ _ hf G _ (lv_sub hl [0, 1] rfl)
  · have hf := it_f hf c4
    refine lv_aload_n hx hb dX10_compared_61 rfl (lv_at hl 0 rfl) ?_
    obtain ⟨x6, h5, hf⟩ := br_s hf
    refine cVRi (As := []) (rest := []) X G kc_X10_193 (tX10_sign l E s3 _ hL   h5) (rcv X G (hL 500 rfl) (cO10 rfl) rfl) rfl rfl (rmk_le (by omega) (by decide)) rfl hl.1 rfl (Nat.le_of_ble_eq_true rfl) dX10_compared_62 ⟨Nat.zero_le _, Nat.zero_le _⟩ ?_
    refine lv_bipush (v := (61 : Int32)) hx hb dX10_compared_65 (by decide) ?_
    refine lv_icmp_ne (tgt := 74) hx hb dX10_compared_67 (by decide) (fun c7 => ?_) (fun c7 => ?_)
    · have hf := it_f hf c7
      exact wX10_compared_B74 hL X hr hlk y1 s3 _ _ hf G _ (lv_sub hl [0, 1] rfl)
    · have hf := it_t hf c7
      refine lv_iconst (v := (1 : Int32)) hx hb dX10_compared_70 (by decide) ?_
      refine lv_goto (tgt := 75) hx hb dX10_compared_71 (by decide) ?_
      exact wX10_compared_B75 hL X hr hlk y1 (1 : Int32) s3 _ _ hf G _ (lv_sub hl [0, 1] rfl)
def fX10_compared (st : St) : Option St := br (fX10_sum st) (fun s2 => br (fX10_sign s2) (fun x4 => if x4 = (60 : Int32) then (fX10_compared_B37 x4 s2) else (if x4 = (61 : Int32) then (fX10_compared_B37 x4 s2) else (if x4 = (62 : Int32) then (fX10_compared_B37 x4 s2) else (br (fX10_fails (0 : Int32) (s2.1 500 30) s2) (fun s9 => some s9))))))
set_option maxRecDepth 100000 in
theorem tX10_compared (l : Launch) (E : Ev) (st : St) (sz : Nat) (hL : ∀ k, fxM k = true → k ∈ eL E)  {res : St} (hf : fX10_compared   st = some res) : Met l yX10_compared (.code yX10_compared cX10_compared 3 none :: uW) (rmk 8) (va_Pc [.ref (eq E 500)] (Pre E st sz)) (QWv E res sz) 0 0 (Af E sz) := by
  refine Met_in (by decide) (Nat.le_of_ble_eq_true rfl) ?_
  intro p e s m below meth c X hr hlk hz G ls hl
  have hx := X.1.1
  have hb := X.1.2.1
  have hl : lv_has ls 3 [(0, .ref (eq E 500))] := hl
  unfold fX10_compared at hf
  refine lv_aload_n hx hb dX10_compared_0 rfl (lv_at hl 0 rfl) ?_
  obtain ⟨s2, h1, hf⟩ := br_s hf
  refine cVWv (As := []) (rest := []) X G kc_X10_255 (tX10_sum l E st _ hL   h1) (rcv X G (hL 500 rfl) (cO10 rfl) rfl) rfl rfl (rmk_le (by omega) (by decide)) rfl hl.1 rfl (Nat.le_of_ble_eq_true rfl) dX10_compared_1 ⟨Nat.zero_le _, Nat.zero_le _⟩ (fun H locs G => ?_)
  refine lv_aload_n hx hb dX10_compared_4 rfl (lv_at hl 0 rfl) ?_
  obtain ⟨x4, h3, hf⟩ := br_s hf
  refine cVRi (As := []) (rest := []) X G kc_X10_193 (tX10_sign l E s2 _ hL   h3) (rcv X G (hL 500 rfl) (cO10 rfl) rfl) rfl rfl (rmk_le (by omega) (by decide)) rfl hl.1 rfl (Nat.le_of_ble_eq_true rfl) dX10_compared_5 ⟨Nat.zero_le _, Nat.zero_le _⟩ ?_
  refine lv_istore_n (lv' := [(1, .int x4), (0, .ref (eq E 500))]) hx hb dX10_compared_8 rfl hl (by decide) rfl (fun ls hl => ?_)
  refine lv_iload_n hx hb dX10_compared_9 rfl (lv_at hl 0 rfl) ?_
  refine lv_bipush (v := (60 : Int32)) hx hb dX10_compared_10 (by decide) ?_
  refine lv_icmp_eq (tgt := 37) hx hb dX10_compared_12 (by decide) (fun c5 => ?_) (fun c5 => ?_)
  · have hf := it_t hf c5
    exact wX10_compared_B37 hL X hr hlk x4 s2 _ _ hf G _ (lv_sub hl [1, 0] rfl)
  · have hf := it_f hf c5
    refine lv_iload_n hx hb dX10_compared_15 rfl (lv_at hl 0 rfl) ?_
    refine lv_bipush (v := (61 : Int32)) hx hb dX10_compared_16 (by decide) ?_
    refine lv_icmp_eq (tgt := 37) hx hb dX10_compared_18 (by decide) (fun c6 => ?_) (fun c6 => ?_)
    · have hf := it_t hf c6
      exact wX10_compared_B37 hL X hr hlk x4 s2 _ _ hf G _ (lv_sub hl [1, 0] rfl)
    · have hf := it_f hf c6
      refine lv_iload_n hx hb dX10_compared_21 rfl (lv_at hl 0 rfl) ?_
      refine lv_bipush (v := (62 : Int32)) hx hb dX10_compared_22 (by decide) ?_
      refine lv_icmp_eq (tgt := 37) hx hb dX10_compared_24 (by decide) (fun c7 => ?_) (fun c7 => ?_)
      · have hf := it_t hf c7
        exact wX10_compared_B37 hL X hr hlk x4 s2 _ _ hf G _ (lv_sub hl [1, 0] rfl)
      · have hf := it_f hf c7
        refine lv_aload_n hx hb dX10_compared_27 rfl (lv_at hl 1 rfl) ?_
        refine lv_iconst (v := (0 : Int32)) hx hb dX10_compared_28 (by decide) ?_
        refine lv_aload_n hx hb dX10_compared_29 rfl (lv_at hl 1 rfl) ?_
        refine gf10 X G (hL 500 rfl) rfl 30 (by decide) rfl kf_X10_190 iwX10 dX10_compared_30 ?_
        obtain ⟨s9, h8, hf⟩ := br_s hf
        refine cVWv (As := [.int (0 : Int32), .int (s2.1 500 30)]) (rest := []) X G kc_X10_226 (tX10_fails l E s2 _ hL  (0 : Int32) (s2.1 500 30) h8) (rcv X G (hL 500 rfl) (cO10 rfl) rfl) rfl rfl (rmk_le (by omega) (by decide)) rfl hl.1 rfl (Nat.le_of_ble_eq_true rfl) dX10_compared_33 ⟨Nat.zero_le _, Nat.zero_le _⟩ (fun H locs G => ?_)
        exact rtWv X hlk G hr (so_i hf) dX10_compared_36
def fX10_top (st : St) : Option Int32 := if (st.1 500 37) = 0 then (some (-1 : Int32)) else (gd (ix ((st.1 500 37) - (1 : Int32)) 402) (some (st.1 547 ((st.1 500 37) - (1 : Int32)).toNatClampNeg)))
set_option maxRecDepth 100000 in
theorem tX10_top (l : Launch) (E : Ev) (st : St) (sz : Nat) (hL : ∀ k, fxM k = true → k ∈ eL E)  {res : Int32} (hf : fX10_top st  = some res) : Met l yX10_top (.code yX10_top cX10_top 1 (some .int) :: uW) (rmk 0) (va_Pc [.ref (eq E 500)] (Pre E st sz)) (QRi res) 0 0 (NoF) := by
  refine Met_in (by decide) (Nat.le_of_ble_eq_true rfl) ?_
  intro p e s m below meth c X hr hlk hz G ls hl
  have hx := X.1.1
  have hb := X.1.2.1
  have hl : lv_has ls 1 [(0, .ref (eq E 500))] := hl
  unfold fX10_top at hf
  refine lv_aload_n hx hb dX10_top_0 rfl (lv_at hl 0 rfl) ?_
  refine gf10 X G (hL 500 rfl) rfl 37 (by decide) rfl kf_X10_258 iwX10 dX10_top_1 ?_
  refine lv_if_ne (tgt := 11) hx hb dX10_top_4 (by decide) (fun c1 => ?_) (fun c1 => ?_)
  · have hf := it_f hf c1
    refine lv_aload_n hx hb dX10_top_11 rfl (lv_at hl 0 rfl) ?_
    refine gf10 X G (hL 500 rfl) rfl 46 (by decide) rfl kf_X10_117 iwX10 dX10_top_12 ?_
    refine lv_aload_n hx hb dX10_top_15 rfl (lv_at hl 0 rfl) ?_
    refine gf10 X G (hL 500 rfl) rfl 37 (by decide) rfl kf_X10_258 iwX10 dX10_top_16 ?_
    refine lv_iconst (v := (1 : Int32)) hx hb dX10_top_19 (by decide) ?_
    refine lv_isub hx hb dX10_top_20 ?_
    obtain ⟨h2, hf⟩ := gd_s hf
    refine ia_ld (k := 547) (n := 402) X G (hL 547 rfl) rfl (by decide) (ix_in h2) dX10_top_21 ?_
    exact rtRi X hlk hr (so_i hf) dX10_top_22
  · have hf := it_t hf c1
    refine lv_iconst (v := (-1 : Int32)) hx hb dX10_top_7 (by decide) ?_
    refine lv_goto (tgt := 22) hx hb dX10_top_8 (by decide) ?_
    exact rtRi X hlk hr (so_i hf) dX10_top_22
