theorem dX2_remember_0 : decode cX2_remember 0 = .ok (.aload_n 0, 1) := by decide +kernel
theorem dX2_remember_1 : decode cX2_remember 1 = .ok (.getfield 25, 3) := by decide +kernel
theorem dX2_remember_4 : decode cX2_remember 4 = .ok (.bipush 20, 2) := by decide +kernel
theorem dX2_remember_6 : decode cX2_remember 6 = .ok (.if_icmp .lt 26, 3) := by decide +kernel
theorem dX2_remember_9 : decode cX2_remember 9 = .ok (.aload_n 0, 1) := by decide +kernel
theorem dX2_remember_10 : decode cX2_remember 10 = .ok (.getfield 22, 3) := by decide +kernel
theorem dX2_remember_13 : decode cX2_remember 13 = .ok (.bipush 41, 2) := by decide +kernel
theorem dX2_remember_15 : decode cX2_remember 15 = .ok (.aload_n 0, 1) := by decide +kernel
theorem dX2_remember_16 : decode cX2_remember 16 = .ok (.getfield 22, 3) := by decide +kernel
theorem dX2_remember_19 : decode cX2_remember 19 = .ok (.iconst 0, 1) := by decide +kernel
theorem dX2_remember_20 : decode cX2_remember 20 = .ok (.sipush 779, 3) := by decide +kernel
theorem dX2_remember_23 : decode cX2_remember 23 = .ok (.invokestatic 54, 3) := by decide +kernel
theorem dX2_remember_26 : decode cX2_remember 26 = .ok (.aload_n 0, 1) := by decide +kernel
theorem dX2_remember_27 : decode cX2_remember 27 = .ok (.bipush 19, 2) := by decide +kernel
theorem dX2_remember_29 : decode cX2_remember 29 = .ok (.putfield 25, 3) := by decide +kernel
theorem dX2_remember_32 : decode cX2_remember 32 = .ok (.aload_n 0, 1) := by decide +kernel
theorem dX2_remember_33 : decode cX2_remember 33 = .ok (.getfield 18, 3) := by decide +kernel
theorem dX2_remember_36 : decode cX2_remember 36 = .ok (.iconst 0, 1) := by decide +kernel
theorem dX2_remember_37 : decode cX2_remember 37 = .ok (.aload_n 0, 1) := by decide +kernel
theorem dX2_remember_38 : decode cX2_remember 38 = .ok (.getfield 22, 3) := by decide +kernel
theorem dX2_remember_41 : decode cX2_remember 41 = .ok (.aload_n 0, 1) := by decide +kernel
theorem dX2_remember_42 : decode cX2_remember 42 = .ok (.getfield 25, 3) := by decide +kernel
theorem dX2_remember_45 : decode cX2_remember 45 = .ok (.bipush 41, 2) := by decide +kernel
theorem dX2_remember_47 : decode cX2_remember 47 = .ok (.imul, 1) := by decide +kernel
theorem dX2_remember_48 : decode cX2_remember 48 = .ok (.bipush 41, 2) := by decide +kernel
theorem dX2_remember_50 : decode cX2_remember 50 = .ok (.invokestatic 54, 3) := by decide +kernel
theorem dX2_remember_53 : decode cX2_remember 53 = .ok (.aload_n 0, 1) := by decide +kernel
theorem dX2_remember_54 : decode cX2_remember 54 = .ok (.dup, 1) := by decide +kernel
theorem dX2_remember_55 : decode cX2_remember 55 = .ok (.getfield 25, 3) := by decide +kernel
theorem dX2_remember_58 : decode cX2_remember 58 = .ok (.iconst 1, 1) := by decide +kernel
theorem dX2_remember_59 : decode cX2_remember 59 = .ok (.iadd, 1) := by decide +kernel
theorem dX2_remember_60 : decode cX2_remember 60 = .ok (.putfield 25, 3) := by decide +kernel
theorem dX2_remember_63 : decode cX2_remember 63 = .ok (.return_, 1) := by decide +kernel
theorem dX2_takeBack_0 : decode cX2_takeBack 0 = .ok (.aload_n 0, 1) := by decide +kernel
theorem dX2_takeBack_1 : decode cX2_takeBack 1 = .ok (.getfield 25, 3) := by decide +kernel
theorem dX2_takeBack_4 : decode cX2_takeBack 4 = .ok (.iconst 1, 1) := by decide +kernel
theorem dX2_takeBack_5 : decode cX2_takeBack 5 = .ok (.if_icmp .ge 5, 3) := by decide +kernel
theorem dX2_takeBack_8 : decode cX2_takeBack 8 = .ok (.iconst 0, 1) := by decide +kernel
theorem dX2_takeBack_9 : decode cX2_takeBack 9 = .ok (.ireturn, 1) := by decide +kernel
theorem dX2_takeBack_10 : decode cX2_takeBack 10 = .ok (.aload_n 0, 1) := by decide +kernel
theorem dX2_takeBack_11 : decode cX2_takeBack 11 = .ok (.dup, 1) := by decide +kernel
theorem dX2_takeBack_12 : decode cX2_takeBack 12 = .ok (.getfield 25, 3) := by decide +kernel
theorem dX2_takeBack_15 : decode cX2_takeBack 15 = .ok (.iconst 1, 1) := by decide +kernel
theorem dX2_takeBack_16 : decode cX2_takeBack 16 = .ok (.isub, 1) := by decide +kernel
theorem dX2_takeBack_17 : decode cX2_takeBack 17 = .ok (.putfield 25, 3) := by decide +kernel
theorem dX2_takeBack_20 : decode cX2_takeBack 20 = .ok (.aload_n 0, 1) := by decide +kernel
theorem dX2_takeBack_21 : decode cX2_takeBack 21 = .ok (.getfield 22, 3) := by decide +kernel
theorem dX2_takeBack_24 : decode cX2_takeBack 24 = .ok (.aload_n 0, 1) := by decide +kernel
theorem dX2_takeBack_25 : decode cX2_takeBack 25 = .ok (.getfield 25, 3) := by decide +kernel
theorem dX2_takeBack_28 : decode cX2_takeBack 28 = .ok (.bipush 41, 2) := by decide +kernel
theorem dX2_takeBack_30 : decode cX2_takeBack 30 = .ok (.imul, 1) := by decide +kernel
theorem dX2_takeBack_31 : decode cX2_takeBack 31 = .ok (.aload_n 0, 1) := by decide +kernel
theorem dX2_takeBack_32 : decode cX2_takeBack 32 = .ok (.getfield 18, 3) := by decide +kernel
theorem dX2_takeBack_35 : decode cX2_takeBack 35 = .ok (.iconst 0, 1) := by decide +kernel
theorem dX2_takeBack_36 : decode cX2_takeBack 36 = .ok (.bipush 41, 2) := by decide +kernel
theorem dX2_takeBack_38 : decode cX2_takeBack 38 = .ok (.invokestatic 54, 3) := by decide +kernel
theorem dX2_takeBack_41 : decode cX2_takeBack 41 = .ok (.iconst 1, 1) := by decide +kernel
theorem dX2_takeBack_42 : decode cX2_takeBack 42 = .ok (.ireturn, 1) := by decide +kernel
theorem dX2_addBook_0 : decode cX2_addBook 0 = .ok (.aload_n 0, 1) := by decide +kernel
theorem dX2_addBook_1 : decode cX2_addBook 1 = .ok (.getfield 38, 3) := by decide +kernel
theorem dX2_addBook_4 : decode cX2_addBook 4 = .ok (.bipush 10, 2) := by decide +kernel
theorem dX2_addBook_6 : decode cX2_addBook 6 = .ok (.if_icmp .ge 43, 3) := by decide +kernel
theorem dX2_addBook_9 : decode cX2_addBook 9 = .ok (.aload_n 0, 1) := by decide +kernel
theorem dX2_addBook_10 : decode cX2_addBook 10 = .ok (.getfield 29, 3) := by decide +kernel
theorem dX2_addBook_13 : decode cX2_addBook 13 = .ok (.aload_n 0, 1) := by decide +kernel
theorem dX2_addBook_14 : decode cX2_addBook 14 = .ok (.getfield 38, 3) := by decide +kernel
theorem dX2_addBook_17 : decode cX2_addBook 17 = .ok (.iload_n 1, 1) := by decide +kernel
theorem dX2_addBook_18 : decode cX2_addBook 18 = .ok (.iastore, 1) := by decide +kernel
theorem dX2_addBook_19 : decode cX2_addBook 19 = .ok (.aload_n 0, 1) := by decide +kernel
theorem dX2_addBook_20 : decode cX2_addBook 20 = .ok (.getfield 32, 3) := by decide +kernel
theorem dX2_addBook_23 : decode cX2_addBook 23 = .ok (.aload_n 0, 1) := by decide +kernel
theorem dX2_addBook_24 : decode cX2_addBook 24 = .ok (.getfield 38, 3) := by decide +kernel
theorem dX2_addBook_27 : decode cX2_addBook 27 = .ok (.iload_n 2, 1) := by decide +kernel
theorem dX2_addBook_28 : decode cX2_addBook 28 = .ok (.iastore, 1) := by decide +kernel
theorem dX2_addBook_29 : decode cX2_addBook 29 = .ok (.aload_n 0, 1) := by decide +kernel
theorem dX2_addBook_30 : decode cX2_addBook 30 = .ok (.getfield 35, 3) := by decide +kernel
theorem dX2_addBook_33 : decode cX2_addBook 33 = .ok (.aload_n 0, 1) := by decide +kernel
theorem dX2_addBook_34 : decode cX2_addBook 34 = .ok (.getfield 38, 3) := by decide +kernel
theorem dX2_addBook_37 : decode cX2_addBook 37 = .ok (.iload_n 3, 1) := by decide +kernel
theorem dX2_addBook_38 : decode cX2_addBook 38 = .ok (.iastore, 1) := by decide +kernel
theorem dX2_addBook_39 : decode cX2_addBook 39 = .ok (.aload_n 0, 1) := by decide +kernel
theorem dX2_addBook_40 : decode cX2_addBook 40 = .ok (.dup, 1) := by decide +kernel
theorem dX2_addBook_41 : decode cX2_addBook 41 = .ok (.getfield 38, 3) := by decide +kernel
theorem dX2_addBook_44 : decode cX2_addBook 44 = .ok (.iconst 1, 1) := by decide +kernel
theorem dX2_addBook_45 : decode cX2_addBook 45 = .ok (.iadd, 1) := by decide +kernel
theorem dX2_addBook_46 : decode cX2_addBook 46 = .ok (.putfield 38, 3) := by decide +kernel
theorem dX2_addBook_49 : decode cX2_addBook 49 = .ok (.return_, 1) := by decide +kernel
theorem dX2_copyFrom_0 : decode cX2_copyFrom 0 = .ok (.aload_n 0, 1) := by decide +kernel
theorem dX2_copyFrom_1 : decode cX2_copyFrom 1 = .ok (.getfield 12, 3) := by decide +kernel
theorem dX2_copyFrom_4 : decode cX2_copyFrom 4 = .ok (.aload_n 1, 1) := by decide +kernel
theorem dX2_copyFrom_5 : decode cX2_copyFrom 5 = .ok (.getfield 12, 3) := by decide +kernel
theorem dX2_copyFrom_8 : decode cX2_copyFrom 8 = .ok (.invokevirtual 47, 3) := by decide +kernel
theorem dX2_copyFrom_11 : decode cX2_copyFrom 11 = .ok (.aload_n 1, 1) := by decide +kernel
theorem dX2_copyFrom_12 : decode cX2_copyFrom 12 = .ok (.getfield 18, 3) := by decide +kernel
theorem dX2_copyFrom_15 : decode cX2_copyFrom 15 = .ok (.iconst 0, 1) := by decide +kernel
theorem dX2_copyFrom_16 : decode cX2_copyFrom 16 = .ok (.aload_n 0, 1) := by decide +kernel
theorem dX2_copyFrom_17 : decode cX2_copyFrom 17 = .ok (.getfield 18, 3) := by decide +kernel
theorem dX2_copyFrom_20 : decode cX2_copyFrom 20 = .ok (.iconst 0, 1) := by decide +kernel
theorem dX2_copyFrom_21 : decode cX2_copyFrom 21 = .ok (.bipush 41, 2) := by decide +kernel
theorem dX2_copyFrom_23 : decode cX2_copyFrom 23 = .ok (.invokestatic 54, 3) := by decide +kernel
theorem dX2_copyFrom_26 : decode cX2_copyFrom 26 = .ok (.aload_n 1, 1) := by decide +kernel
theorem dX2_copyFrom_27 : decode cX2_copyFrom 27 = .ok (.getfield 22, 3) := by decide +kernel
theorem dX2_copyFrom_30 : decode cX2_copyFrom 30 = .ok (.iconst 0, 1) := by decide +kernel
theorem dX2_copyFrom_31 : decode cX2_copyFrom 31 = .ok (.aload_n 0, 1) := by decide +kernel
theorem dX2_copyFrom_32 : decode cX2_copyFrom 32 = .ok (.getfield 22, 3) := by decide +kernel
theorem dX2_copyFrom_35 : decode cX2_copyFrom 35 = .ok (.iconst 0, 1) := by decide +kernel
theorem dX2_copyFrom_36 : decode cX2_copyFrom 36 = .ok (.sipush 820, 3) := by decide +kernel
theorem dX2_copyFrom_39 : decode cX2_copyFrom 39 = .ok (.invokestatic 54, 3) := by decide +kernel
theorem dX2_copyFrom_42 : decode cX2_copyFrom 42 = .ok (.aload_n 0, 1) := by decide +kernel
theorem dX2_copyFrom_43 : decode cX2_copyFrom 43 = .ok (.aload_n 1, 1) := by decide +kernel
theorem dX2_copyFrom_44 : decode cX2_copyFrom 44 = .ok (.getfield 25, 3) := by decide +kernel
theorem dX2_copyFrom_47 : decode cX2_copyFrom 47 = .ok (.putfield 25, 3) := by decide +kernel
theorem dX2_copyFrom_50 : decode cX2_copyFrom 50 = .ok (.aload_n 1, 1) := by decide +kernel
theorem dX2_copyFrom_51 : decode cX2_copyFrom 51 = .ok (.getfield 29, 3) := by decide +kernel
theorem dX2_copyFrom_54 : decode cX2_copyFrom 54 = .ok (.iconst 0, 1) := by decide +kernel
theorem dX2_copyFrom_55 : decode cX2_copyFrom 55 = .ok (.aload_n 0, 1) := by decide +kernel
theorem dX2_copyFrom_56 : decode cX2_copyFrom 56 = .ok (.getfield 29, 3) := by decide +kernel
theorem dX2_copyFrom_59 : decode cX2_copyFrom 59 = .ok (.iconst 0, 1) := by decide +kernel
theorem dX2_copyFrom_60 : decode cX2_copyFrom 60 = .ok (.bipush 10, 2) := by decide +kernel
theorem dX2_copyFrom_62 : decode cX2_copyFrom 62 = .ok (.invokestatic 54, 3) := by decide +kernel
theorem dX2_copyFrom_65 : decode cX2_copyFrom 65 = .ok (.aload_n 1, 1) := by decide +kernel
theorem dX2_copyFrom_66 : decode cX2_copyFrom 66 = .ok (.getfield 32, 3) := by decide +kernel
theorem dX2_copyFrom_69 : decode cX2_copyFrom 69 = .ok (.iconst 0, 1) := by decide +kernel
theorem dX2_copyFrom_70 : decode cX2_copyFrom 70 = .ok (.aload_n 0, 1) := by decide +kernel
theorem dX2_copyFrom_71 : decode cX2_copyFrom 71 = .ok (.getfield 32, 3) := by decide +kernel
theorem dX2_copyFrom_74 : decode cX2_copyFrom 74 = .ok (.iconst 0, 1) := by decide +kernel
theorem dX2_copyFrom_75 : decode cX2_copyFrom 75 = .ok (.bipush 10, 2) := by decide +kernel
theorem dX2_copyFrom_77 : decode cX2_copyFrom 77 = .ok (.invokestatic 54, 3) := by decide +kernel
theorem dX2_copyFrom_80 : decode cX2_copyFrom 80 = .ok (.aload_n 1, 1) := by decide +kernel
theorem dX2_copyFrom_81 : decode cX2_copyFrom 81 = .ok (.getfield 35, 3) := by decide +kernel
theorem dX2_copyFrom_84 : decode cX2_copyFrom 84 = .ok (.iconst 0, 1) := by decide +kernel
theorem dX2_copyFrom_85 : decode cX2_copyFrom 85 = .ok (.aload_n 0, 1) := by decide +kernel
theorem dX2_copyFrom_86 : decode cX2_copyFrom 86 = .ok (.getfield 35, 3) := by decide +kernel
theorem dX2_copyFrom_89 : decode cX2_copyFrom 89 = .ok (.iconst 0, 1) := by decide +kernel
theorem dX2_copyFrom_90 : decode cX2_copyFrom 90 = .ok (.bipush 10, 2) := by decide +kernel
theorem dX2_copyFrom_92 : decode cX2_copyFrom 92 = .ok (.invokestatic 54, 3) := by decide +kernel
theorem dX2_copyFrom_95 : decode cX2_copyFrom 95 = .ok (.aload_n 0, 1) := by decide +kernel
theorem dX2_copyFrom_96 : decode cX2_copyFrom 96 = .ok (.aload_n 1, 1) := by decide +kernel
theorem dX2_copyFrom_97 : decode cX2_copyFrom 97 = .ok (.getfield 38, 3) := by decide +kernel
theorem dX2_copyFrom_100 : decode cX2_copyFrom 100 = .ok (.putfield 38, 3) := by decide +kernel
theorem dX2_copyFrom_103 : decode cX2_copyFrom 103 = .ok (.aload_n 0, 1) := by decide +kernel
theorem dX2_copyFrom_104 : decode cX2_copyFrom 104 = .ok (.aload_n 1, 1) := by decide +kernel
theorem dX2_copyFrom_105 : decode cX2_copyFrom 105 = .ok (.getfield 41, 3) := by decide +kernel
theorem dX2_copyFrom_108 : decode cX2_copyFrom 108 = .ok (.putfield 41, 3) := by decide +kernel
theorem dX2_copyFrom_111 : decode cX2_copyFrom 111 = .ok (.aload_n 0, 1) := by decide +kernel
theorem dX2_copyFrom_112 : decode cX2_copyFrom 112 = .ok (.aload_n 1, 1) := by decide +kernel
theorem dX2_copyFrom_113 : decode cX2_copyFrom 113 = .ok (.getfield 44, 3) := by decide +kernel
theorem dX2_copyFrom_116 : decode cX2_copyFrom 116 = .ok (.putfield 44, 3) := by decide +kernel
theorem dX2_copyFrom_119 : decode cX2_copyFrom 119 = .ok (.return_, 1) := by decide +kernel
theorem dX8_follow_0 : decode cX8_follow 0 = .ok (.aload_n 0, 1) := by decide +kernel
theorem dX8_follow_1 : decode cX8_follow 1 = .ok (.aload_n 1, 1) := by decide +kernel
theorem dX8_follow_2 : decode cX8_follow 2 = .ok (.putfield 15, 3) := by decide +kernel
theorem dX8_follow_5 : decode cX8_follow 5 = .ok (.aload_n 0, 1) := by decide +kernel
theorem dX8_follow_6 : decode cX8_follow 6 = .ok (.aload_n 0, 1) := by decide +kernel
theorem dX8_follow_7 : decode cX8_follow 7 = .ok (.getfield 23, 3) := by decide +kernel
theorem dX8_follow_10 : decode cX8_follow 10 = .ok (.getfield 27, 3) := by decide +kernel
theorem dX8_follow_13 : decode cX8_follow 13 = .ok (.putfield 19, 3) := by decide +kernel
theorem dX8_follow_16 : decode cX8_follow 16 = .ok (.return_, 1) := by decide +kernel
theorem dX3_weigh_0 : decode cX3_weigh 0 = .ok (.aload_n 0, 1) := by decide +kernel
theorem dX3_weigh_1 : decode cX3_weigh 1 = .ok (.getfield 16, 3) := by decide +kernel
theorem dX3_weigh_4 : decode cX3_weigh 4 = .ok (.iload_n 1, 1) := by decide +kernel
theorem dX3_weigh_5 : decode cX3_weigh 5 = .ok (.iaload, 1) := by decide +kernel
theorem dX3_weigh_6 : decode cX3_weigh 6 = .ok (.istore_n 2, 1) := by decide +kernel
theorem dX3_weigh_7 : decode cX3_weigh 7 = .ok (.aload_n 0, 1) := by decide +kernel
theorem dX3_weigh_8 : decode cX3_weigh 8 = .ok (.aload_n 0, 1) := by decide +kernel
theorem dX3_weigh_9 : decode cX3_weigh 9 = .ok (.getfield 36, 3) := by decide +kernel
theorem dX3_weigh_12 : decode cX3_weigh 12 = .ok (.ifCond .ge 7, 3) := by decide +kernel
theorem dX3_weigh_15 : decode cX3_weigh 15 = .ok (.iload_n 2, 1) := by decide +kernel
theorem dX3_weigh_16 : decode cX3_weigh 16 = .ok (.goto 11, 3) := by decide +kernel
theorem dX3_weigh_19 : decode cX3_weigh 19 = .ok (.aload_n 0, 1) := by decide +kernel
theorem dX3_weigh_20 : decode cX3_weigh 20 = .ok (.getfield 36, 3) := by decide +kernel
theorem dX3_weigh_23 : decode cX3_weigh 23 = .ok (.iload_n 2, 1) := by decide +kernel
theorem dX3_weigh_24 : decode cX3_weigh 24 = .ok (.invokestatic 86, 3) := by decide +kernel
theorem dX3_weigh_27 : decode cX3_weigh 27 = .ok (.putfield 36, 3) := by decide +kernel
theorem dX3_weigh_30 : decode cX3_weigh 30 = .ok (.aload_n 0, 1) := by decide +kernel
theorem dX3_weigh_31 : decode cX3_weigh 31 = .ok (.aload_n 0, 1) := by decide +kernel
theorem dX3_weigh_32 : decode cX3_weigh 32 = .ok (.getfield 39, 3) := by decide +kernel
theorem dX3_weigh_35 : decode cX3_weigh 35 = .ok (.iload_n 2, 1) := by decide +kernel
theorem dX3_weigh_36 : decode cX3_weigh 36 = .ok (.invokestatic 92, 3) := by decide +kernel
theorem dX3_weigh_39 : decode cX3_weigh 39 = .ok (.putfield 39, 3) := by decide +kernel
theorem dX3_weigh_42 : decode cX3_weigh 42 = .ok (.aload_n 0, 1) := by decide +kernel
theorem dX3_weigh_43 : decode cX3_weigh 43 = .ok (.getfield 11, 3) := by decide +kernel
theorem dX3_weigh_46 : decode cX3_weigh 46 = .ok (.iload_n 1, 1) := by decide +kernel
theorem dX3_weigh_47 : decode cX3_weigh 47 = .ok (.aaload, 1) := by decide +kernel
theorem dX3_weigh_48 : decode cX3_weigh 48 = .ok (.bipush 38, 2) := by decide +kernel
theorem dX3_weigh_50 : decode cX3_weigh 50 = .ok (.iaload, 1) := by decide +kernel
theorem dX3_weigh_51 : decode cX3_weigh 51 = .ok (.aload_n 0, 1) := by decide +kernel
theorem dX3_weigh_52 : decode cX3_weigh 52 = .ok (.getfield 11, 3) := by decide +kernel
theorem dX3_weigh_55 : decode cX3_weigh 55 = .ok (.iconst 0, 1) := by decide +kernel
theorem dX3_weigh_56 : decode cX3_weigh 56 = .ok (.aaload, 1) := by decide +kernel
theorem dX3_weigh_57 : decode cX3_weigh 57 = .ok (.bipush 38, 2) := by decide +kernel
theorem dX3_weigh_59 : decode cX3_weigh 59 = .ok (.iaload, 1) := by decide +kernel
theorem dX3_weigh_60 : decode cX3_weigh 60 = .ok (.if_icmp .ne 7, 3) := by decide +kernel
theorem dX3_weigh_63 : decode cX3_weigh 63 = .ok (.iconst 1, 1) := by decide +kernel
theorem dX3_weigh_64 : decode cX3_weigh 64 = .ok (.goto 4, 3) := by decide +kernel
theorem dX3_weigh_67 : decode cX3_weigh 67 = .ok (.iconst 0, 1) := by decide +kernel
theorem dX3_weigh_68 : decode cX3_weigh 68 = .ok (.istore_n 3, 1) := by decide +kernel
theorem dX3_weigh_69 : decode cX3_weigh 69 = .ok (.iload_n 3, 1) := by decide +kernel
theorem dX3_weigh_70 : decode cX3_weigh 70 = .ok (.ifCond .eq 30, 3) := by decide +kernel
theorem dX3_weigh_73 : decode cX3_weigh 73 = .ok (.iload_n 2, 1) := by decide +kernel
theorem dX3_weigh_74 : decode cX3_weigh 74 = .ok (.aload_n 0, 1) := by decide +kernel
theorem dX3_weigh_75 : decode cX3_weigh 75 = .ok (.getfield 33, 3) := by decide +kernel
theorem dX3_weigh_78 : decode cX3_weigh 78 = .ok (.if_icmp .le 22, 3) := by decide +kernel
theorem dX3_weigh_81 : decode cX3_weigh 81 = .ok (.aload_n 0, 1) := by decide +kernel
theorem dX3_weigh_82 : decode cX3_weigh 82 = .ok (.iload_n 2, 1) := by decide +kernel
theorem dX3_weigh_83 : decode cX3_weigh 83 = .ok (.putfield 33, 3) := by decide +kernel
theorem dX3_weigh_86 : decode cX3_weigh 86 = .ok (.aload_n 0, 1) := by decide +kernel
theorem dX3_weigh_87 : decode cX3_weigh 87 = .ok (.getfield 20, 3) := by decide +kernel
theorem dX3_weigh_90 : decode cX3_weigh 90 = .ok (.iconst 0, 1) := by decide +kernel
theorem dX3_weigh_91 : decode cX3_weigh 91 = .ok (.aload_n 0, 1) := by decide +kernel
theorem dX3_weigh_92 : decode cX3_weigh 92 = .ok (.getfield 30, 3) := by decide +kernel
theorem dX3_weigh_95 : decode cX3_weigh 95 = .ok (.iconst 0, 1) := by decide +kernel
theorem dX3_weigh_96 : decode cX3_weigh 96 = .ok (.iconst 4, 1) := by decide +kernel
theorem dX3_weigh_97 : decode cX3_weigh 97 = .ok (.invokestatic 50, 3) := by decide +kernel
theorem dX3_weigh_100 : decode cX3_weigh 100 = .ok (.return_, 1) := by decide +kernel
theorem dX8_canCall_0 : decode cX8_canCall 0 = .ok (.aload_n 1, 1) := by decide +kernel
theorem dX8_canCall_1 : decode cX8_canCall 1 = .ok (.bipush 32, 2) := by decide +kernel
theorem dX8_canCall_3 : decode cX8_canCall 3 = .ok (.iload_n 2, 1) := by decide +kernel
theorem dX8_canCall_4 : decode cX8_canCall 4 = .ok (.iadd, 1) := by decide +kernel
theorem dX8_canCall_5 : decode cX8_canCall 5 = .ok (.iaload, 1) := by decide +kernel
theorem dX8_canCall_6 : decode cX8_canCall 6 = .ok (.istore 4, 2) := by decide +kernel
theorem dX8_canCall_8 : decode cX8_canCall 8 = .ok (.iload 4, 2) := by decide +kernel
theorem dX8_canCall_10 : decode cX8_canCall 10 = .ok (.iload_n 3, 1) := by decide +kernel
theorem dX8_canCall_11 : decode cX8_canCall 11 = .ok (.if_icmp .eq 20, 3) := by decide +kernel
theorem dX8_canCall_14 : decode cX8_canCall 14 = .ok (.aload_n 0, 1) := by decide +kernel
theorem dX8_canCall_15 : decode cX8_canCall 15 = .ok (.getfield 23, 3) := by decide +kernel
theorem dX8_canCall_18 : decode cX8_canCall 18 = .ok (.getfield 62, 3) := by decide +kernel
theorem dX8_canCall_21 : decode cX8_canCall 21 = .ok (.iload_n 3, 1) := by decide +kernel
theorem dX8_canCall_22 : decode cX8_canCall 22 = .ok (.iaload, 1) := by decide +kernel
theorem dX8_canCall_23 : decode cX8_canCall 23 = .ok (.iload 4, 2) := by decide +kernel
theorem dX8_canCall_25 : decode cX8_canCall 25 = .ok (.ishr, 1) := by decide +kernel
theorem dX8_canCall_26 : decode cX8_canCall 26 = .ok (.iconst 1, 1) := by decide +kernel
theorem dX8_canCall_27 : decode cX8_canCall 27 = .ok (.iand, 1) := by decide +kernel
theorem dX8_canCall_28 : decode cX8_canCall 28 = .ok (.ifCond .eq 7, 3) := by decide +kernel
theorem dX8_canCall_31 : decode cX8_canCall 31 = .ok (.iconst 1, 1) := by decide +kernel
theorem dX8_canCall_32 : decode cX8_canCall 32 = .ok (.goto 4, 3) := by decide +kernel
theorem dX8_canCall_35 : decode cX8_canCall 35 = .ok (.iconst 0, 1) := by decide +kernel
theorem dX8_canCall_36 : decode cX8_canCall 36 = .ok (.istore 5, 2) := by decide +kernel
theorem dX8_canCall_38 : decode cX8_canCall 38 = .ok (.iload 5, 2) := by decide +kernel
theorem dX8_canCall_40 : decode cX8_canCall 40 = .ok (.ifCond .eq 31, 3) := by decide +kernel
theorem dX8_canCall_43 : decode cX8_canCall 43 = .ok (.aload_n 1, 1) := by decide +kernel
theorem dX8_canCall_44 : decode cX8_canCall 44 = .ok (.bipush 38, 2) := by decide +kernel
theorem dX8_canCall_46 : decode cX8_canCall 46 = .ok (.iaload, 1) := by decide +kernel
theorem dX8_canCall_47 : decode cX8_canCall 47 = .ok (.iload_n 3, 1) := by decide +kernel
theorem dX8_canCall_48 : decode cX8_canCall 48 = .ok (.ishr, 1) := by decide +kernel
theorem dX8_canCall_49 : decode cX8_canCall 49 = .ok (.iconst 1, 1) := by decide +kernel
theorem dX8_canCall_50 : decode cX8_canCall 50 = .ok (.iand, 1) := by decide +kernel
theorem dX8_canCall_51 : decode cX8_canCall 51 = .ok (.ifCond .ne 20, 3) := by decide +kernel
theorem dX8_canCall_54 : decode cX8_canCall 54 = .ok (.aload_n 1, 1) := by decide +kernel
theorem dX8_canCall_55 : decode cX8_canCall 55 = .ok (.bipush 24, 2) := by decide +kernel
theorem dX8_canCall_57 : decode cX8_canCall 57 = .ok (.iload_n 3, 1) := by decide +kernel
theorem dX8_canCall_58 : decode cX8_canCall 58 = .ok (.iadd, 1) := by decide +kernel
theorem dX8_canCall_59 : decode cX8_canCall 59 = .ok (.iaload, 1) := by decide +kernel
theorem dX8_canCall_60 : decode cX8_canCall 60 = .ok (.aload_n 1, 1) := by decide +kernel
theorem dX8_canCall_61 : decode cX8_canCall 61 = .ok (.bipush 39, 2) := by decide +kernel
theorem dX8_canCall_63 : decode cX8_canCall 63 = .ok (.iaload, 1) := by decide +kernel
theorem dX8_canCall_64 : decode cX8_canCall 64 = .ok (.if_icmp .eq 7, 3) := by decide +kernel
theorem dX8_canCall_67 : decode cX8_canCall 67 = .ok (.iconst 1, 1) := by decide +kernel
theorem dX8_canCall_68 : decode cX8_canCall 68 = .ok (.goto 4, 3) := by decide +kernel
theorem dX8_canCall_71 : decode cX8_canCall 71 = .ok (.iconst 0, 1) := by decide +kernel
theorem dX8_canCall_72 : decode cX8_canCall 72 = .ok (.ireturn, 1) := by decide +kernel
theorem dX8_room_0 : decode cX8_room 0 = .ok (.aload_n 0, 1) := by decide +kernel
theorem dX8_room_1 : decode cX8_room 1 = .ok (.getfield 23, 3) := by decide +kernel
theorem dX8_room_4 : decode cX8_room 4 = .ok (.getfield 69, 3) := by decide +kernel
theorem dX8_room_7 : decode cX8_room 7 = .ok (.iload_n 2, 1) := by decide +kernel
theorem dX8_room_8 : decode cX8_room 8 = .ok (.iaload, 1) := by decide +kernel
theorem dX8_room_9 : decode cX8_room 9 = .ok (.aload_n 1, 1) := by decide +kernel
theorem dX8_room_10 : decode cX8_room 10 = .ok (.bipush 35, 2) := by decide +kernel
theorem dX8_room_12 : decode cX8_room 12 = .ok (.iload_n 2, 1) := by decide +kernel
theorem dX8_room_13 : decode cX8_room 13 = .ok (.iadd, 1) := by decide +kernel
theorem dX8_room_14 : decode cX8_room 14 = .ok (.iaload, 1) := by decide +kernel
theorem dX8_room_15 : decode cX8_room 15 = .ok (.isub, 1) := by decide +kernel
theorem dX8_room_16 : decode cX8_room 16 = .ok (.ireturn, 1) := by decide +kernel
theorem dX8_share_0 : decode cX8_share 0 = .ok (.aload_n 0, 1) := by decide +kernel
theorem dX8_share_1 : decode cX8_share 1 = .ok (.getfield 19, 3) := by decide +kernel
theorem dX8_share_4 : decode cX8_share 4 = .ok (.aload_n 1, 1) := by decide +kernel
theorem dX8_share_5 : decode cX8_share 5 = .ok (.iconst 0, 1) := by decide +kernel
theorem dX8_share_6 : decode cX8_share 6 = .ok (.iload_n 3, 1) := by decide +kernel
theorem dX8_share_7 : decode cX8_share 7 = .ok (.iadd, 1) := by decide +kernel
theorem dX8_share_8 : decode cX8_share 8 = .ok (.iaload, 1) := by decide +kernel
theorem dX8_share_9 : decode cX8_share 9 = .ok (.imul, 1) := by decide +kernel
theorem dX8_share_10 : decode cX8_share 10 = .ok (.bipush 100, 2) := by decide +kernel
theorem dX8_share_12 : decode cX8_share 12 = .ok (.idiv, 1) := by decide +kernel
theorem dX8_share_13 : decode cX8_share 13 = .ok (.aload_n 0, 1) := by decide +kernel
theorem dX8_share_14 : decode cX8_share 14 = .ok (.aload_n 1, 1) := by decide +kernel
theorem dX8_share_15 : decode cX8_share 15 = .ok (.iload_n 2, 1) := by decide +kernel
theorem dX8_share_16 : decode cX8_share 16 = .ok (.invokevirtual 72, 3) := by decide +kernel
theorem dX8_share_19 : decode cX8_share 19 = .ok (.invokestatic 75, 3) := by decide +kernel
theorem dX8_share_22 : decode cX8_share 22 = .ok (.ireturn, 1) := by decide +kernel
theorem dX8_callAt_0 : decode cX8_callAt 0 = .ok (.aload_n 0, 1) := by decide +kernel
theorem dX8_callAt_1 : decode cX8_callAt 1 = .ok (.aload_n 1, 1) := by decide +kernel
theorem dX8_callAt_2 : decode cX8_callAt 2 = .ok (.iload_n 2, 1) := by decide +kernel
theorem dX8_callAt_3 : decode cX8_callAt 3 = .ok (.iload_n 3, 1) := by decide +kernel
theorem dX8_callAt_4 : decode cX8_callAt 4 = .ok (.invokevirtual 66, 3) := by decide +kernel
theorem dX8_callAt_7 : decode cX8_callAt 7 = .ok (.istore 4, 2) := by decide +kernel
theorem dX8_callAt_9 : decode cX8_callAt 9 = .ok (.aload_n 1, 1) := by decide +kernel
theorem dX8_callAt_10 : decode cX8_callAt 10 = .ok (.iconst 0, 1) := by decide +kernel
theorem dX8_callAt_11 : decode cX8_callAt 11 = .ok (.iload_n 3, 1) := by decide +kernel
theorem dX8_callAt_12 : decode cX8_callAt 12 = .ok (.iadd, 1) := by decide +kernel
theorem dX8_callAt_13 : decode cX8_callAt 13 = .ok (.dup2, 1) := by decide +kernel
theorem dX8_callAt_14 : decode cX8_callAt 14 = .ok (.iaload, 1) := by decide +kernel
theorem dX8_callAt_15 : decode cX8_callAt 15 = .ok (.iload 4, 2) := by decide +kernel
theorem dX8_callAt_17 : decode cX8_callAt 17 = .ok (.isub, 1) := by decide +kernel
theorem dX8_callAt_18 : decode cX8_callAt 18 = .ok (.iastore, 1) := by decide +kernel
theorem dX8_callAt_19 : decode cX8_callAt 19 = .ok (.aload_n 1, 1) := by decide +kernel
theorem dX8_callAt_20 : decode cX8_callAt 20 = .ok (.bipush 35, 2) := by decide +kernel
theorem dX8_callAt_22 : decode cX8_callAt 22 = .ok (.iload_n 2, 1) := by decide +kernel
theorem dX8_callAt_23 : decode cX8_callAt 23 = .ok (.iadd, 1) := by decide +kernel
theorem dX8_callAt_24 : decode cX8_callAt 24 = .ok (.dup2, 1) := by decide +kernel
theorem dX8_callAt_25 : decode cX8_callAt 25 = .ok (.iaload, 1) := by decide +kernel
theorem dX8_callAt_26 : decode cX8_callAt 26 = .ok (.iload 4, 2) := by decide +kernel
theorem dX8_callAt_28 : decode cX8_callAt 28 = .ok (.iadd, 1) := by decide +kernel
theorem dX8_callAt_29 : decode cX8_callAt 29 = .ok (.iastore, 1) := by decide +kernel
theorem dX8_callAt_30 : decode cX8_callAt 30 = .ok (.aload_n 1, 1) := by decide +kernel
theorem dX8_callAt_31 : decode cX8_callAt 31 = .ok (.bipush 32, 2) := by decide +kernel
theorem dX8_callAt_33 : decode cX8_callAt 33 = .ok (.iload_n 2, 1) := by decide +kernel
theorem dX8_callAt_34 : decode cX8_callAt 34 = .ok (.iadd, 1) := by decide +kernel
theorem dX8_callAt_35 : decode cX8_callAt 35 = .ok (.iload_n 3, 1) := by decide +kernel
theorem dX8_callAt_36 : decode cX8_callAt 36 = .ok (.iastore, 1) := by decide +kernel
theorem dX8_callAt_37 : decode cX8_callAt 37 = .ok (.aload_n 1, 1) := by decide +kernel
theorem dX8_callAt_38 : decode cX8_callAt 38 = .ok (.bipush 24, 2) := by decide +kernel
theorem dX8_callAt_40 : decode cX8_callAt 40 = .ok (.iload_n 3, 1) := by decide +kernel
theorem dX8_callAt_41 : decode cX8_callAt 41 = .ok (.iadd, 1) := by decide +kernel
theorem dX8_callAt_42 : decode cX8_callAt 42 = .ok (.aload_n 1, 1) := by decide +kernel
theorem dX8_callAt_43 : decode cX8_callAt 43 = .ok (.bipush 39, 2) := by decide +kernel
theorem dX8_callAt_45 : decode cX8_callAt 45 = .ok (.iaload, 1) := by decide +kernel
theorem dX8_callAt_46 : decode cX8_callAt 46 = .ok (.iastore, 1) := by decide +kernel
theorem dX8_callAt_47 : decode cX8_callAt 47 = .ok (.iload 4, 2) := by decide +kernel
theorem dX8_callAt_49 : decode cX8_callAt 49 = .ok (.ireturn, 1) := by decide +kernel
theorem dX8_burn_0 : decode cX8_burn 0 = .ok (.iload_n 2, 1) := by decide +kernel
theorem dX8_burn_1 : decode cX8_burn 1 = .ok (.ifCond .ne 17, 3) := by decide +kernel
theorem dX8_burn_4 : decode cX8_burn 4 = .ok (.aload_n 0, 1) := by decide +kernel
theorem dX8_burn_5 : decode cX8_burn 5 = .ok (.getfield 23, 3) := by decide +kernel
theorem dX8_burn_8 : decode cX8_burn 8 = .ok (.aload_n 1, 1) := by decide +kernel
theorem dX8_burn_9 : decode cX8_burn 9 = .ok (.bipush 39, 2) := by decide +kernel
theorem dX8_burn_11 : decode cX8_burn 11 = .ok (.iaload, 1) := by decide +kernel
theorem dX8_burn_12 : decode cX8_burn 12 = .ok (.invokevirtual 92, 3) := by decide +kernel
theorem dX8_burn_15 : decode cX8_burn 15 = .ok (.ifCond .eq 15, 3) := by decide +kernel
theorem dX8_burn_18 : decode cX8_burn 18 = .ok (.iconst 2, 1) := by decide +kernel
theorem dX8_burn_19 : decode cX8_burn 19 = .ok (.aload_n 0, 1) := by decide +kernel
theorem dX8_burn_20 : decode cX8_burn 20 = .ok (.getfield 23, 3) := by decide +kernel
theorem dX8_burn_23 : decode cX8_burn 23 = .ok (.getfield 96, 3) := by decide +kernel
theorem dX8_burn_26 : decode cX8_burn 26 = .ok (.imul, 1) := by decide +kernel
theorem dX8_burn_27 : decode cX8_burn 27 = .ok (.goto 10, 3) := by decide +kernel
theorem dX8_burn_30 : decode cX8_burn 30 = .ok (.aload_n 0, 1) := by decide +kernel
theorem dX8_burn_31 : decode cX8_burn 31 = .ok (.getfield 23, 3) := by decide +kernel
theorem dX8_burn_34 : decode cX8_burn 34 = .ok (.getfield 96, 3) := by decide +kernel
theorem dX8_burn_37 : decode cX8_burn 37 = .ok (.istore_n 3, 1) := by decide +kernel
theorem dX8_burn_38 : decode cX8_burn 38 = .ok (.iconst 0, 1) := by decide +kernel
theorem dX8_burn_39 : decode cX8_burn 39 = .ok (.istore 4, 2) := by decide +kernel
theorem dX8_burn_41 : decode cX8_burn 41 = .ok (.iload 4, 2) := by decide +kernel
theorem dX8_burn_43 : decode cX8_burn 43 = .ok (.aload_n 0, 1) := by decide +kernel
theorem dX8_burn_44 : decode cX8_burn 44 = .ok (.getfield 23, 3) := by decide +kernel
theorem dX8_burn_47 : decode cX8_burn 47 = .ok (.getfield 45, 3) := by decide +kernel
theorem dX8_burn_50 : decode cX8_burn 50 = .ok (.if_icmp .ge 115, 3) := by decide +kernel
theorem dX8_burn_53 : decode cX8_burn 53 = .ok (.aload_n 1, 1) := by decide +kernel
theorem dX8_burn_54 : decode cX8_burn 54 = .ok (.bipush 38, 2) := by decide +kernel
theorem dX8_burn_56 : decode cX8_burn 56 = .ok (.iaload, 1) := by decide +kernel
theorem dX8_burn_57 : decode cX8_burn 57 = .ok (.iload 4, 2) := by decide +kernel
theorem dX8_burn_59 : decode cX8_burn 59 = .ok (.ishr, 1) := by decide +kernel
theorem dX8_burn_60 : decode cX8_burn 60 = .ok (.iconst 1, 1) := by decide +kernel
theorem dX8_burn_61 : decode cX8_burn 61 = .ok (.iand, 1) := by decide +kernel
theorem dX8_burn_62 : decode cX8_burn 62 = .ok (.ifCond .eq 6, 3) := by decide +kernel
theorem dX8_burn_65 : decode cX8_burn 65 = .ok (.goto 94, 3) := by decide +kernel
theorem dX8_burn_68 : decode cX8_burn 68 = .ok (.aload_n 1, 1) := by decide +kernel
theorem dX8_burn_69 : decode cX8_burn 69 = .ok (.iconst 0, 1) := by decide +kernel
theorem dX8_burn_70 : decode cX8_burn 70 = .ok (.iload 4, 2) := by decide +kernel
theorem dX8_burn_72 : decode cX8_burn 72 = .ok (.iadd, 1) := by decide +kernel
theorem dX8_burn_73 : decode cX8_burn 73 = .ok (.iaload, 1) := by decide +kernel
theorem dX8_burn_74 : decode cX8_burn 74 = .ok (.istore 5, 2) := by decide +kernel
theorem dX8_burn_76 : decode cX8_burn 76 = .ok (.aload_n 1, 1) := by decide +kernel
theorem dX8_burn_77 : decode cX8_burn 77 = .ok (.bipush 8, 2) := by decide +kernel
theorem dX8_burn_79 : decode cX8_burn 79 = .ok (.iload 4, 2) := by decide +kernel
theorem dX8_burn_81 : decode cX8_burn 81 = .ok (.iadd, 1) := by decide +kernel
theorem dX8_burn_82 : decode cX8_burn 82 = .ok (.iaload, 1) := by decide +kernel
theorem dX8_burn_83 : decode cX8_burn 83 = .ok (.ifCond .le 35, 3) := by decide +kernel
theorem dX8_burn_86 : decode cX8_burn 86 = .ok (.aload_n 1, 1) := by decide +kernel
theorem dX8_burn_87 : decode cX8_burn 87 = .ok (.bipush 8, 2) := by decide +kernel
theorem dX8_burn_89 : decode cX8_burn 89 = .ok (.iload 4, 2) := by decide +kernel
theorem dX8_burn_91 : decode cX8_burn 91 = .ok (.iadd, 1) := by decide +kernel
theorem dX8_burn_92 : decode cX8_burn 92 = .ok (.dup2, 1) := by decide +kernel
theorem dX8_burn_93 : decode cX8_burn 93 = .ok (.iaload, 1) := by decide +kernel
theorem dX8_burn_94 : decode cX8_burn 94 = .ok (.iconst 1, 1) := by decide +kernel
theorem dX8_burn_95 : decode cX8_burn 95 = .ok (.isub, 1) := by decide +kernel
theorem dX8_burn_96 : decode cX8_burn 96 = .ok (.iastore, 1) := by decide +kernel
theorem dX8_burn_97 : decode cX8_burn 97 = .ok (.sipush 999, 3) := by decide +kernel
theorem dX8_burn_100 : decode cX8_burn 100 = .ok (.iload 5, 2) := by decide +kernel
theorem dX8_burn_102 : decode cX8_burn 102 = .ok (.aload_n 0, 1) := by decide +kernel
theorem dX8_burn_103 : decode cX8_burn 103 = .ok (.getfield 23, 3) := by decide +kernel
theorem dX8_burn_106 : decode cX8_burn 106 = .ok (.getfield 81, 3) := by decide +kernel
theorem dX8_burn_109 : decode cX8_burn 109 = .ok (.iload 4, 2) := by decide +kernel
theorem dX8_burn_111 : decode cX8_burn 111 = .ok (.iaload, 1) := by decide +kernel
theorem dX8_burn_112 : decode cX8_burn 112 = .ok (.iadd, 1) := by decide +kernel
theorem dX8_burn_113 : decode cX8_burn 113 = .ok (.invokestatic 75, 3) := by decide +kernel
theorem dX8_burn_116 : decode cX8_burn 116 = .ok (.istore 5, 2) := by decide +kernel
theorem dX8_burn_118 : decode cX8_burn 118 = .ok (.aload_n 1, 1) := by decide +kernel
theorem dX8_burn_119 : decode cX8_burn 119 = .ok (.iconst 0, 1) := by decide +kernel
theorem dX8_burn_120 : decode cX8_burn 120 = .ok (.iload 4, 2) := by decide +kernel
theorem dX8_burn_122 : decode cX8_burn 122 = .ok (.iadd, 1) := by decide +kernel
theorem dX8_burn_123 : decode cX8_burn 123 = .ok (.iconst 0, 1) := by decide +kernel
theorem dX8_burn_124 : decode cX8_burn 124 = .ok (.iload 5, 2) := by decide +kernel
theorem dX8_burn_126 : decode cX8_burn 126 = .ok (.iload_n 3, 1) := by decide +kernel
theorem dX8_burn_127 : decode cX8_burn 127 = .ok (.isub, 1) := by decide +kernel
theorem dX8_burn_128 : decode cX8_burn 128 = .ok (.invokestatic 99, 3) := by decide +kernel
theorem dX8_burn_131 : decode cX8_burn 131 = .ok (.iastore, 1) := by decide +kernel
theorem dX8_burn_132 : decode cX8_burn 132 = .ok (.aload_n 1, 1) := by decide +kernel
theorem dX8_burn_133 : decode cX8_burn 133 = .ok (.iconst 0, 1) := by decide +kernel
theorem dX8_burn_134 : decode cX8_burn 134 = .ok (.iload 4, 2) := by decide +kernel
theorem dX8_burn_136 : decode cX8_burn 136 = .ok (.iadd, 1) := by decide +kernel
theorem dX8_burn_137 : decode cX8_burn 137 = .ok (.iaload, 1) := by decide +kernel
theorem dX8_burn_138 : decode cX8_burn 138 = .ok (.aload_n 0, 1) := by decide +kernel
theorem dX8_burn_139 : decode cX8_burn 139 = .ok (.getfield 23, 3) := by decide +kernel
theorem dX8_burn_142 : decode cX8_burn 142 = .ok (.getfield 102, 3) := by decide +kernel
theorem dX8_burn_145 : decode cX8_burn 145 = .ok (.if_icmp .ge 14, 3) := by decide +kernel
theorem dX8_burn_148 : decode cX8_burn 148 = .ok (.aload_n 1, 1) := by decide +kernel
theorem dX8_burn_149 : decode cX8_burn 149 = .ok (.bipush 38, 2) := by decide +kernel
theorem dX8_burn_151 : decode cX8_burn 151 = .ok (.dup2, 1) := by decide +kernel
theorem dX8_burn_152 : decode cX8_burn 152 = .ok (.iaload, 1) := by decide +kernel
theorem dX8_burn_153 : decode cX8_burn 153 = .ok (.iconst 1, 1) := by decide +kernel
theorem dX8_burn_154 : decode cX8_burn 154 = .ok (.iload 4, 2) := by decide +kernel
theorem dX8_burn_156 : decode cX8_burn 156 = .ok (.ishl, 1) := by decide +kernel
theorem dX8_burn_157 : decode cX8_burn 157 = .ok (.ior, 1) := by decide +kernel
theorem dX8_burn_158 : decode cX8_burn 158 = .ok (.iastore, 1) := by decide +kernel
theorem dX8_burn_159 : decode cX8_burn 159 = .ok (.iinc 4 1, 3) := by decide +kernel
theorem dX8_burn_162 : decode cX8_burn 162 = .ok (.goto (-121), 3) := by decide +kernel
theorem dX8_burn_165 : decode cX8_burn 165 = .ok (.aload_n 1, 1) := by decide +kernel
theorem dX8_burn_166 : decode cX8_burn 166 = .ok (.bipush 39, 2) := by decide +kernel
theorem dX8_burn_168 : decode cX8_burn 168 = .ok (.dup2, 1) := by decide +kernel
theorem dX8_burn_169 : decode cX8_burn 169 = .ok (.iaload, 1) := by decide +kernel
theorem dX8_burn_170 : decode cX8_burn 170 = .ok (.iconst 1, 1) := by decide +kernel
theorem dX8_burn_171 : decode cX8_burn 171 = .ok (.iadd, 1) := by decide +kernel
theorem dX8_burn_172 : decode cX8_burn 172 = .ok (.iastore, 1) := by decide +kernel
theorem dX8_burn_173 : decode cX8_burn 173 = .ok (.return_, 1) := by decide +kernel
theorem dX3_goOn_0 : decode cX3_goOn 0 = .ok (.iload_n 1, 1) := by decide +kernel
theorem dX3_goOn_1 : decode cX3_goOn 1 = .ok (.aload_n 0, 1) := by decide +kernel
theorem dX3_goOn_2 : decode cX3_goOn 2 = .ok (.getfield 23, 3) := by decide +kernel
theorem dX3_goOn_5 : decode cX3_goOn 5 = .ok (.if_icmp .ge 8, 3) := by decide +kernel
theorem dX3_goOn_8 : decode cX3_goOn 8 = .ok (.iload_n 1, 1) := by decide +kernel
theorem dX3_goOn_9 : decode cX3_goOn 9 = .ok (.iconst 4, 1) := by decide +kernel
theorem dX3_goOn_10 : decode cX3_goOn 10 = .ok (.if_icmp .lt 9, 3) := by decide +kernel
theorem dX3_goOn_13 : decode cX3_goOn 13 = .ok (.aload_n 0, 1) := by decide +kernel
theorem dX3_goOn_14 : decode cX3_goOn 14 = .ok (.iload_n 1, 1) := by decide +kernel
theorem dX3_goOn_15 : decode cX3_goOn 15 = .ok (.invokevirtual 66, 3) := by decide +kernel
theorem dX3_goOn_18 : decode cX3_goOn 18 = .ok (.return_, 1) := by decide +kernel
theorem dX3_goOn_19 : decode cX3_goOn 19 = .ok (.aload_n 0, 1) := by decide +kernel
theorem dX3_goOn_20 : decode cX3_goOn 20 = .ok (.getfield 11, 3) := by decide +kernel
theorem dX3_goOn_23 : decode cX3_goOn 23 = .ok (.iload_n 1, 1) := by decide +kernel
theorem dX3_goOn_24 : decode cX3_goOn 24 = .ok (.aaload, 1) := by decide +kernel
theorem dX3_goOn_25 : decode cX3_goOn 25 = .ok (.astore_n 2, 1) := by decide +kernel
theorem dX3_goOn_26 : decode cX3_goOn 26 = .ok (.aload_n 0, 1) := by decide +kernel
theorem dX3_goOn_27 : decode cX3_goOn 27 = .ok (.getfield 11, 3) := by decide +kernel
theorem dX3_goOn_30 : decode cX3_goOn 30 = .ok (.iload_n 1, 1) := by decide +kernel
theorem dX3_goOn_31 : decode cX3_goOn 31 = .ok (.iconst 1, 1) := by decide +kernel
theorem dX3_goOn_32 : decode cX3_goOn 32 = .ok (.iadd, 1) := by decide +kernel
theorem dX3_goOn_33 : decode cX3_goOn 33 = .ok (.aaload, 1) := by decide +kernel
theorem dX3_goOn_34 : decode cX3_goOn 34 = .ok (.astore_n 3, 1) := by decide +kernel
theorem dX3_goOn_35 : decode cX3_goOn 35 = .ok (.iconst 0, 1) := by decide +kernel
theorem dX3_goOn_36 : decode cX3_goOn 36 = .ok (.istore 4, 2) := by decide +kernel
theorem dX3_goOn_38 : decode cX3_goOn 38 = .ok (.iload 4, 2) := by decide +kernel
theorem dX3_goOn_40 : decode cX3_goOn 40 = .ok (.aload_n 0, 1) := by decide +kernel
theorem dX3_goOn_41 : decode cX3_goOn 41 = .ok (.getfield 42, 3) := by decide +kernel
theorem dX3_goOn_44 : decode cX3_goOn 44 = .ok (.getfield 69, 3) := by decide +kernel
theorem dX3_goOn_47 : decode cX3_goOn 47 = .ok (.if_icmp .ge 91, 3) := by decide +kernel
theorem dX3_goOn_50 : decode cX3_goOn 50 = .ok (.aload_n 0, 1) := by decide +kernel
theorem dX3_goOn_51 : decode cX3_goOn 51 = .ok (.getfield 46, 3) := by decide +kernel
theorem dX3_goOn_54 : decode cX3_goOn 54 = .ok (.aload_n 2, 1) := by decide +kernel
theorem dX3_goOn_55 : decode cX3_goOn 55 = .ok (.aload_n 0, 1) := by decide +kernel
theorem dX3_goOn_56 : decode cX3_goOn 56 = .ok (.getfield 27, 3) := by decide +kernel
theorem dX3_goOn_59 : decode cX3_goOn 59 = .ok (.iload 4, 2) := by decide +kernel
theorem dX3_goOn_61 : decode cX3_goOn 61 = .ok (.invokevirtual 74, 3) := by decide +kernel
theorem dX3_goOn_64 : decode cX3_goOn 64 = .ok (.ifCond .ne 6, 3) := by decide +kernel
theorem dX3_goOn_67 : decode cX3_goOn 67 = .ok (.goto 65, 3) := by decide +kernel
theorem dX3_goOn_70 : decode cX3_goOn 70 = .ok (.aload_n 2, 1) := by decide +kernel
theorem dX3_goOn_71 : decode cX3_goOn 71 = .ok (.iconst 0, 1) := by decide +kernel
theorem dX3_goOn_72 : decode cX3_goOn 72 = .ok (.aload_n 3, 1) := by decide +kernel
theorem dX3_goOn_73 : decode cX3_goOn 73 = .ok (.iconst 0, 1) := by decide +kernel
theorem dX3_goOn_74 : decode cX3_goOn 74 = .ok (.bipush 41, 2) := by decide +kernel
theorem dX3_goOn_76 : decode cX3_goOn 76 = .ok (.invokestatic 50, 3) := by decide +kernel
theorem dX3_goOn_79 : decode cX3_goOn 79 = .ok (.aload_n 0, 1) := by decide +kernel
theorem dX3_goOn_80 : decode cX3_goOn 80 = .ok (.getfield 16, 3) := by decide +kernel
theorem dX3_goOn_83 : decode cX3_goOn 83 = .ok (.iload_n 1, 1) := by decide +kernel
theorem dX3_goOn_84 : decode cX3_goOn 84 = .ok (.iconst 1, 1) := by decide +kernel
theorem dX3_goOn_85 : decode cX3_goOn 85 = .ok (.iadd, 1) := by decide +kernel
theorem dX3_goOn_86 : decode cX3_goOn 86 = .ok (.aload_n 0, 1) := by decide +kernel
theorem dX3_goOn_87 : decode cX3_goOn 87 = .ok (.getfield 16, 3) := by decide +kernel
theorem dX3_goOn_90 : decode cX3_goOn 90 = .ok (.iload_n 1, 1) := by decide +kernel
theorem dX3_goOn_91 : decode cX3_goOn 91 = .ok (.iaload, 1) := by decide +kernel
theorem dX3_goOn_92 : decode cX3_goOn 92 = .ok (.aload_n 0, 1) := by decide +kernel
theorem dX3_goOn_93 : decode cX3_goOn 93 = .ok (.getfield 46, 3) := by decide +kernel
theorem dX3_goOn_96 : decode cX3_goOn 96 = .ok (.aload_n 3, 1) := by decide +kernel
theorem dX3_goOn_97 : decode cX3_goOn 97 = .ok (.aload_n 0, 1) := by decide +kernel
theorem dX3_goOn_98 : decode cX3_goOn 98 = .ok (.getfield 27, 3) := by decide +kernel
theorem dX3_goOn_101 : decode cX3_goOn 101 = .ok (.iload 4, 2) := by decide +kernel
theorem dX3_goOn_103 : decode cX3_goOn 103 = .ok (.invokevirtual 78, 3) := by decide +kernel
theorem dX3_goOn_106 : decode cX3_goOn 106 = .ok (.iadd, 1) := by decide +kernel
theorem dX3_goOn_107 : decode cX3_goOn 107 = .ok (.iastore, 1) := by decide +kernel
theorem dX3_goOn_108 : decode cX3_goOn 108 = .ok (.aload_n 0, 1) := by decide +kernel
theorem dX3_goOn_109 : decode cX3_goOn 109 = .ok (.getfield 46, 3) := by decide +kernel
theorem dX3_goOn_112 : decode cX3_goOn 112 = .ok (.aload_n 3, 1) := by decide +kernel
theorem dX3_goOn_113 : decode cX3_goOn 113 = .ok (.iconst 0, 1) := by decide +kernel
theorem dX3_goOn_114 : decode cX3_goOn 114 = .ok (.invokevirtual 82, 3) := by decide +kernel
theorem dX3_goOn_117 : decode cX3_goOn 117 = .ok (.aload_n 0, 1) := by decide +kernel
theorem dX3_goOn_118 : decode cX3_goOn 118 = .ok (.getfield 20, 3) := by decide +kernel
theorem dX3_goOn_121 : decode cX3_goOn 121 = .ok (.iload_n 1, 1) := by decide +kernel
theorem dX3_goOn_122 : decode cX3_goOn 122 = .ok (.iload 4, 2) := by decide +kernel
theorem dX3_goOn_124 : decode cX3_goOn 124 = .ok (.iastore, 1) := by decide +kernel
theorem dX3_goOn_125 : decode cX3_goOn 125 = .ok (.aload_n 0, 1) := by decide +kernel
theorem dX3_goOn_126 : decode cX3_goOn 126 = .ok (.iload_n 1, 1) := by decide +kernel
theorem dX3_goOn_127 : decode cX3_goOn 127 = .ok (.iconst 1, 1) := by decide +kernel
theorem dX3_goOn_128 : decode cX3_goOn 128 = .ok (.iadd, 1) := by decide +kernel
theorem dX3_goOn_129 : decode cX3_goOn 129 = .ok (.invokevirtual 62, 3) := by decide +kernel
theorem dX3_goOn_132 : decode cX3_goOn 132 = .ok (.iinc 4 1, 3) := by decide +kernel
theorem dX3_goOn_135 : decode cX3_goOn 135 = .ok (.goto (-97), 3) := by decide +kernel
theorem dX3_goOn_138 : decode cX3_goOn 138 = .ok (.return_, 1) := by decide +kernel
theorem dX3_explore_0 : decode cX3_explore 0 = .ok (.aload_n 1, 1) := by decide +kernel
theorem dX3_explore_1 : decode cX3_explore 1 = .ok (.iconst 0, 1) := by decide +kernel
theorem dX3_explore_2 : decode cX3_explore 2 = .ok (.aload_n 0, 1) := by decide +kernel
theorem dX3_explore_3 : decode cX3_explore 3 = .ok (.getfield 11, 3) := by decide +kernel
theorem dX3_explore_6 : decode cX3_explore 6 = .ok (.iconst 0, 1) := by decide +kernel
theorem dX3_explore_7 : decode cX3_explore 7 = .ok (.aaload, 1) := by decide +kernel
theorem dX3_explore_8 : decode cX3_explore 8 = .ok (.iconst 0, 1) := by decide +kernel
theorem dX3_explore_9 : decode cX3_explore 9 = .ok (.bipush 41, 2) := by decide +kernel
theorem dX3_explore_11 : decode cX3_explore 11 = .ok (.invokestatic 50, 3) := by decide +kernel
theorem dX3_explore_14 : decode cX3_explore 14 = .ok (.aload_n 0, 1) := by decide +kernel
theorem dX3_explore_15 : decode cX3_explore 15 = .ok (.getfield 16, 3) := by decide +kernel
theorem dX3_explore_18 : decode cX3_explore 18 = .ok (.iconst 0, 1) := by decide +kernel
theorem dX3_explore_19 : decode cX3_explore 19 = .ok (.iconst 0, 1) := by decide +kernel
theorem dX3_explore_20 : decode cX3_explore 20 = .ok (.iastore, 1) := by decide +kernel
theorem dX3_explore_21 : decode cX3_explore 21 = .ok (.aload_n 0, 1) := by decide +kernel
theorem dX3_explore_22 : decode cX3_explore 22 = .ok (.iload_n 3, 1) := by decide +kernel
theorem dX3_explore_23 : decode cX3_explore 23 = .ok (.putfield 23, 3) := by decide +kernel
theorem dX3_explore_26 : decode cX3_explore 26 = .ok (.aload_n 0, 1) := by decide +kernel
theorem dX3_explore_27 : decode cX3_explore 27 = .ok (.iload_n 2, 1) := by decide +kernel
theorem dX3_explore_28 : decode cX3_explore 28 = .ok (.putfield 27, 3) := by decide +kernel
theorem dX3_explore_31 : decode cX3_explore 31 = .ok (.aload_n 0, 1) := by decide +kernel
theorem dX3_explore_32 : decode cX3_explore 32 = .ok (.iconst (-1), 1) := by decide +kernel
theorem dX3_explore_33 : decode cX3_explore 33 = .ok (.putfield 33, 3) := by decide +kernel
theorem dX3_explore_36 : decode cX3_explore 36 = .ok (.aload_n 0, 1) := by decide +kernel
theorem dX3_explore_37 : decode cX3_explore 37 = .ok (.iconst (-1), 1) := by decide +kernel
theorem dX3_explore_38 : decode cX3_explore 38 = .ok (.putfield 36, 3) := by decide +kernel
theorem dX3_explore_41 : decode cX3_explore 41 = .ok (.aload_n 0, 1) := by decide +kernel
theorem dX3_explore_42 : decode cX3_explore 42 = .ok (.iconst (-1), 1) := by decide +kernel
theorem dX3_explore_43 : decode cX3_explore 43 = .ok (.putfield 39, 3) := by decide +kernel
theorem dX3_explore_46 : decode cX3_explore 46 = .ok (.aload_n 0, 1) := by decide +kernel
theorem dX3_explore_47 : decode cX3_explore 47 = .ok (.getfield 46, 3) := by decide +kernel
theorem dX3_explore_50 : decode cX3_explore 50 = .ok (.aconst_null, 1) := by decide +kernel
theorem dX3_explore_51 : decode cX3_explore 51 = .ok (.invokevirtual 56, 3) := by decide +kernel
theorem dX3_explore_54 : decode cX3_explore 54 = .ok (.aload_n 0, 1) := by decide +kernel
theorem dX3_explore_55 : decode cX3_explore 55 = .ok (.iconst 0, 1) := by decide +kernel
theorem dX3_explore_56 : decode cX3_explore 56 = .ok (.invokevirtual 62, 3) := by decide +kernel
theorem dX3_explore_59 : decode cX3_explore 59 = .ok (.return_, 1) := by decide +kernel
theorem dX4_clear_0 : decode cX4_clear 0 = .ok (.aload_n 0, 1) := by decide +kernel
theorem dX4_clear_1 : decode cX4_clear 1 = .ok (.iconst 0, 1) := by decide +kernel
theorem dX4_clear_2 : decode cX4_clear 2 = .ok (.putfield 15, 3) := by decide +kernel
theorem dX4_clear_5 : decode cX4_clear 5 = .ok (.aload_n 0, 1) := by decide +kernel
theorem dX4_clear_6 : decode cX4_clear 6 = .ok (.iconst 0, 1) := by decide +kernel
theorem dX4_clear_7 : decode cX4_clear 7 = .ok (.putfield 28, 3) := by decide +kernel
theorem dX4_clear_10 : decode cX4_clear 10 = .ok (.return_, 1) := by decide +kernel
theorem dX4_put_0 : decode cX4_put 0 = .ok (.aload_n 0, 1) := by decide +kernel
theorem dX4_put_1 : decode cX4_put 1 = .ok (.getfield 15, 3) := by decide +kernel
theorem dX4_put_4 : decode cX4_put 4 = .ok (.sipush 400, 3) := by decide +kernel
theorem dX4_put_7 : decode cX4_put 7 = .ok (.if_icmp .ge 23, 3) := by decide +kernel
theorem dX4_put_10 : decode cX4_put 10 = .ok (.aload_n 0, 1) := by decide +kernel
theorem dX4_put_11 : decode cX4_put 11 = .ok (.getfield 9, 3) := by decide +kernel
theorem dX4_put_14 : decode cX4_put 14 = .ok (.aload_n 0, 1) := by decide +kernel
theorem dX4_put_15 : decode cX4_put 15 = .ok (.getfield 15, 3) := by decide +kernel
theorem dX4_put_18 : decode cX4_put 18 = .ok (.iload_n 1, 1) := by decide +kernel
theorem dX4_put_19 : decode cX4_put 19 = .ok (.iastore, 1) := by decide +kernel
theorem dX4_put_20 : decode cX4_put 20 = .ok (.aload_n 0, 1) := by decide +kernel
theorem dX4_put_21 : decode cX4_put 21 = .ok (.dup, 1) := by decide +kernel
theorem dX4_put_22 : decode cX4_put 22 = .ok (.getfield 15, 3) := by decide +kernel
theorem dX4_put_25 : decode cX4_put 25 = .ok (.iconst 1, 1) := by decide +kernel
theorem dX4_put_26 : decode cX4_put 26 = .ok (.iadd, 1) := by decide +kernel
theorem dX4_put_27 : decode cX4_put 27 = .ok (.putfield 15, 3) := by decide +kernel
theorem dX4_put_30 : decode cX4_put 30 = .ok (.return_, 1) := by decide +kernel
theorem dX4_endSum_0 : decode cX4_endSum 0 = .ok (.aload_n 0, 1) := by decide +kernel
theorem dX4_endSum_1 : decode cX4_endSum 1 = .ok (.getfield 28, 3) := by decide +kernel
theorem dX4_endSum_4 : decode cX4_endSum 4 = .ok (.bipush 12, 2) := by decide +kernel
theorem dX4_endSum_6 : decode cX4_endSum 6 = .ok (.if_icmp .ge 47, 3) := by decide +kernel
theorem dX4_endSum_9 : decode cX4_endSum 9 = .ok (.aload_n 0, 1) := by decide +kernel
theorem dX4_endSum_10 : decode cX4_endSum 10 = .ok (.getfield 19, 3) := by decide +kernel
theorem dX4_endSum_13 : decode cX4_endSum 13 = .ok (.aload_n 0, 1) := by decide +kernel
theorem dX4_endSum_14 : decode cX4_endSum 14 = .ok (.getfield 28, 3) := by decide +kernel
theorem dX4_endSum_17 : decode cX4_endSum 17 = .ok (.aload_n 0, 1) := by decide +kernel
theorem dX4_endSum_18 : decode cX4_endSum 18 = .ok (.getfield 28, 3) := by decide +kernel
theorem dX4_endSum_21 : decode cX4_endSum 21 = .ok (.ifCond .ne 7, 3) := by decide +kernel
theorem dX4_endSum_24 : decode cX4_endSum 24 = .ok (.iconst 0, 1) := by decide +kernel
theorem dX4_endSum_25 : decode cX4_endSum 25 = .ok (.goto 14, 3) := by decide +kernel
theorem dX4_endSum_28 : decode cX4_endSum 28 = .ok (.aload_n 0, 1) := by decide +kernel
theorem dX4_endSum_29 : decode cX4_endSum 29 = .ok (.getfield 25, 3) := by decide +kernel
theorem dX4_endSum_32 : decode cX4_endSum 32 = .ok (.aload_n 0, 1) := by decide +kernel
theorem dX4_endSum_33 : decode cX4_endSum 33 = .ok (.getfield 28, 3) := by decide +kernel
theorem dX4_endSum_36 : decode cX4_endSum 36 = .ok (.iconst 1, 1) := by decide +kernel
theorem dX4_endSum_37 : decode cX4_endSum 37 = .ok (.isub, 1) := by decide +kernel
theorem dX4_endSum_38 : decode cX4_endSum 38 = .ok (.iaload, 1) := by decide +kernel
theorem dX4_endSum_39 : decode cX4_endSum 39 = .ok (.iastore, 1) := by decide +kernel
theorem dX4_endSum_40 : decode cX4_endSum 40 = .ok (.aload_n 0, 1) := by decide +kernel
theorem dX4_endSum_41 : decode cX4_endSum 41 = .ok (.getfield 22, 3) := by decide +kernel
theorem dX4_endSum_44 : decode cX4_endSum 44 = .ok (.aload_n 0, 1) := by decide +kernel
theorem dX4_endSum_45 : decode cX4_endSum 45 = .ok (.getfield 28, 3) := by decide +kernel
theorem dX4_endSum_48 : decode cX4_endSum 48 = .ok (.aload_n 0, 1) := by decide +kernel
theorem dX4_endSum_49 : decode cX4_endSum 49 = .ok (.getfield 15, 3) := by decide +kernel
theorem dX4_endSum_52 : decode cX4_endSum 52 = .ok (.iastore, 1) := by decide +kernel
theorem dX4_endSum_53 : decode cX4_endSum 53 = .ok (.return_, 1) := by decide +kernel
theorem dX4_endClause_0 : decode cX4_endClause 0 = .ok (.aload_n 0, 1) := by decide +kernel
theorem dX4_endClause_1 : decode cX4_endClause 1 = .ok (.getfield 28, 3) := by decide +kernel
theorem dX4_endClause_4 : decode cX4_endClause 4 = .ok (.bipush 12, 2) := by decide +kernel
theorem dX4_endClause_6 : decode cX4_endClause 6 = .ok (.if_icmp .ge 26, 3) := by decide +kernel
theorem dX4_endClause_9 : decode cX4_endClause 9 = .ok (.aload_n 0, 1) := by decide +kernel
theorem dX4_endClause_10 : decode cX4_endClause 10 = .ok (.getfield 25, 3) := by decide +kernel
theorem dX4_endClause_13 : decode cX4_endClause 13 = .ok (.aload_n 0, 1) := by decide +kernel
theorem dX4_endClause_14 : decode cX4_endClause 14 = .ok (.getfield 28, 3) := by decide +kernel
theorem dX4_endClause_17 : decode cX4_endClause 17 = .ok (.aload_n 0, 1) := by decide +kernel
theorem dX4_endClause_18 : decode cX4_endClause 18 = .ok (.getfield 15, 3) := by decide +kernel
theorem dX4_endClause_21 : decode cX4_endClause 21 = .ok (.iastore, 1) := by decide +kernel
theorem dX4_endClause_22 : decode cX4_endClause 22 = .ok (.aload_n 0, 1) := by decide +kernel
theorem dX4_endClause_23 : decode cX4_endClause 23 = .ok (.dup, 1) := by decide +kernel
theorem dX4_endClause_24 : decode cX4_endClause 24 = .ok (.getfield 28, 3) := by decide +kernel
theorem dX4_endClause_27 : decode cX4_endClause 27 = .ok (.iconst 1, 1) := by decide +kernel
theorem dX4_endClause_28 : decode cX4_endClause 28 = .ok (.iadd, 1) := by decide +kernel
theorem dX4_endClause_29 : decode cX4_endClause 29 = .ok (.putfield 28, 3) := by decide +kernel
theorem dX4_endClause_32 : decode cX4_endClause 32 = .ok (.return_, 1) := by decide +kernel
def fX2_remember_B32 (b : Nat) (st : St) : Option St := gd (cpk (0 : Int32) ((st.1 b 3) * (41 : Int32)) (41 : Int32) 41 820) (nm (ur st (b + 3) (va_cpy (st.1 (b + 2)) (st.1 (b + 3)) (0 : Int32).toNatClampNeg ((st.1 b 3) * (41 : Int32)).toNatClampNeg (41 : Int32).toNatClampNeg)) (fun s2 => nm (ui s2 b 3 ((s2.1 b 3) + (1 : Int32))) (fun s3 => some s3)))
set_option maxRecDepth 100000 in
theorem wX2_remember_B32 {p : Program} {l : Launch} {e : Env} {s : State} {m : MethodId} {args : Array Value} {below : List Frame} {meth : Method} {c : Code} {E : Ev} (hL : ∀ k, fxC k = true → k ∈ eL E) {b : Nat} (hbs : okP E b) {sz : Nat} {res : St} (X : CX p s m args c E RX2 cX2_remember 1 (Af E sz)) (hr : meth.sig.returnType = none) (hlk : meth.locks = false) : ∀  (st : St) (H : Heap) (locs : List Loc), fX2_remember_B32 b   st = some res → Gd E st (Af E sz) s H locs → ∀ ls : Array Slot, lv_has ls 1 [(0, .ref (eq E b))] → W p l e (rmk 1) s m args below meth c H locs 0 0 (MQ below (QWv E res sz) args s 0 0 (Af E sz)) (F0 m 32 ls []) := by
  have hx := X.1.1
  have hb := X.1.2.1
  intro  st H locs hf G ls hl
  unfold fX2_remember_B32 at hf
  refine lv_aload_n hx hb dX2_remember_32 rfl (lv_at hl 0 rfl) ?_
  refine gf2 X G ((hbs 0 (by decide)).2 (by decide)) (hbs 0 (by decide)).1 1 (by decide) rfl kf_X2_18 iwX2 dX2_remember_33 ?_
  refine lv_iconst (v := (0 : Int32)) hx hb dX2_remember_36 (by decide) ?_
  refine lv_aload_n hx hb dX2_remember_37 rfl (lv_at hl 0 rfl) ?_
  refine gf2 X G ((hbs 0 (by decide)).2 (by decide)) (hbs 0 (by decide)).1 2 (by decide) rfl kf_X2_22 iwX2 dX2_remember_38 ?_
  refine lv_aload_n hx hb dX2_remember_41 rfl (lv_at hl 0 rfl) ?_
  refine gf2 X G ((hbs 0 (by decide)).2 (by decide)) (hbs 0 (by decide)).1 3 (by decide) rfl kf_X2_25 iwX2 dX2_remember_42 ?_
  refine lv_bipush (v := (41 : Int32)) hx hb dX2_remember_45 (by decide) ?_
  refine lv_imul hx hb dX2_remember_47 ?_
  refine lv_bipush (v := (41 : Int32)) hx hb dX2_remember_48 (by decide) ?_
  obtain ⟨h1, hf⟩ := gd_s hf
  refine a_copy (k0 := (b + 2)) (n0 := 41) (k1 := (b + 3)) (n1 := 820) X G hl.1 ((hbs 2 (by decide)).2 (by decide)) ((hbs 3 (by decide)).2 (by decide)) (hbs 2 (by decide)).1 (by decide) (hbs 3 (by decide)).1 (by decide) km_X2_54 kn_acopy ks_acopy ki_System (cpk_s h1).1 (cpk_s h1).2.1 (cpk_s h1).2.2.1 (cpk_s h1).2.2.2.1 (cpk_s h1).2.2.2.2 (rmk_1 (by omega)) (rmk_l (by omega) (Nat.le_of_ble_eq_true rfl)) dX2_remember_50 (fun s2 es2 H locs G => ?_)
  have hf := nm_s hf s2 es2
  refine lv_aload_n hx hb dX2_remember_53 rfl (lv_at hl 0 rfl) ?_
  refine lv_dup hx hb dX2_remember_54 rfl ?_
  refine gf2 X G ((hbs 0 (by decide)).2 (by decide)) (hbs 0 (by decide)).1 3 (by decide) rfl kf_X2_25 iwX2 dX2_remember_55 ?_
  refine lv_iconst (v := (1 : Int32)) hx hb dX2_remember_58 (by decide) ?_
  refine lv_iadd hx hb dX2_remember_59 ?_
  refine pf2 X G ((hbs 0 (by decide)).2 (by decide)) (hbs 0 (by decide)).1 3 (by decide) ps2_3 uio kf_X2_25 iwX2 rfl (ty := .int) (by decide +kernel) rfl rfl dX2_remember_60 (fun s3 es3 H locs G => ?_)
  have hf := nm_s hf s3 es3
  exact rtWv X hlk G hr (so_i hf) dX2_remember_63
def fX2_remember (b : Nat) (st : St) : Option St := if (st.1 b 3) < (20 : Int32) then (fX2_remember_B32 b st) else (nm (ur st (b + 3) (va_cpy (st.1 (b + 3)) (st.1 (b + 3)) 41 0 779)) (fun s2 => nm (ui s2 b 3 (19 : Int32)) (fun s3 => fX2_remember_B32 b s3)))
set_option maxRecDepth 100000 in
theorem tX2_remember (l : Launch) (E : Ev) (st : St) (sz : Nat) (hL : ∀ k, fxC k = true → k ∈ eL E) {b : Nat} (hbs : okP E b)  {res : St} (hf : fX2_remember b  st = some res) : Met l yX2_remember (.code yX2_remember cX2_remember 1 none :: uW) (rmk 1) (va_Pc [.ref (eq E b)] (Pre E st sz)) (QWv E res sz) 0 0 (Af E sz) := by
  refine Met_in (by decide) (Nat.le_of_ble_eq_true rfl) ?_
  intro p e s m below meth c X hr hlk hz G ls hl
  have hx := X.1.1
  have hb := X.1.2.1
  have hl : lv_has ls 1 [(0, .ref (eq E b))] := hl
  unfold fX2_remember at hf
  refine lv_aload_n hx hb dX2_remember_0 rfl (lv_at hl 0 rfl) ?_
  refine gf2 X G ((hbs 0 (by decide)).2 (by decide)) (hbs 0 (by decide)).1 3 (by decide) rfl kf_X2_25 iwX2 dX2_remember_1 ?_
  refine lv_bipush (v := (20 : Int32)) hx hb dX2_remember_4 (by decide) ?_
  refine lv_icmp_lt (tgt := 32) hx hb dX2_remember_6 (by decide) (fun c1 => ?_) (fun c1 => ?_)
  · have hf := it_t hf c1
    exact wX2_remember_B32 hL hbs X hr hlk st _ _ hf G _ (lv_sub hl [0] rfl)
  · have hf := it_f hf c1
    refine lv_aload_n hx hb dX2_remember_9 rfl (lv_at hl 0 rfl) ?_
    refine gf2 X G ((hbs 0 (by decide)).2 (by decide)) (hbs 0 (by decide)).1 2 (by decide) rfl kf_X2_22 iwX2 dX2_remember_10 ?_
    refine lv_bipush (v := (41 : Int32)) hx hb dX2_remember_13 (by decide) ?_
    refine lv_aload_n hx hb dX2_remember_15 rfl (lv_at hl 0 rfl) ?_
    refine gf2 X G ((hbs 0 (by decide)).2 (by decide)) (hbs 0 (by decide)).1 2 (by decide) rfl kf_X2_22 iwX2 dX2_remember_16 ?_
    refine lv_iconst (v := (0 : Int32)) hx hb dX2_remember_19 (by decide) ?_
    refine lv_sipush (v := (779 : Int32)) hx hb dX2_remember_20 (by decide) ?_
    refine a_copyc (k0 := (b + 3)) (n0 := 820) (k1 := (b + 3)) (n1 := 820) X G hl.1 ((hbs 3 (by decide)).2 (by decide)) ((hbs 3 (by decide)).2 (by decide)) (hbs 3 (by decide)).1 (by decide) (hbs 3 (by decide)).1 (by decide) km_X2_54 kn_acopy ks_acopy ki_System 41 0 779 (by decide) (rmk_1 (by omega)) (rmk_l (by omega) (Nat.le_of_ble_eq_true rfl)) dX2_remember_23 (fun s2 es2 H locs G => ?_)
    have hf := nm_s hf s2 es2
    refine lv_aload_n hx hb dX2_remember_26 rfl (lv_at hl 0 rfl) ?_
    refine lv_bipush (v := (19 : Int32)) hx hb dX2_remember_27 (by decide) ?_
    refine pf2 X G ((hbs 0 (by decide)).2 (by decide)) (hbs 0 (by decide)).1 3 (by decide) ps2_3 uio kf_X2_25 iwX2 rfl (ty := .int) (by decide +kernel) rfl rfl dX2_remember_29 (fun s3 es3 H locs G => ?_)
    have hf := nm_s hf s3 es3
    exact wX2_remember_B32 hL hbs X hr hlk s3 _ _ hf G _ (lv_sub hl [0] rfl)
def fX2_takeBack (b : Nat) (st : St) : Option (Int32 × St) := if (1 : Int32) ≤ (st.1 b 3) then (nm (ui st b 3 ((st.1 b 3) - (1 : Int32))) (fun s2 => gd (cpk ((s2.1 b 3) * (41 : Int32)) (0 : Int32) (41 : Int32) 820 41) (nm (ur s2 (b + 2) (va_cpy (s2.1 (b + 3)) (s2.1 (b + 2)) ((s2.1 b 3) * (41 : Int32)).toNatClampNeg (0 : Int32).toNatClampNeg (41 : Int32).toNatClampNeg)) (fun s4 => some ((1 : Int32), s4))))) else (some ((0 : Int32), st))
set_option maxRecDepth 100000 in
theorem tX2_takeBack (l : Launch) (E : Ev) (st : St) (sz : Nat) (hL : ∀ k, fxC k = true → k ∈ eL E) {b : Nat} (hbs : okP E b)  {res : (Int32 × St)} (hf : fX2_takeBack b  st = some res) : Met l yX2_takeBack (.code yX2_takeBack cX2_takeBack 1 (some .boolean) :: uW) (rmk 1) (va_Pc [.ref (eq E b)] (Pre E st sz)) (QWi E res.2 sz res.1) 0 0 (Af E sz) := by
  refine Met_in (by decide) (Nat.le_of_ble_eq_true rfl) ?_
  intro p e s m below meth c X hr hlk hz G ls hl
  have hx := X.1.1
  have hb := X.1.2.1
  have hl : lv_has ls 1 [(0, .ref (eq E b))] := hl
  unfold fX2_takeBack at hf
  refine lv_aload_n hx hb dX2_takeBack_0 rfl (lv_at hl 0 rfl) ?_
  refine gf2 X G ((hbs 0 (by decide)).2 (by decide)) (hbs 0 (by decide)).1 3 (by decide) rfl kf_X2_25 iwX2 dX2_takeBack_1 ?_
  refine lv_iconst (v := (1 : Int32)) hx hb dX2_takeBack_4 (by decide) ?_
  refine lv_icmp_ge (tgt := 10) hx hb dX2_takeBack_5 (by decide) (fun c1 => ?_) (fun c1 => ?_)
  · have hf := it_t hf c1
    refine lv_aload_n hx hb dX2_takeBack_10 rfl (lv_at hl 0 rfl) ?_
    refine lv_dup hx hb dX2_takeBack_11 rfl ?_
    refine gf2 X G ((hbs 0 (by decide)).2 (by decide)) (hbs 0 (by decide)).1 3 (by decide) rfl kf_X2_25 iwX2 dX2_takeBack_12 ?_
    refine lv_iconst (v := (1 : Int32)) hx hb dX2_takeBack_15 (by decide) ?_
    refine lv_isub hx hb dX2_takeBack_16 ?_
    refine pf2 X G ((hbs 0 (by decide)).2 (by decide)) (hbs 0 (by decide)).1 3 (by decide) ps2_3 uio kf_X2_25 iwX2 rfl (ty := .int) (by decide +kernel) rfl rfl dX2_takeBack_17 (fun s2 es2 H locs G => ?_)
    have hf := nm_s hf s2 es2
    refine lv_aload_n hx hb dX2_takeBack_20 rfl (lv_at hl 0 rfl) ?_
    refine gf2 X G ((hbs 0 (by decide)).2 (by decide)) (hbs 0 (by decide)).1 2 (by decide) rfl kf_X2_22 iwX2 dX2_takeBack_21 ?_
    refine lv_aload_n hx hb dX2_takeBack_24 rfl (lv_at hl 0 rfl) ?_
    refine gf2 X G ((hbs 0 (by decide)).2 (by decide)) (hbs 0 (by decide)).1 3 (by decide) rfl kf_X2_25 iwX2 dX2_takeBack_25 ?_
    refine lv_bipush (v := (41 : Int32)) hx hb dX2_takeBack_28 (by decide) ?_
    refine lv_imul hx hb dX2_takeBack_30 ?_
    refine lv_aload_n hx hb dX2_takeBack_31 rfl (lv_at hl 0 rfl) ?_
    refine gf2 X G ((hbs 0 (by decide)).2 (by decide)) (hbs 0 (by decide)).1 1 (by decide) rfl kf_X2_18 iwX2 dX2_takeBack_32 ?_
    refine lv_iconst (v := (0 : Int32)) hx hb dX2_takeBack_35 (by decide) ?_
    refine lv_bipush (v := (41 : Int32)) hx hb dX2_takeBack_36 (by decide) ?_
    obtain ⟨h3, hf⟩ := gd_s hf
    refine a_copy (k0 := (b + 3)) (n0 := 820) (k1 := (b + 2)) (n1 := 41) X G hl.1 ((hbs 3 (by decide)).2 (by decide)) ((hbs 2 (by decide)).2 (by decide)) (hbs 3 (by decide)).1 (by decide) (hbs 2 (by decide)).1 (by decide) km_X2_54 kn_acopy ks_acopy ki_System (cpk_s h3).1 (cpk_s h3).2.1 (cpk_s h3).2.2.1 (cpk_s h3).2.2.2.1 (cpk_s h3).2.2.2.2 (rmk_1 (by omega)) (rmk_l (by omega) (Nat.le_of_ble_eq_true rfl)) dX2_takeBack_38 (fun s4 es4 H locs G => ?_)
    have hf := nm_s hf s4 es4
    refine lv_iconst (v := (1 : Int32)) hx hb dX2_takeBack_41 (by decide) ?_
    exact rtWz X hlk G hr rfl (so_i hf) dX2_takeBack_42
  · have hf := it_f hf c1
    refine lv_iconst (v := (0 : Int32)) hx hb dX2_takeBack_8 (by decide) ?_
    exact rtWz X hlk G hr rfl (so_i hf) dX2_takeBack_9
def fX2_addBook (b : Nat) (p1 : Int32) (p2 : Int32) (p3 : Int32) (st : St) : Option St := if (10 : Int32) ≤ (st.1 b 7) then (some st) else (gd (ix (st.1 b 7) 10) (nm (ui st (b + 5) (st.1 b 7).toNatClampNeg p1) (fun s3 => gd (ix (s3.1 b 7) 10) (nm (ui s3 (b + 6) (s3.1 b 7).toNatClampNeg p2) (fun s5 => gd (ix (s5.1 b 7) 10) (nm (ui s5 (b + 7) (s5.1 b 7).toNatClampNeg p3) (fun s7 => nm (ui s7 b 7 ((s7.1 b 7) + (1 : Int32))) (fun s8 => some s8))))))))
set_option maxRecDepth 100000 in
theorem tX2_addBook (l : Launch) (E : Ev) (st : St) (sz : Nat) (hL : ∀ k, fxC k = true → k ∈ eL E) {b : Nat} (hbs : okP E b) (p1 : Int32) (p2 : Int32) (p3 : Int32) {res : St} (hf : fX2_addBook b p1 p2 p3 st = some res) : Met l yX2_addBook (.code yX2_addBook cX2_addBook 4 none :: uW) (rmk 0) (va_Pc [.ref (eq E b), .int p1, .int p2, .int p3] (Pre E st sz)) (QWv E res sz) 0 0 (Af E sz) := by
  refine Met_in (by decide) (Nat.le_of_ble_eq_true rfl) ?_
  intro p e s m below meth c X hr hlk hz G ls hl
  have hx := X.1.1
  have hb := X.1.2.1
  have hl : lv_has ls 4 [(0, .ref (eq E b)), (1, .int p1), (2, .int p2), (3, .int p3)] := hl
  unfold fX2_addBook at hf
  refine lv_aload_n hx hb dX2_addBook_0 rfl (lv_at hl 0 rfl) ?_
  refine gf2 X G ((hbs 0 (by decide)).2 (by decide)) (hbs 0 (by decide)).1 7 (by decide) rfl kf_X2_38 iwX2 dX2_addBook_1 ?_
  refine lv_bipush (v := (10 : Int32)) hx hb dX2_addBook_4 (by decide) ?_
  refine lv_icmp_ge (tgt := 49) hx hb dX2_addBook_6 (by decide) (fun c1 => ?_) (fun c1 => ?_)
  · have hf := it_t hf c1
    exact rtWv X hlk G hr (so_i hf) dX2_addBook_49
  · have hf := it_f hf c1
    refine lv_aload_n hx hb dX2_addBook_9 rfl (lv_at hl 0 rfl) ?_
    refine gf2 X G ((hbs 0 (by decide)).2 (by decide)) (hbs 0 (by decide)).1 4 (by decide) rfl kf_X2_29 iwX2 dX2_addBook_10 ?_
    refine lv_aload_n hx hb dX2_addBook_13 rfl (lv_at hl 0 rfl) ?_
    refine gf2 X G ((hbs 0 (by decide)).2 (by decide)) (hbs 0 (by decide)).1 7 (by decide) rfl kf_X2_38 iwX2 dX2_addBook_14 ?_
    refine lv_iload_n hx hb dX2_addBook_17 rfl (lv_at hl 1 rfl) ?_
    obtain ⟨h2, hf⟩ := gd_s hf
    refine ia_st (k := (b + 5)) (n := 10) X G ((hbs 5 (by decide)).2 (by decide)) (hbs 5 (by decide)).1 (by decide) (ix_in h2) dX2_addBook_18 (fun s3 es3 H locs G => ?_)
    have hf := nm_s hf s3 es3
    refine lv_aload_n hx hb dX2_addBook_19 rfl (lv_at hl 0 rfl) ?_
    refine gf2 X G ((hbs 0 (by decide)).2 (by decide)) (hbs 0 (by decide)).1 5 (by decide) rfl kf_X2_32 iwX2 dX2_addBook_20 ?_
    refine lv_aload_n hx hb dX2_addBook_23 rfl (lv_at hl 0 rfl) ?_
    refine gf2 X G ((hbs 0 (by decide)).2 (by decide)) (hbs 0 (by decide)).1 7 (by decide) rfl kf_X2_38 iwX2 dX2_addBook_24 ?_
    refine lv_iload_n hx hb dX2_addBook_27 rfl (lv_at hl 2 rfl) ?_
    obtain ⟨h4, hf⟩ := gd_s hf
    refine ia_st (k := (b + 6)) (n := 10) X G ((hbs 6 (by decide)).2 (by decide)) (hbs 6 (by decide)).1 (by decide) (ix_in h4) dX2_addBook_28 (fun s5 es5 H locs G => ?_)
    have hf := nm_s hf s5 es5
    refine lv_aload_n hx hb dX2_addBook_29 rfl (lv_at hl 0 rfl) ?_
    refine gf2 X G ((hbs 0 (by decide)).2 (by decide)) (hbs 0 (by decide)).1 6 (by decide) rfl kf_X2_35 iwX2 dX2_addBook_30 ?_
    refine lv_aload_n hx hb dX2_addBook_33 rfl (lv_at hl 0 rfl) ?_
    refine gf2 X G ((hbs 0 (by decide)).2 (by decide)) (hbs 0 (by decide)).1 7 (by decide) rfl kf_X2_38 iwX2 dX2_addBook_34 ?_
    refine lv_iload_n hx hb dX2_addBook_37 rfl (lv_at hl 3 rfl) ?_
    obtain ⟨h6, hf⟩ := gd_s hf
    refine ia_st (k := (b + 7)) (n := 10) X G ((hbs 7 (by decide)).2 (by decide)) (hbs 7 (by decide)).1 (by decide) (ix_in h6) dX2_addBook_38 (fun s7 es7 H locs G => ?_)
    have hf := nm_s hf s7 es7
    refine lv_aload_n hx hb dX2_addBook_39 rfl (lv_at hl 0 rfl) ?_
    refine lv_dup hx hb dX2_addBook_40 rfl ?_
    refine gf2 X G ((hbs 0 (by decide)).2 (by decide)) (hbs 0 (by decide)).1 7 (by decide) rfl kf_X2_38 iwX2 dX2_addBook_41 ?_
    refine lv_iconst (v := (1 : Int32)) hx hb dX2_addBook_44 (by decide) ?_
    refine lv_iadd hx hb dX2_addBook_45 ?_
    refine pf2 X G ((hbs 0 (by decide)).2 (by decide)) (hbs 0 (by decide)).1 7 (by decide) ps2_7 uio kf_X2_38 iwX2 rfl (ty := .int) (by decide +kernel) rfl rfl dX2_addBook_46 (fun s8 es8 H locs G => ?_)
    have hf := nm_s hf s8 es8
    exact rtWv X hlk G hr (so_i hf) dX2_addBook_49
def fX2_copyFrom (b : Nat) (o1 : Nat) (st : St) : Option St := br (fX1_copyFrom (b + 14) (o1 + 14) st) (fun s2 => nm (ur s2 (b + 2) (va_cpy (s2.1 (o1 + 2)) (s2.1 (b + 2)) 0 0 41)) (fun s3 => nm (ur s3 (b + 3) (va_cpy (s3.1 (o1 + 3)) (s3.1 (b + 3)) 0 0 820)) (fun s4 => nm (ui s4 b 3 (s4.1 o1 3)) (fun s5 => nm (ur s5 (b + 5) (va_cpy (s5.1 (o1 + 5)) (s5.1 (b + 5)) 0 0 10)) (fun s6 => nm (ur s6 (b + 6) (va_cpy (s6.1 (o1 + 6)) (s6.1 (b + 6)) 0 0 10)) (fun s7 => nm (ur s7 (b + 7) (va_cpy (s7.1 (o1 + 7)) (s7.1 (b + 7)) 0 0 10)) (fun s8 => nm (ui s8 b 7 (s8.1 o1 7)) (fun s9 => nm (ui s9 b 8 (s9.1 o1 8)) (fun s10 => nm (ui s10 b 9 (s10.1 o1 9)) (fun s11 => some s11))))))))))
set_option maxRecDepth 100000 in
theorem tX2_copyFrom (l : Launch) (E : Ev) (st : St) (sz : Nat) (hL : ∀ k, fxC k = true → k ∈ eL E) {b : Nat} {o1 : Nat} (hbs : okP E b) (ho1 : okP E o1)  {res : St} (hf : fX2_copyFrom b o1  st = some res) : Met l yX2_copyFrom (.code yX2_copyFrom cX2_copyFrom 2 none :: uW) (rmk 2) (va_Pc [.ref (eq E b), .ref (eq E o1)] (Pre E st sz)) (QWv E res sz) 0 0 (Af E sz) := by
  refine Met_in (by decide) (Nat.le_of_ble_eq_true rfl) ?_
  intro p e s m below meth c X hr hlk hz G ls hl
  have hx := X.1.1
  have hb := X.1.2.1
  have hl : lv_has ls 2 [(0, .ref (eq E b)), (1, .ref (eq E o1))] := hl
  unfold fX2_copyFrom at hf
  refine lv_aload_n hx hb dX2_copyFrom_0 rfl (lv_at hl 0 rfl) ?_
  refine gf2 X G ((hbs 0 (by decide)).2 (by decide)) (hbs 0 (by decide)).1 0 (by decide) rfl kf_X2_12 iwX2 dX2_copyFrom_1 ?_
  refine lv_aload_n hx hb dX2_copyFrom_4 rfl (lv_at hl 1 rfl) ?_
  refine gf2 X G ((ho1 0 (by decide)).2 (by decide)) (ho1 0 (by decide)).1 0 (by decide) rfl kf_X2_12 iwX2 dX2_copyFrom_5 ?_
  obtain ⟨s2, h1, hf⟩ := br_s hf
  refine cVWv (As := [.ref (eq E (o1 + 14))]) (rest := []) X G kc_X2_47 (tX1_copyFrom l E st _ hL (okP_L hbs) (okP_L ho1)  h1) (rcv X G (((okP_L hbs) 0 (by decide)).2 (by decide)) (cO1 ((okP_L hbs) 0 (by decide)).1) rfl) rfl rfl (rmk_le (by omega) (by decide)) rfl hl.1 rfl (Nat.le_of_ble_eq_true rfl) dX2_copyFrom_8 ⟨Nat.zero_le _, Nat.zero_le _⟩ (fun H locs G => ?_)
  refine lv_aload_n hx hb dX2_copyFrom_11 rfl (lv_at hl 1 rfl) ?_
  refine gf2 X G ((ho1 0 (by decide)).2 (by decide)) (ho1 0 (by decide)).1 1 (by decide) rfl kf_X2_18 iwX2 dX2_copyFrom_12 ?_
  refine lv_iconst (v := (0 : Int32)) hx hb dX2_copyFrom_15 (by decide) ?_
  refine lv_aload_n hx hb dX2_copyFrom_16 rfl (lv_at hl 0 rfl) ?_
  refine gf2 X G ((hbs 0 (by decide)).2 (by decide)) (hbs 0 (by decide)).1 1 (by decide) rfl kf_X2_18 iwX2 dX2_copyFrom_17 ?_
  refine lv_iconst (v := (0 : Int32)) hx hb dX2_copyFrom_20 (by decide) ?_
  refine lv_bipush (v := (41 : Int32)) hx hb dX2_copyFrom_21 (by decide) ?_
  refine a_copyc (k0 := (o1 + 2)) (n0 := 41) (k1 := (b + 2)) (n1 := 41) X G hl.1 ((ho1 2 (by decide)).2 (by decide)) ((hbs 2 (by decide)).2 (by decide)) (ho1 2 (by decide)).1 (by decide) (hbs 2 (by decide)).1 (by decide) km_X2_54 kn_acopy ks_acopy ki_System 0 0 41 (by decide) (rmk_1 (by omega)) (rmk_l (by omega) (Nat.le_of_ble_eq_true rfl)) dX2_copyFrom_23 (fun s3 es3 H locs G => ?_)
  have hf := nm_s hf s3 es3
  refine lv_aload_n hx hb dX2_copyFrom_26 rfl (lv_at hl 1 rfl) ?_
  refine gf2 X G ((ho1 0 (by decide)).2 (by decide)) (ho1 0 (by decide)).1 2 (by decide) rfl kf_X2_22 iwX2 dX2_copyFrom_27 ?_
  refine lv_iconst (v := (0 : Int32)) hx hb dX2_copyFrom_30 (by decide) ?_
  refine lv_aload_n hx hb dX2_copyFrom_31 rfl (lv_at hl 0 rfl) ?_
  refine gf2 X G ((hbs 0 (by decide)).2 (by decide)) (hbs 0 (by decide)).1 2 (by decide) rfl kf_X2_22 iwX2 dX2_copyFrom_32 ?_
  refine lv_iconst (v := (0 : Int32)) hx hb dX2_copyFrom_35 (by decide) ?_
  refine lv_sipush (v := (820 : Int32)) hx hb dX2_copyFrom_36 (by decide) ?_
  refine a_copyc (k0 := (o1 + 3)) (n0 := 820) (k1 := (b + 3)) (n1 := 820) X G hl.1 ((ho1 3 (by decide)).2 (by decide)) ((hbs 3 (by decide)).2 (by decide)) (ho1 3 (by decide)).1 (by decide) (hbs 3 (by decide)).1 (by decide) km_X2_54 kn_acopy ks_acopy ki_System 0 0 820 (by decide) (rmk_1 (by omega)) (rmk_l (by omega) (Nat.le_of_ble_eq_true rfl)) dX2_copyFrom_39 (fun s4 es4 H locs G => ?_)
  have hf := nm_s hf s4 es4
  refine lv_aload_n hx hb dX2_copyFrom_42 rfl (lv_at hl 0 rfl) ?_
  refine lv_aload_n hx hb dX2_copyFrom_43 rfl (lv_at hl 1 rfl) ?_
  refine gf2 X G ((ho1 0 (by decide)).2 (by decide)) (ho1 0 (by decide)).1 3 (by decide) rfl kf_X2_25 iwX2 dX2_copyFrom_44 ?_
  refine pf2 X G ((hbs 0 (by decide)).2 (by decide)) (hbs 0 (by decide)).1 3 (by decide) ps2_3 uio kf_X2_25 iwX2 rfl (ty := .int) (by decide +kernel) rfl rfl dX2_copyFrom_47 (fun s5 es5 H locs G => ?_)
  have hf := nm_s hf s5 es5
  refine lv_aload_n hx hb dX2_copyFrom_50 rfl (lv_at hl 1 rfl) ?_
  refine gf2 X G ((ho1 0 (by decide)).2 (by decide)) (ho1 0 (by decide)).1 4 (by decide) rfl kf_X2_29 iwX2 dX2_copyFrom_51 ?_
  refine lv_iconst (v := (0 : Int32)) hx hb dX2_copyFrom_54 (by decide) ?_
  refine lv_aload_n hx hb dX2_copyFrom_55 rfl (lv_at hl 0 rfl) ?_
  refine gf2 X G ((hbs 0 (by decide)).2 (by decide)) (hbs 0 (by decide)).1 4 (by decide) rfl kf_X2_29 iwX2 dX2_copyFrom_56 ?_
  refine lv_iconst (v := (0 : Int32)) hx hb dX2_copyFrom_59 (by decide) ?_
  refine lv_bipush (v := (10 : Int32)) hx hb dX2_copyFrom_60 (by decide) ?_
  refine a_copyc (k0 := (o1 + 5)) (n0 := 10) (k1 := (b + 5)) (n1 := 10) X G hl.1 ((ho1 5 (by decide)).2 (by decide)) ((hbs 5 (by decide)).2 (by decide)) (ho1 5 (by decide)).1 (by decide) (hbs 5 (by decide)).1 (by decide) km_X2_54 kn_acopy ks_acopy ki_System 0 0 10 (by decide) (rmk_1 (by omega)) (rmk_l (by omega) (Nat.le_of_ble_eq_true rfl)) dX2_copyFrom_62 (fun s6 es6 H locs G => ?_)
  have hf := nm_s hf s6 es6
  refine lv_aload_n hx hb dX2_copyFrom_65 rfl (lv_at hl 1 rfl) ?_
  refine gf2 X G ((ho1 0 (by decide)).2 (by decide)) (ho1 0 (by decide)).1 5 (by decide) rfl kf_X2_32 iwX2 dX2_copyFrom_66 ?_
  refine lv_iconst (v := (0 : Int32)) hx hb dX2_copyFrom_69 (by decide) ?_
  refine lv_aload_n hx hb dX2_copyFrom_70 rfl (lv_at hl 0 rfl) ?_
  refine gf2 X G ((hbs 0 (by decide)).2 (by decide)) (hbs 0 (by decide)).1 5 (by decide) rfl kf_X2_32 iwX2 dX2_copyFrom_71 ?_
  refine lv_iconst (v := (0 : Int32)) hx hb dX2_copyFrom_74 (by decide) ?_
  refine lv_bipush (v := (10 : Int32)) hx hb dX2_copyFrom_75 (by decide) ?_
  refine a_copyc (k0 := (o1 + 6)) (n0 := 10) (k1 := (b + 6)) (n1 := 10) X G hl.1 ((ho1 6 (by decide)).2 (by decide)) ((hbs 6 (by decide)).2 (by decide)) (ho1 6 (by decide)).1 (by decide) (hbs 6 (by decide)).1 (by decide) km_X2_54 kn_acopy ks_acopy ki_System 0 0 10 (by decide) (rmk_1 (by omega)) (rmk_l (by omega) (Nat.le_of_ble_eq_true rfl)) dX2_copyFrom_77 (fun s7 es7 H locs G => ?_)
  have hf := nm_s hf s7 es7
  refine lv_aload_n hx hb dX2_copyFrom_80 rfl (lv_at hl 1 rfl) ?_
  refine gf2 X G ((ho1 0 (by decide)).2 (by decide)) (ho1 0 (by decide)).1 6 (by decide) rfl kf_X2_35 iwX2 dX2_copyFrom_81 ?_
  refine lv_iconst (v := (0 : Int32)) hx hb dX2_copyFrom_84 (by decide) ?_
  refine lv_aload_n hx hb dX2_copyFrom_85 rfl (lv_at hl 0 rfl) ?_
  refine gf2 X G ((hbs 0 (by decide)).2 (by decide)) (hbs 0 (by decide)).1 6 (by decide) rfl kf_X2_35 iwX2 dX2_copyFrom_86 ?_
  refine lv_iconst (v := (0 : Int32)) hx hb dX2_copyFrom_89 (by decide) ?_
  refine lv_bipush (v := (10 : Int32)) hx hb dX2_copyFrom_90 (by decide) ?_
  refine a_copyc (k0 := (o1 + 7)) (n0 := 10) (k1 := (b + 7)) (n1 := 10) X G hl.1 ((ho1 7 (by decide)).2 (by decide)) ((hbs 7 (by decide)).2 (by decide)) (ho1 7 (by decide)).1 (by decide) (hbs 7 (by decide)).1 (by decide) km_X2_54 kn_acopy ks_acopy ki_System 0 0 10 (by decide) (rmk_1 (by omega)) (rmk_l (by omega) (Nat.le_of_ble_eq_true rfl)) dX2_copyFrom_92 (fun s8 es8 H locs G => ?_)
  have hf := nm_s hf s8 es8
  refine lv_aload_n hx hb dX2_copyFrom_95 rfl (lv_at hl 0 rfl) ?_
  refine lv_aload_n hx hb dX2_copyFrom_96 rfl (lv_at hl 1 rfl) ?_
  refine gf2 X G ((ho1 0 (by decide)).2 (by decide)) (ho1 0 (by decide)).1 7 (by decide) rfl kf_X2_38 iwX2 dX2_copyFrom_97 ?_
  refine pf2 X G ((hbs 0 (by decide)).2 (by decide)) (hbs 0 (by decide)).1 7 (by decide) ps2_7 uio kf_X2_38 iwX2 rfl (ty := .int) (by decide +kernel) rfl rfl dX2_copyFrom_100 (fun s9 es9 H locs G => ?_)
  have hf := nm_s hf s9 es9
  refine lv_aload_n hx hb dX2_copyFrom_103 rfl (lv_at hl 0 rfl) ?_
  refine lv_aload_n hx hb dX2_copyFrom_104 rfl (lv_at hl 1 rfl) ?_
  refine gf2 X G ((ho1 0 (by decide)).2 (by decide)) (ho1 0 (by decide)).1 8 (by decide) rfl kf_X2_41 iwX2 dX2_copyFrom_105 ?_
  refine pf2 X G ((hbs 0 (by decide)).2 (by decide)) (hbs 0 (by decide)).1 8 (by decide) ps2_8 uio kf_X2_41 iwX2 rfl (ty := .int) (by decide +kernel) rfl rfl dX2_copyFrom_108 (fun s10 es10 H locs G => ?_)
  have hf := nm_s hf s10 es10
  refine lv_aload_n hx hb dX2_copyFrom_111 rfl (lv_at hl 0 rfl) ?_
  refine lv_aload_n hx hb dX2_copyFrom_112 rfl (lv_at hl 1 rfl) ?_
  refine gf2 X G ((ho1 0 (by decide)).2 (by decide)) (ho1 0 (by decide)).1 9 (by decide) rfl kf_X2_44 iwX2 dX2_copyFrom_113 ?_
  refine pf2 X G ((hbs 0 (by decide)).2 (by decide)) (hbs 0 (by decide)).1 9 (by decide) ps2_9 uio kf_X2_44 iwX2 rfl (ty := .int) (by decide +kernel) rfl rfl dX2_copyFrom_116 (fun s11 es11 H locs G => ?_)
  have hf := nm_s hf s11 es11
  exact rtWv X hlk G hr (so_i hf) dX2_copyFrom_119
def fX8_follow (o1 : Option Nat) (st : St) : Option St := nm (uq st 50 2 o1) (fun s1 => nm (ui s1 50 3 (s1.1 134 1)) (fun s2 => some s2))
set_option maxRecDepth 100000 in
theorem tX8_follow (l : Launch) (E : Ev) (st : St) (sz : Nat) (hL : ∀ k, fxC k = true → k ∈ eL E) {o1 : Option Nat}  {res : St} (hf : fX8_follow o1  st = some res) : Met l yX8_follow (.code yX8_follow cX8_follow 2 none :: uW) (rmk 0) (va_Pc [.ref (eq E 50), va_rf (o1.map E.2.2.2.1)] (Pre E st sz)) (QWv E res sz) 0 0 (Af E sz) := by
  refine Met_in (by decide) (by cases o1 <;> exact Nat.le_of_ble_eq_true rfl) ?_
  intro p e s m below meth c X hr hlk hz G ls hl
  have hx := X.1.1
  have hb := X.1.2.1
  have hl : lv_has ls 2 [(0, .ref (eq E 50)), (1, va_rf (o1.map E.2.2.2.1))] := by cases o1 <;> exact hl
  unfold fX8_follow at hf
  refine lv_aload_n hx hb dX8_follow_0 rfl (lv_at hl 0 rfl) ?_
  refine lv_aload_q hx hb dX8_follow_1 rfl (lv_at hl 1 rfl) ?_
  refine pf8 X G (hL 50 rfl) rfl 2 (by decide) (v := va_rf (o1.map E.2.2.2.1)) pq8_2 uqo kf_X8_15 iwX8 rfl (ty := .object "FireTax$Rule") (by decide +kernel) nar_q fit_q dX8_follow_2 (fun s1 es1 H locs G => ?_)
  have hf := nm_s hf s1 es1
  refine lv_aload_n hx hb dX8_follow_5 rfl (lv_at hl 0 rfl) ?_
  refine lv_aload_n hx hb dX8_follow_6 rfl (lv_at hl 0 rfl) ?_
  refine gf8 X G (hL 50 rfl) rfl 0 (by decide) rfl kf_X8_23 iwX8 dX8_follow_7 ?_
  refine gf1 X G (hL 134 rfl) rfl 1 (by decide) rfl kf_X8_27 iwX1 dX8_follow_10 ?_
  refine pf8 X G (hL 50 rfl) rfl 3 (by decide) ps8_3 uio kf_X8_19 iwX8 rfl (ty := .int) (by decide +kernel) rfl rfl dX8_follow_13 (fun s2 es2 H locs G => ?_)
  have hf := nm_s hf s2 es2
  exact rtWv X hlk G hr (so_i hf) dX8_follow_16
def fX3_weigh_B68 (p1 : Int32) (y2 : Int32) (z0 : Int32) (st : St) : Option St := if z0 = 0 then (some st) else (if y2 ≤ (st.1 60 8) then (some st) else (nm (ui st 60 8 y2) (fun s3 => nm (ur s3 68 (va_cpy (s3.1 65) (s3.1 68) 0 0 4)) (fun s4 => some s4))))
set_option maxRecDepth 100000 in
theorem wX3_weigh_B68 {p : Program} {l : Launch} {e : Env} {s : State} {m : MethodId} {args : Array Value} {below : List Frame} {meth : Method} {c : Code} {E : Ev} (hL : ∀ k, fxC k = true → k ∈ eL E) {p1 : Int32} {sz : Nat} {res : St} (X : CX p s m args c E RX3 cX3_weigh 4 (Af E sz)) (hr : meth.sig.returnType = none) (hlk : meth.locks = false) : ∀ (y2 : Int32) (z0 : Int32) (st : St) (H : Heap) (locs : List Loc), fX3_weigh_B68 p1  y2 z0 st = some res → Gd E st (Af E sz) s H locs → ∀ ls : Array Slot, lv_has ls 4 [(0, .ref (eq E 60)), (2, .int y2)] → W p l e (rmk 1) s m args below meth c H locs 0 0 (MQ below (QWv E res sz) args s 0 0 (Af E sz)) (F0 m 68 ls [.int z0]) := by
  have hx := X.1.1
  have hb := X.1.2.1
  intro y2 z0 st H locs hf G ls hl
  unfold fX3_weigh_B68 at hf
  refine lv_istore_n (lv' := [(3, .int z0), (0, .ref (eq E 60)), (2, .int y2)]) hx hb dX3_weigh_68 rfl hl (by decide) rfl (fun ls hl => ?_)
  refine lv_iload_n hx hb dX3_weigh_69 rfl (lv_at hl 0 rfl) ?_
  refine lv_if_eq (tgt := 100) hx hb dX3_weigh_70 (by decide) (fun c1 => ?_) (fun c1 => ?_)
  · have hf := it_t hf c1
    exact rtWv X hlk G hr (so_i hf) dX3_weigh_100
  · have hf := it_f hf c1
    refine lv_iload_n hx hb dX3_weigh_73 rfl (lv_at hl 2 rfl) ?_
    refine lv_aload_n hx hb dX3_weigh_74 rfl (lv_at hl 1 rfl) ?_
    refine gf3 X G (hL 60 rfl) rfl 8 (by decide) rfl kf_X3_33 iwX3 dX3_weigh_75 ?_
    refine lv_icmp_le (tgt := 100) hx hb dX3_weigh_78 (by decide) (fun c2 => ?_) (fun c2 => ?_)
    · have hf := it_t hf c2
      exact rtWv X hlk G hr (so_i hf) dX3_weigh_100
    · have hf := it_f hf c2
      refine lv_aload_n hx hb dX3_weigh_81 rfl (lv_at hl 1 rfl) ?_
      refine lv_iload_n hx hb dX3_weigh_82 rfl (lv_at hl 2 rfl) ?_
      refine pf3 X G (hL 60 rfl) rfl 8 (by decide) ps3_8 uio kf_X3_33 iwX3 rfl (ty := .int) (by decide +kernel) rfl rfl dX3_weigh_83 (fun s3 es3 H locs G => ?_)
      have hf := nm_s hf s3 es3
      refine lv_aload_n hx hb dX3_weigh_86 rfl (lv_at hl 1 rfl) ?_
      refine gf3 X G (hL 60 rfl) rfl 4 (by decide) rfl kf_X3_20 iwX3 dX3_weigh_87 ?_
      refine lv_iconst (v := (0 : Int32)) hx hb dX3_weigh_90 (by decide) ?_
      refine lv_aload_n hx hb dX3_weigh_91 rfl (lv_at hl 1 rfl) ?_
      refine gf3 X G (hL 60 rfl) rfl 7 (by decide) rfl kf_X3_30 iwX3 dX3_weigh_92 ?_
      refine lv_iconst (v := (0 : Int32)) hx hb dX3_weigh_95 (by decide) ?_
      refine lv_iconst (v := (4 : Int32)) hx hb dX3_weigh_96 (by decide) ?_
      refine a_copyc (k0 := 65) (n0 := 4) (k1 := 68) (n1 := 4) X G hl.1 (hL 65 rfl) (hL 68 rfl) rfl (by decide) rfl (by decide) km_X3_50 kn_acopy ks_acopy ki_System 0 0 4 (by decide) (rmk_1 (by omega)) (rmk_l (by omega) (Nat.le_of_ble_eq_true rfl)) dX3_weigh_97 (fun s4 es4 H locs G => ?_)
      have hf := nm_s hf s4 es4
      exact rtWv X hlk G hr (so_i hf) dX3_weigh_100
def fX3_weigh_B27 (p1 : Int32) (y2 : Int32) (z0 : Int32) (st : St) : Option St := nm (ui st 60 9 z0) (fun s1 => nm (ui s1 60 10 (if (s1.1 60 10) < y2 then y2 else (s1.1 60 10))) (fun s2 => gd (ix p1 5) (gd (ix (0 : Int32) 5) (if (s2.1 (63 + 9 + p1.toNatClampNeg) 38) = (s2.1 (63 + 9 + (0 : Int32).toNatClampNeg) 38) then (fX3_weigh_B68 p1 y2 (1 : Int32) s2) else (fX3_weigh_B68 p1 y2 (0 : Int32) s2)))))
set_option maxRecDepth 100000 in
theorem wX3_weigh_B27 {p : Program} {l : Launch} {e : Env} {s : State} {m : MethodId} {args : Array Value} {below : List Frame} {meth : Method} {c : Code} {E : Ev} (hL : ∀ k, fxC k = true → k ∈ eL E) {p1 : Int32} {sz : Nat} {res : St} (X : CX p s m args c E RX3 cX3_weigh 4 (Af E sz)) (hr : meth.sig.returnType = none) (hlk : meth.locks = false) : ∀ (y2 : Int32) (z0 : Int32) (st : St) (H : Heap) (locs : List Loc), fX3_weigh_B27 p1  y2 z0 st = some res → Gd E st (Af E sz) s H locs → ∀ ls : Array Slot, lv_has ls 4 [(0, .ref (eq E 60)), (1, .int p1), (2, .int y2)] → W p l e (rmk 1) s m args below meth c H locs 0 0 (MQ below (QWv E res sz) args s 0 0 (Af E sz)) (F0 m 27 ls [.int z0, .ref (eq E 60)]) := by
  have hx := X.1.1
  have hb := X.1.2.1
  intro y2 z0 st H locs hf G ls hl
  unfold fX3_weigh_B27 at hf
  refine pf3 X G (hL 60 rfl) rfl 9 (by decide) ps3_9 uio kf_X3_36 iwX3 rfl (ty := .int) (by decide +kernel) rfl rfl dX3_weigh_27 (fun s1 es1 H locs G => ?_)
  have hf := nm_s hf s1 es1
  refine lv_aload_n hx hb dX3_weigh_30 rfl (lv_at hl 0 rfl) ?_
  refine lv_aload_n hx hb dX3_weigh_31 rfl (lv_at hl 0 rfl) ?_
  refine gf3 X G (hL 60 rfl) rfl 10 (by decide) rfl kf_X3_39 iwX3 dX3_weigh_32 ?_
  refine lv_iload_n hx hb dX3_weigh_35 rfl (lv_at hl 2 rfl) ?_
  refine va_mmax hx hb (X.1.2.2.1.trans hl.1.symm) X.1.2.2.2.1 (X.1.2.2.2.2 _ km_X3_92) (X.1.2.2.2.2 _ ks_Math_max) (X.1.2.2.2.2 _ ki_Math) (X.1.2.2.2.2 _ kd_Math_max) (rmk_1 (by omega)) (rmk_l (by omega) (Nat.le_of_ble_eq_true rfl)) (Nat.zero_le _) (Nat.zero_le _) dX3_weigh_36 ?_
  refine pf3 X G (hL 60 rfl) rfl 10 (by decide) ps3_10 uio kf_X3_39 iwX3 rfl (ty := .int) (by decide +kernel) rfl rfl dX3_weigh_39 (fun s2 es2 H locs G => ?_)
  have hf := nm_s hf s2 es2
  refine lv_aload_n hx hb dX3_weigh_42 rfl (lv_at hl 0 rfl) ?_
  refine gf3 X G (hL 60 rfl) rfl 2 (by decide) rfl kf_X3_11 iwX3 dX3_weigh_43 ?_
  refine lv_iload_n hx hb dX3_weigh_46 rfl (lv_at hl 1 rfl) ?_
  obtain ⟨h3, hf⟩ := gd_s hf
  refine ii_ld (k := 63) (n := 5) X G (hL 63 rfl) rfl (by decide) (ix_in h3) dX3_weigh_47 ?_
  refine lv_bipush (v := (38 : Int32)) hx hb dX3_weigh_48 (by decide) ?_
  refine ia_ldc (k := (63 + 9 + p1.toNatClampNeg)) (n := 41) X G (hL _ (row_fx h3)) (row_ty h3) (by decide) 38 (by decide) dX3_weigh_50 ?_
  refine lv_aload_n hx hb dX3_weigh_51 rfl (lv_at hl 0 rfl) ?_
  refine gf3 X G (hL 60 rfl) rfl 2 (by decide) rfl kf_X3_11 iwX3 dX3_weigh_52 ?_
  refine lv_iconst (v := (0 : Int32)) hx hb dX3_weigh_55 (by decide) ?_
  obtain ⟨h5, hf⟩ := gd_s hf
  refine ii_ld (k := 63) (n := 5) X G (hL 63 rfl) rfl (by decide) (ix_in h5) dX3_weigh_56 ?_
  refine lv_bipush (v := (38 : Int32)) hx hb dX3_weigh_57 (by decide) ?_
  refine ia_ldc (k := (63 + 9 + (0 : Int32).toNatClampNeg)) (n := 41) X G (hL _ (row_fx h5)) (row_ty h5) (by decide) 38 (by decide) dX3_weigh_59 ?_
  refine lv_icmp_ne (tgt := 67) hx hb dX3_weigh_60 (by decide) (fun c7 => ?_) (fun c7 => ?_)
  · have hf := it_f hf c7
    refine lv_iconst (v := (0 : Int32)) hx hb dX3_weigh_67 (by decide) ?_
    exact wX3_weigh_B68 hL X hr hlk y2 (0 : Int32) s2 _ _ hf G _ (lv_sub hl [0, 2] rfl)
  · have hf := it_t hf c7
    refine lv_iconst (v := (1 : Int32)) hx hb dX3_weigh_63 (by decide) ?_
    refine lv_goto (tgt := 68) hx hb dX3_weigh_64 (by decide) ?_
    exact wX3_weigh_B68 hL X hr hlk y2 (1 : Int32) s2 _ _ hf G _ (lv_sub hl [0, 2] rfl)
def fX3_weigh (p1 : Int32) (st : St) : Option St := gd (ix p1 5) (nm (st.1 64 p1.toNatClampNeg) (fun x2 => if 0 ≤ (st.1 60 9) then (fX3_weigh_B27 p1 x2 (if x2 < (st.1 60 9) then x2 else (st.1 60 9)) st) else (fX3_weigh_B27 p1 x2 x2 st)))
set_option maxRecDepth 100000 in
theorem tX3_weigh (l : Launch) (E : Ev) (st : St) (sz : Nat) (hL : ∀ k, fxC k = true → k ∈ eL E) (p1 : Int32) {res : St} (hf : fX3_weigh  p1 st = some res) : Met l yX3_weigh (.code yX3_weigh cX3_weigh 4 none :: uW) (rmk 1) (va_Pc [.ref (eq E 60), .int p1] (Pre E st sz)) (QWv E res sz) 0 0 (Af E sz) := by
  refine Met_in (by decide) (Nat.le_of_ble_eq_true rfl) ?_
  intro p e s m below meth c X hr hlk hz G ls hl
  have hx := X.1.1
  have hb := X.1.2.1
  have hl : lv_has ls 4 [(0, .ref (eq E 60)), (1, .int p1)] := hl
  unfold fX3_weigh at hf
  refine lv_aload_n hx hb dX3_weigh_0 rfl (lv_at hl 0 rfl) ?_
  refine gf3 X G (hL 60 rfl) rfl 3 (by decide) rfl kf_X3_16 iwX3 dX3_weigh_1 ?_
  refine lv_iload_n hx hb dX3_weigh_4 rfl (lv_at hl 1 rfl) ?_
  obtain ⟨h1, hf⟩ := gd_s hf
  refine ia_ld (k := 64) (n := 5) X G (hL 64 rfl) rfl (by decide) (ix_in h1) dX3_weigh_5 ?_
  refine lv_topi (fun x2 ex2 => ?_)
  have hf := nm_s hf x2 ex2
  refine lv_istore_n (lv' := [(2, .int x2), (0, .ref (eq E 60)), (1, .int p1)]) hx hb dX3_weigh_6 rfl hl (by decide) rfl (fun ls hl => ?_)
  refine lv_aload_n hx hb dX3_weigh_7 rfl (lv_at hl 1 rfl) ?_
  refine lv_aload_n hx hb dX3_weigh_8 rfl (lv_at hl 1 rfl) ?_
  refine gf3 X G (hL 60 rfl) rfl 9 (by decide) rfl kf_X3_36 iwX3 dX3_weigh_9 ?_
  refine lv_if_ge (tgt := 19) hx hb dX3_weigh_12 (by decide) (fun c3 => ?_) (fun c3 => ?_)
  · have hf := it_t hf c3
    refine lv_aload_n hx hb dX3_weigh_19 rfl (lv_at hl 1 rfl) ?_
    refine gf3 X G (hL 60 rfl) rfl 9 (by decide) rfl kf_X3_36 iwX3 dX3_weigh_20 ?_
    refine lv_iload_n hx hb dX3_weigh_23 rfl (lv_at hl 0 rfl) ?_
    refine va_mmin hx hb (X.1.2.2.1.trans hl.1.symm) X.1.2.2.2.1 (X.1.2.2.2.2 _ km_X3_86) (X.1.2.2.2.2 _ ks_Math_min) (X.1.2.2.2.2 _ ki_Math) (X.1.2.2.2.2 _ kd_Math_min) (rmk_1 (by omega)) (rmk_l (by omega) (Nat.le_of_ble_eq_true rfl)) (Nat.zero_le _) (Nat.zero_le _) dX3_weigh_24 ?_
    exact wX3_weigh_B27 hL X hr hlk x2 (if x2 < (st.1 60 9) then x2 else (st.1 60 9)) st _ _ hf G _ (lv_sub hl [1, 2, 0] rfl)
  · have hf := it_f hf c3
    refine lv_iload_n hx hb dX3_weigh_15 rfl (lv_at hl 0 rfl) ?_
    refine lv_goto (tgt := 27) hx hb dX3_weigh_16 (by decide) ?_
    exact wX3_weigh_B27 hL X hr hlk x2 x2 st _ _ hf G _ (lv_sub hl [1, 2, 0] rfl)
def fX8_canCall_B36 (a1 : Nat) (n1 : Nat) (p2 : Int32) (p3 : Int32) (st : St) (z0 : Int32) : Option Int32 := if z0 = 0 then (some (0 : Int32)) else (gd (ix (38 : Int32) n1) (if (((st.1 a1 (38 : Int32).toNatClampNeg) >>> (p3 &&& 31)) &&& (1 : Int32)) = 0 then (gd (ix ((24 : Int32) + p3) n1) (gd (ix (39 : Int32) n1) (if (st.1 a1 ((24 : Int32) + p3).toNatClampNeg) = (st.1 a1 (39 : Int32).toNatClampNeg) then (some (0 : Int32)) else (some (1 : Int32))))) else (some (0 : Int32))))
set_option maxRecDepth 100000 in
theorem wX8_canCall_B36 {p : Program} {l : Launch} {e : Env} {s : State} {m : MethodId} {args : Array Value} {below : List Frame} {meth : Method} {c : Code} {E : Ev} (hL : ∀ k, fxC k = true → k ∈ eL E) {a1 : Nat} {n1 : Nat} {p2 : Int32} {p3 : Int32} (hm1 : a1 ∈ eL E) (ht1 : ty a1 = 10000 + n1) (hn1 : n1 < 10000) {st : St} {sz : Nat} {res : Int32} (X : CX p s m args c E RX8 cX8_canCall 6 (Af E sz)) (hr : meth.sig.returnType = (some .boolean)) (hlk : meth.locks = false) (G : Gd E st (Af E sz) s s.heap []) : ∀ (z0 : Int32), fX8_canCall_B36 a1 n1 p2 p3 st  z0 = some res → ∀ ls : Array Slot, lv_has ls 6 [(1, .ref (eq E a1)), (3, .int p3)] → W p l e (rmk 0) s m args below meth c s.heap [] 0 0 (MQ below (QRi res) args s 0 0 (NoF)) (F0 m 36 ls [.int z0]) := by
  have hx := X.1.1
  have hb := X.1.2.1
  intro z0 hf ls hl
  unfold fX8_canCall_B36 at hf
  refine lv_istore (lv' := [(5, .int z0), (1, .ref (eq E a1)), (3, .int p3)]) hx hb dX8_canCall_36 hl (by decide) rfl (fun ls hl => ?_)
  refine lv_iload hx hb dX8_canCall_38 (lv_at hl 0 rfl) ?_
  refine lv_if_eq (tgt := 71) hx hb dX8_canCall_40 (by decide) (fun c1 => ?_) (fun c1 => ?_)
  · have hf := it_t hf c1
    refine lv_iconst (v := (0 : Int32)) hx hb dX8_canCall_71 (by decide) ?_
    exact rtRz X hlk hr rfl (so_i hf) dX8_canCall_72
  · have hf := it_f hf c1
    refine lv_aload_n hx hb dX8_canCall_43 rfl (lv_at hl 1 rfl) ?_
    refine lv_bipush (v := (38 : Int32)) hx hb dX8_canCall_44 (by decide) ?_
    obtain ⟨h2, hf⟩ := gd_s hf
    refine ia_ld (k := a1) (n := n1) X G hm1 ht1 hn1 (ix_in h2) dX8_canCall_46 ?_
    refine lv_iload_n hx hb dX8_canCall_47 rfl (lv_at hl 2 rfl) ?_
    refine lv_ishr hx hb dX8_canCall_48 ?_
    refine lv_iconst (v := (1 : Int32)) hx hb dX8_canCall_49 (by decide) ?_
    refine lv_iand hx hb dX8_canCall_50 ?_
    refine lv_if_ne (tgt := 71) hx hb dX8_canCall_51 (by decide) (fun c3 => ?_) (fun c3 => ?_)
    · have hf := it_f hf c3
      refine lv_iconst (v := (0 : Int32)) hx hb dX8_canCall_71 (by decide) ?_
      exact rtRz X hlk hr rfl (so_i hf) dX8_canCall_72
    · have hf := it_t hf c3
      refine lv_aload_n hx hb dX8_canCall_54 rfl (lv_at hl 1 rfl) ?_
      refine lv_bipush (v := (24 : Int32)) hx hb dX8_canCall_55 (by decide) ?_
      refine lv_iload_n hx hb dX8_canCall_57 rfl (lv_at hl 2 rfl) ?_
      refine lv_iadd hx hb dX8_canCall_58 ?_
      obtain ⟨h4, hf⟩ := gd_s hf
      refine ia_ld (k := a1) (n := n1) X G hm1 ht1 hn1 (ix_in h4) dX8_canCall_59 ?_
      refine lv_aload_n hx hb dX8_canCall_60 rfl (lv_at hl 1 rfl) ?_
      refine lv_bipush (v := (39 : Int32)) hx hb dX8_canCall_61 (by decide) ?_
      obtain ⟨h5, hf⟩ := gd_s hf
      refine ia_ld (k := a1) (n := n1) X G hm1 ht1 hn1 (ix_in h5) dX8_canCall_63 ?_
      refine lv_icmp_eq (tgt := 71) hx hb dX8_canCall_64 (by decide) (fun c6 => ?_) (fun c6 => ?_)
      · have hf := it_t hf c6
        refine lv_iconst (v := (0 : Int32)) hx hb dX8_canCall_71 (by decide) ?_
        exact rtRz X hlk hr rfl (so_i hf) dX8_canCall_72
      · have hf := it_f hf c6
        refine lv_iconst (v := (1 : Int32)) hx hb dX8_canCall_67 (by decide) ?_
        refine lv_goto (tgt := 72) hx hb dX8_canCall_68 (by decide) ?_
        exact rtRz X hlk hr rfl (so_i hf) dX8_canCall_72
def fX8_canCall_B31 (a1 : Nat) (n1 : Nat) (p2 : Int32) (p3 : Int32) (st : St) : Option Int32 := fX8_canCall_B36 a1 n1 p2 p3 st (1 : Int32)
set_option maxRecDepth 100000 in
theorem wX8_canCall_B31 {p : Program} {l : Launch} {e : Env} {s : State} {m : MethodId} {args : Array Value} {below : List Frame} {meth : Method} {c : Code} {E : Ev} (hL : ∀ k, fxC k = true → k ∈ eL E) {a1 : Nat} {n1 : Nat} {p2 : Int32} {p3 : Int32} (hm1 : a1 ∈ eL E) (ht1 : ty a1 = 10000 + n1) (hn1 : n1 < 10000) {st : St} {sz : Nat} {res : Int32} (X : CX p s m args c E RX8 cX8_canCall 6 (Af E sz)) (hr : meth.sig.returnType = (some .boolean)) (hlk : meth.locks = false) (G : Gd E st (Af E sz) s s.heap []) : fX8_canCall_B31 a1 n1 p2 p3 st   = some res → ∀ ls : Array Slot, lv_has ls 6 [(1, .ref (eq E a1)), (3, .int p3)] → W p l e (rmk 0) s m args below meth c s.heap [] 0 0 (MQ below (QRi res) args s 0 0 (NoF)) (F0 m 31 ls []) := by
  have hx := X.1.1
  have hb := X.1.2.1
  intro  hf ls hl
  unfold fX8_canCall_B31 at hf
  refine lv_iconst (v := (1 : Int32)) hx hb dX8_canCall_31 (by decide) ?_
  refine lv_goto (tgt := 36) hx hb dX8_canCall_32 (by decide) ?_
  exact wX8_canCall_B36 hL hm1 ht1 hn1 X hr hlk G (1 : Int32) hf _ (lv_sub hl [0, 1] rfl)
def fX8_canCall (a1 : Nat) (n1 : Nat) (st : St) (p2 : Int32) (p3 : Int32) : Option Int32 := gd (ix ((32 : Int32) + p2) n1) (nm (st.1 a1 ((32 : Int32) + p2).toNatClampNeg) (fun x2 => if x2 = p3 then (fX8_canCall_B31 a1 n1 p2 p3 st ) else (gd (ix p3 8) (if (((st.1 144 p3.toNatClampNeg) >>> (x2 &&& 31)) &&& (1 : Int32)) = 0 then (fX8_canCall_B36 a1 n1 p2 p3 st (0 : Int32)) else (fX8_canCall_B31 a1 n1 p2 p3 st )))))
set_option maxRecDepth 100000 in
theorem tX8_canCall (l : Launch) (E : Ev) (st : St) (sz : Nat) (hL : ∀ k, fxC k = true → k ∈ eL E) {a1 : Nat} {n1 : Nat} (hm1 : a1 ∈ eL E) (ht1 : ty a1 = 10000 + n1) (hn1 : n1 < 10000) (p2 : Int32) (p3 : Int32) {res : Int32} (hf : fX8_canCall a1 n1 st p2 p3 = some res) : Met l yX8_canCall (.code yX8_canCall cX8_canCall 6 (some .boolean) :: uW) (rmk 0) (va_Pc [.ref (eq E 50), .ref (eq E a1), .int p2, .int p3] (Pre E st sz)) (QRi res) 0 0 (NoF) := by
  refine Met_in (by decide) (Nat.le_of_ble_eq_true rfl) ?_
  intro p e s m below meth c X hr hlk hz G ls hl
  have hx := X.1.1
  have hb := X.1.2.1
  have hl : lv_has ls 6 [(0, .ref (eq E 50)), (1, .ref (eq E a1)), (2, .int p2), (3, .int p3)] := hl
  unfold fX8_canCall at hf
  refine lv_aload_n hx hb dX8_canCall_0 rfl (lv_at hl 1 rfl) ?_
  refine lv_bipush (v := (32 : Int32)) hx hb dX8_canCall_1 (by decide) ?_
  refine lv_iload_n hx hb dX8_canCall_3 rfl (lv_at hl 2 rfl) ?_
  refine lv_iadd hx hb dX8_canCall_4 ?_
  obtain ⟨h1, hf⟩ := gd_s hf
  refine ia_ld (k := a1) (n := n1) X G hm1 ht1 hn1 (ix_in h1) dX8_canCall_5 ?_
  refine lv_topi (fun x2 ex2 => ?_)
  have hf := nm_s hf x2 ex2
  refine lv_istore (lv' := [(4, .int x2), (0, .ref (eq E 50)), (1, .ref (eq E a1)), (2, .int p2), (3, .int p3)]) hx hb dX8_canCall_6 hl (by decide) rfl (fun ls hl => ?_)
  refine lv_iload hx hb dX8_canCall_8 (lv_at hl 0 rfl) ?_
  refine lv_iload_n hx hb dX8_canCall_10 rfl (lv_at hl 4 rfl) ?_
  refine lv_icmp_eq (tgt := 31) hx hb dX8_canCall_11 (by decide) (fun c3 => ?_) (fun c3 => ?_)
  · have hf := it_t hf c3
    exact wX8_canCall_B31 hL hm1 ht1 hn1 X hr hlk G hf _ (lv_sub hl [2, 4] rfl)
  · have hf := it_f hf c3
    refine lv_aload_n hx hb dX8_canCall_14 rfl (lv_at hl 1 rfl) ?_
    refine gf8 X G (hL 50 rfl) rfl 0 (by decide) rfl kf_X8_23 iwX8 dX8_canCall_15 ?_
    refine gf1 X G (hL 134 rfl) rfl 9 (by decide) rfl kf_X8_62 iwX1 dX8_canCall_18 ?_
    refine lv_iload_n hx hb dX8_canCall_21 rfl (lv_at hl 4 rfl) ?_
    obtain ⟨h4, hf⟩ := gd_s hf
    refine ia_ld (k := 144) (n := 8) X G (hL 144 rfl) rfl (by decide) (ix_in h4) dX8_canCall_22 ?_
    refine lv_iload hx hb dX8_canCall_23 (lv_at hl 0 rfl) ?_
    refine lv_ishr hx hb dX8_canCall_25 ?_
    refine lv_iconst (v := (1 : Int32)) hx hb dX8_canCall_26 (by decide) ?_
    refine lv_iand hx hb dX8_canCall_27 ?_
    refine lv_if_eq (tgt := 35) hx hb dX8_canCall_28 (by decide) (fun c5 => ?_) (fun c5 => ?_)
    · have hf := it_t hf c5
      refine lv_iconst (v := (0 : Int32)) hx hb dX8_canCall_35 (by decide) ?_
      exact wX8_canCall_B36 hL hm1 ht1 hn1 X hr hlk G (0 : Int32) hf _ (lv_sub hl [2, 4] rfl)
    · have hf := it_f hf c5
      exact wX8_canCall_B31 hL hm1 ht1 hn1 X hr hlk G hf _ (lv_sub hl [2, 4] rfl)
def fX8_room (a1 : Nat) (n1 : Nat) (st : St) (p2 : Int32) : Option Int32 := gd (ix p2 3) (gd (ix ((35 : Int32) + p2) n1) (some ((st.1 145 p2.toNatClampNeg) - (st.1 a1 ((35 : Int32) + p2).toNatClampNeg))))
set_option maxRecDepth 100000 in
theorem tX8_room (l : Launch) (E : Ev) (st : St) (sz : Nat) (hL : ∀ k, fxC k = true → k ∈ eL E) {a1 : Nat} {n1 : Nat} (hm1 : a1 ∈ eL E) (ht1 : ty a1 = 10000 + n1) (hn1 : n1 < 10000) (p2 : Int32) {res : Int32} (hf : fX8_room a1 n1 st p2 = some res) : Met l yX8_room (.code yX8_room cX8_room 3 (some .int) :: uW) (rmk 0) (va_Pc [.ref (eq E 50), .ref (eq E a1), .int p2] (Pre E st sz)) (QRi res) 0 0 (NoF) := by
  refine Met_in (by decide) (Nat.le_of_ble_eq_true rfl) ?_
  intro p e s m below meth c X hr hlk hz G ls hl
  have hx := X.1.1
  have hb := X.1.2.1
  have hl : lv_has ls 3 [(0, .ref (eq E 50)), (1, .ref (eq E a1)), (2, .int p2)] := hl
  unfold fX8_room at hf
  refine lv_aload_n hx hb dX8_room_0 rfl (lv_at hl 0 rfl) ?_
  refine gf8 X G (hL 50 rfl) rfl 0 (by decide) rfl kf_X8_23 iwX8 dX8_room_1 ?_
  refine gf1 X G (hL 134 rfl) rfl 10 (by decide) rfl kf_X8_69 iwX1 dX8_room_4 ?_
  refine lv_iload_n hx hb dX8_room_7 rfl (lv_at hl 2 rfl) ?_
  obtain ⟨h1, hf⟩ := gd_s hf
  refine ia_ld (k := 145) (n := 3) X G (hL 145 rfl) rfl (by decide) (ix_in h1) dX8_room_8 ?_
  refine lv_aload_n hx hb dX8_room_9 rfl (lv_at hl 1 rfl) ?_
  refine lv_bipush (v := (35 : Int32)) hx hb dX8_room_10 (by decide) ?_
  refine lv_iload_n hx hb dX8_room_12 rfl (lv_at hl 2 rfl) ?_
  refine lv_iadd hx hb dX8_room_13 ?_
  obtain ⟨h2, hf⟩ := gd_s hf
  refine ia_ld (k := a1) (n := n1) X G hm1 ht1 hn1 (ix_in h2) dX8_room_14 ?_
  refine lv_isub hx hb dX8_room_15 ?_
  exact rtRi X hlk hr (so_i hf) dX8_room_16
def fX8_share (a1 : Nat) (n1 : Nat) (st : St) (p2 : Int32) (p3 : Int32) : Option Int32 := gd (ix ((0 : Int32) + p3) n1) (br (fX8_room a1 n1 st p2) (fun x4 => some (if x4 < (((st.1 50 3) * (st.1 a1 ((0 : Int32) + p3).toNatClampNeg)) / (100 : Int32)) then x4 else (((st.1 50 3) * (st.1 a1 ((0 : Int32) + p3).toNatClampNeg)) / (100 : Int32)))))
set_option maxRecDepth 100000 in
theorem tX8_share (l : Launch) (E : Ev) (st : St) (sz : Nat) (hL : ∀ k, fxC k = true → k ∈ eL E) {a1 : Nat} {n1 : Nat} (hm1 : a1 ∈ eL E) (ht1 : ty a1 = 10000 + n1) (hn1 : n1 < 10000) (p2 : Int32) (p3 : Int32) {res : Int32} (hf : fX8_share a1 n1 st p2 p3 = some res) : Met l yX8_share (.code yX8_share cX8_share 4 (some .int) :: uW) (rmk 1) (va_Pc [.ref (eq E 50), .ref (eq E a1), .int p2, .int p3] (Pre E st sz)) (QRi res) 0 0 (NoF) := by
  refine Met_in (by decide) (Nat.le_of_ble_eq_true rfl) ?_
  intro p e s m below meth c X hr hlk hz G ls hl
  have hx := X.1.1
  have hb := X.1.2.1
  have hl : lv_has ls 4 [(0, .ref (eq E 50)), (1, .ref (eq E a1)), (2, .int p2), (3, .int p3)] := hl
  unfold fX8_share at hf
  refine lv_aload_n hx hb dX8_share_0 rfl (lv_at hl 0 rfl) ?_
  refine gf8 X G (hL 50 rfl) rfl 3 (by decide) rfl kf_X8_19 iwX8 dX8_share_1 ?_
  refine lv_aload_n hx hb dX8_share_4 rfl (lv_at hl 1 rfl) ?_
  refine lv_iconst (v := (0 : Int32)) hx hb dX8_share_5 (by decide) ?_
  refine lv_iload_n hx hb dX8_share_6 rfl (lv_at hl 3 rfl) ?_
  refine lv_iadd hx hb dX8_share_7 ?_
  obtain ⟨h1, hf⟩ := gd_s hf
  refine ia_ld (k := a1) (n := n1) X G hm1 ht1 hn1 (ix_in h1) dX8_share_8 ?_
  refine lv_imul hx hb dX8_share_9 ?_
  refine lv_bipush (v := (100 : Int32)) hx hb dX8_share_10 (by decide) ?_
  refine lv_idiv hx hb dX8_share_12 (by decide) ?_
  refine lv_aload_n hx hb dX8_share_13 rfl (lv_at hl 0 rfl) ?_
  refine lv_aload_n hx hb dX8_share_14 rfl (lv_at hl 1 rfl) ?_
  refine lv_iload_n hx hb dX8_share_15 rfl (lv_at hl 2 rfl) ?_
  obtain ⟨x4, h3, hf⟩ := br_s hf
  refine cVRi (As := [.ref (eq E a1), .int p2]) (rest := [.int (((st.1 50 3) * (st.1 a1 ((0 : Int32) + p3).toNatClampNeg)) / (100 : Int32))]) X G kc_X8_72 (tX8_room l E st _ hL hm1 ht1 hn1 p2 h3) (rcv X G (hL 50 rfl) (cO8 rfl) rfl) rfl rfl (rmk_le (by omega) (by decide)) rfl hl.1 rfl (Nat.le_of_ble_eq_true rfl) dX8_share_16 ⟨Nat.zero_le _, Nat.zero_le _⟩ ?_
  refine va_mmin hx hb (X.1.2.2.1.trans hl.1.symm) X.1.2.2.2.1 (X.1.2.2.2.2 _ km_X8_75) (X.1.2.2.2.2 _ ks_Math_min) (X.1.2.2.2.2 _ ki_Math) (X.1.2.2.2.2 _ kd_Math_min) (rmk_1 (by omega)) (rmk_l (by omega) (Nat.le_of_ble_eq_true rfl)) (Nat.zero_le _) (Nat.zero_le _) dX8_share_19 ?_
  exact rtRi X hlk hr (so_i hf) dX8_share_22
def fX8_callAt (a1 : Nat) (n1 : Nat) (p2 : Int32) (p3 : Int32) (st : St) : Option (Int32 × St) := br (fX8_share a1 n1 st p2 p3) (fun x2 => gd (ix ((0 : Int32) + p3) n1) (gd (ix ((0 : Int32) + p3) n1) (nm (ui st a1 ((0 : Int32) + p3).toNatClampNeg ((st.1 a1 ((0 : Int32) + p3).toNatClampNeg) - x2)) (fun s5 => gd (ix ((35 : Int32) + p2) n1) (gd (ix ((35 : Int32) + p2) n1) (nm (ui s5 a1 ((35 : Int32) + p2).toNatClampNeg ((s5.1 a1 ((35 : Int32) + p2).toNatClampNeg) + x2)) (fun s8 => gd (ix ((32 : Int32) + p2) n1) (nm (ui s8 a1 ((32 : Int32) + p2).toNatClampNeg p3) (fun s10 => gd (ix (39 : Int32) n1) (gd (ix ((24 : Int32) + p3) n1) (nm (ui s10 a1 ((24 : Int32) + p3).toNatClampNeg (s10.1 a1 (39 : Int32).toNatClampNeg)) (fun s13 => some (x2, s13)))))))))))))
set_option maxRecDepth 100000 in
theorem tX8_callAt (l : Launch) (E : Ev) (st : St) (sz : Nat) (hL : ∀ k, fxC k = true → k ∈ eL E) {a1 : Nat} {n1 : Nat} (hm1 : a1 ∈ eL E) (ht1 : ty a1 = 10000 + n1) (hn1 : n1 < 10000) (p2 : Int32) (p3 : Int32) {res : (Int32 × St)} (hf : fX8_callAt a1 n1 p2 p3 st = some res) : Met l yX8_callAt (.code yX8_callAt cX8_callAt 5 (some .int) :: uW) (rmk 2) (va_Pc [.ref (eq E 50), .ref (eq E a1), .int p2, .int p3] (Pre E st sz)) (QWi E res.2 sz res.1) 0 0 (Af E sz) := by
  refine Met_in (by decide) (Nat.le_of_ble_eq_true rfl) ?_
  intro p e s m below meth c X hr hlk hz G ls hl
  have hx := X.1.1
  have hb := X.1.2.1
  have hl : lv_has ls 5 [(0, .ref (eq E 50)), (1, .ref (eq E a1)), (2, .int p2), (3, .int p3)] := hl
  unfold fX8_callAt at hf
  refine lv_aload_n hx hb dX8_callAt_0 rfl (lv_at hl 0 rfl) ?_
  refine lv_aload_n hx hb dX8_callAt_1 rfl (lv_at hl 1 rfl) ?_
  refine lv_iload_n hx hb dX8_callAt_2 rfl (lv_at hl 2 rfl) ?_
  refine lv_iload_n hx hb dX8_callAt_3 rfl (lv_at hl 3 rfl) ?_
  obtain ⟨x2, h1, hf⟩ := br_s hf
  refine cVRi (As := [.ref (eq E a1), .int p2, .int p3]) (rest := []) X G kc_X8_66 (tX8_share l E st _ hL hm1 ht1 hn1 p2 p3 h1) (rcv X G (hL 50 rfl) (cO8 rfl) rfl) rfl rfl (rmk_le (by omega) (by decide)) rfl hl.1 rfl (Nat.le_of_ble_eq_true rfl) dX8_callAt_4 ⟨Nat.zero_le _, Nat.zero_le _⟩ ?_
  refine lv_istore (lv' := [(4, .int x2), (0, .ref (eq E 50)), (1, .ref (eq E a1)), (2, .int p2), (3, .int p3)]) hx hb dX8_callAt_7 hl (by decide) rfl (fun ls hl => ?_)
  refine lv_aload_n hx hb dX8_callAt_9 rfl (lv_at hl 2 rfl) ?_
  refine lv_iconst (v := (0 : Int32)) hx hb dX8_callAt_10 (by decide) ?_
  refine lv_iload_n hx hb dX8_callAt_11 rfl (lv_at hl 4 rfl) ?_
  refine lv_iadd hx hb dX8_callAt_12 ?_
  refine lv_dup2_11 hx hb dX8_callAt_13 rfl rfl ?_
  obtain ⟨h3, hf⟩ := gd_s hf
  refine ia_ld (k := a1) (n := n1) X G hm1 ht1 hn1 (ix_in h3) dX8_callAt_14 ?_
  refine lv_iload hx hb dX8_callAt_15 (lv_at hl 0 rfl) ?_
  refine lv_isub hx hb dX8_callAt_17 ?_
  obtain ⟨h4, hf⟩ := gd_s hf
  refine ia_st (k := a1) (n := n1) X G hm1 ht1 hn1 (ix_in h4) dX8_callAt_18 (fun s5 es5 H locs G => ?_)
  have hf := nm_s hf s5 es5
  refine lv_aload_n hx hb dX8_callAt_19 rfl (lv_at hl 2 rfl) ?_
  refine lv_bipush (v := (35 : Int32)) hx hb dX8_callAt_20 (by decide) ?_
  refine lv_iload_n hx hb dX8_callAt_22 rfl (lv_at hl 3 rfl) ?_
  refine lv_iadd hx hb dX8_callAt_23 ?_
  refine lv_dup2_11 hx hb dX8_callAt_24 rfl rfl ?_
  obtain ⟨h6, hf⟩ := gd_s hf
  refine ia_ld (k := a1) (n := n1) X G hm1 ht1 hn1 (ix_in h6) dX8_callAt_25 ?_
  refine lv_iload hx hb dX8_callAt_26 (lv_at hl 0 rfl) ?_
  refine lv_iadd hx hb dX8_callAt_28 ?_
  obtain ⟨h7, hf⟩ := gd_s hf
  refine ia_st (k := a1) (n := n1) X G hm1 ht1 hn1 (ix_in h7) dX8_callAt_29 (fun s8 es8 H locs G => ?_)
  have hf := nm_s hf s8 es8
  refine lv_aload_n hx hb dX8_callAt_30 rfl (lv_at hl 2 rfl) ?_
  refine lv_bipush (v := (32 : Int32)) hx hb dX8_callAt_31 (by decide) ?_
  refine lv_iload_n hx hb dX8_callAt_33 rfl (lv_at hl 3 rfl) ?_
  refine lv_iadd hx hb dX8_callAt_34 ?_
  refine lv_iload_n hx hb dX8_callAt_35 rfl (lv_at hl 4 rfl) ?_
  obtain ⟨h9, hf⟩ := gd_s hf
  refine ia_st (k := a1) (n := n1) X G hm1 ht1 hn1 (ix_in h9) dX8_callAt_36 (fun s10 es10 H locs G => ?_)
  have hf := nm_s hf s10 es10
  refine lv_aload_n hx hb dX8_callAt_37 rfl (lv_at hl 2 rfl) ?_
  refine lv_bipush (v := (24 : Int32)) hx hb dX8_callAt_38 (by decide) ?_
  refine lv_iload_n hx hb dX8_callAt_40 rfl (lv_at hl 4 rfl) ?_
  refine lv_iadd hx hb dX8_callAt_41 ?_
  refine lv_aload_n hx hb dX8_callAt_42 rfl (lv_at hl 2 rfl) ?_
  refine lv_bipush (v := (39 : Int32)) hx hb dX8_callAt_43 (by decide) ?_
  obtain ⟨h11, hf⟩ := gd_s hf
  refine ia_ld (k := a1) (n := n1) X G hm1 ht1 hn1 (ix_in h11) dX8_callAt_45 ?_
  obtain ⟨h12, hf⟩ := gd_s hf
  refine ia_st (k := a1) (n := n1) X G hm1 ht1 hn1 (ix_in h12) dX8_callAt_46 (fun s13 es13 H locs G => ?_)
  have hf := nm_s hf s13 es13
  refine lv_iload hx hb dX8_callAt_47 (lv_at hl 0 rfl) ?_
  exact rtWi X hlk G hr (so_i hf) dX8_callAt_49
def fX8_burn_B118 (a1 : Nat) (n1 : Nat) (p2 : Int32) (k41 : Int32 → Int32 → St → Option St) (y3 : Int32) (y4 : Int32) (y5 : Int32) (st : St) : Option St := gd (ix ((0 : Int32) + y4) n1) (nm (ui st a1 ((0 : Int32) + y4).toNatClampNeg (if (0 : Int32) < (y5 - y3) then (y5 - y3) else (0 : Int32))) (fun s2 => gd (ix ((0 : Int32) + y4) n1) (if (s2.1 134 3) ≤ (s2.1 a1 ((0 : Int32) + y4).toNatClampNeg) then (nm (y4 + (1 : Int32)) (fun x5 => k41 y3 x5 s2)) else (gd (ix (38 : Int32) n1) (gd (ix (38 : Int32) n1) (nm (ui s2 a1 (38 : Int32).toNatClampNeg ((s2.1 a1 (38 : Int32).toNatClampNeg) ||| ((1 : Int32) <<< (y4 &&& 31)))) (fun s7 => nm (y4 + (1 : Int32)) (fun x8 => k41 y3 x8 s7))))))))
set_option maxRecDepth 100000 in
theorem wX8_burn_B118 {p : Program} {l : Launch} {e : Env} {s : State} {m : MethodId} {args : Array Value} {below : List Frame} {meth : Method} {c : Code} {E : Ev} (hL : ∀ k, fxC k = true → k ∈ eL E) {a1 : Nat} {n1 : Nat} {p2 : Int32} (hm1 : a1 ∈ eL E) (ht1 : ty a1 = 10000 + n1) (hn1 : n1 < 10000) {sz : Nat} {res : St} (X : CX p s m args c E RX8 cX8_burn 6 (Af E sz)) (hr : meth.sig.returnType = none) (hlk : meth.locks = false) {k41 : Int32 → Int32 → St → Option St} (hk41 : ∀ (y3 : Int32) (y4 : Int32) (st : St) (H : Heap) (locs : List Loc), k41 y3 y4 st = some res → Gd E st (Af E sz) s H locs → ∀ ls : Array Slot, lv_has ls 6 [(0, .ref (eq E 50)), (1, .ref (eq E a1)), (3, .int y3), (4, .int y4)] → W p l e (rmk 1) s m args below meth c H locs 0 0 (MQ below (QWv E res sz) args s 0 0 (Af E sz)) (F0 m 41 ls [])) : ∀ (y3 : Int32) (y4 : Int32) (y5 : Int32) (st : St) (H : Heap) (locs : List Loc), fX8_burn_B118 a1 n1 p2 k41 y3 y4 y5 st = some res → Gd E st (Af E sz) s H locs → ∀ ls : Array Slot, lv_has ls 6 [(0, .ref (eq E 50)), (1, .ref (eq E a1)), (3, .int y3), (4, .int y4), (5, .int y5)] → W p l e (rmk 1) s m args below meth c H locs 0 0 (MQ below (QWv E res sz) args s 0 0 (Af E sz)) (F0 m 118 ls []) := by
  have hx := X.1.1
  have hb := X.1.2.1
  intro y3 y4 y5 st H locs hf G ls hl
  unfold fX8_burn_B118 at hf
  refine lv_aload_n hx hb dX8_burn_118 rfl (lv_at hl 1 rfl) ?_
  refine lv_iconst (v := (0 : Int32)) hx hb dX8_burn_119 (by decide) ?_
  refine lv_iload hx hb dX8_burn_120 (lv_at hl 3 rfl) ?_
  refine lv_iadd hx hb dX8_burn_122 ?_
  refine lv_iconst (v := (0 : Int32)) hx hb dX8_burn_123 (by decide) ?_
  refine lv_iload hx hb dX8_burn_124 (lv_at hl 4 rfl) ?_
  refine lv_iload_n hx hb dX8_burn_126 rfl (lv_at hl 2 rfl) ?_
  refine lv_isub hx hb dX8_burn_127 ?_
  refine va_mmax hx hb (X.1.2.2.1.trans hl.1.symm) X.1.2.2.2.1 (X.1.2.2.2.2 _ km_X8_99) (X.1.2.2.2.2 _ ks_Math_max) (X.1.2.2.2.2 _ ki_Math) (X.1.2.2.2.2 _ kd_Math_max) (rmk_1 (by omega)) (rmk_l (by omega) (Nat.le_of_ble_eq_true rfl)) (Nat.zero_le _) (Nat.zero_le _) dX8_burn_128 ?_
  obtain ⟨h1, hf⟩ := gd_s hf
  refine ia_st (k := a1) (n := n1) X G hm1 ht1 hn1 (ix_in h1) dX8_burn_131 (fun s2 es2 H locs G => ?_)
  have hf := nm_s hf s2 es2
  refine lv_aload_n hx hb dX8_burn_132 rfl (lv_at hl 1 rfl) ?_
  refine lv_iconst (v := (0 : Int32)) hx hb dX8_burn_133 (by decide) ?_
  refine lv_iload hx hb dX8_burn_134 (lv_at hl 3 rfl) ?_
  refine lv_iadd hx hb dX8_burn_136 ?_
  obtain ⟨h3, hf⟩ := gd_s hf
  refine ia_ld (k := a1) (n := n1) X G hm1 ht1 hn1 (ix_in h3) dX8_burn_137 ?_
  refine lv_aload_n hx hb dX8_burn_138 rfl (lv_at hl 0 rfl) ?_
  refine gf8 X G (hL 50 rfl) rfl 0 (by decide) rfl kf_X8_23 iwX8 dX8_burn_139 ?_
  refine gf1 X G (hL 134 rfl) rfl 3 (by decide) rfl kf_X8_102 iwX1 dX8_burn_142 ?_
  refine lv_icmp_ge (tgt := 159) hx hb dX8_burn_145 (by decide) (fun c4 => ?_) (fun c4 => ?_)
  · have hf := it_t hf c4
    obtain ⟨x5, ex5⟩ : ∃ y : Int32, y = (y4 + (1 : Int32)) := ⟨_, rfl⟩
    have hf := nm_s hf x5 ex5
    refine lv_iinc (k := 3) (v := x5) (lv' := [(4, .int x5), (0, .ref (eq E 50)), (1, .ref (eq E a1)), (3, .int y3), (5, .int y5)]) hx hb dX8_burn_159 hl rfl (by rw [ex5]; rfl) (by decide) rfl (fun ls hl => ?_)
    refine lv_goto (tgt := 41) hx hb dX8_burn_162 (by decide) ?_
    exact hk41 y3 x5 s2 _ _ hf G _ (lv_sub hl [1, 2, 3, 0] rfl)
  · have hf := it_f hf c4
    refine lv_aload_n hx hb dX8_burn_148 rfl (lv_at hl 1 rfl) ?_
    refine lv_bipush (v := (38 : Int32)) hx hb dX8_burn_149 (by decide) ?_
    refine lv_dup2_11 hx hb dX8_burn_151 rfl rfl ?_
    obtain ⟨h5, hf⟩ := gd_s hf
    refine ia_ld (k := a1) (n := n1) X G hm1 ht1 hn1 (ix_in h5) dX8_burn_152 ?_
    refine lv_iconst (v := (1 : Int32)) hx hb dX8_burn_153 (by decide) ?_
    refine lv_iload hx hb dX8_burn_154 (lv_at hl 3 rfl) ?_
    refine lv_ishl hx hb dX8_burn_156 ?_
    refine lv_ior hx hb dX8_burn_157 ?_
    obtain ⟨h6, hf⟩ := gd_s hf
    refine ia_st (k := a1) (n := n1) X G hm1 ht1 hn1 (ix_in h6) dX8_burn_158 (fun s7 es7 H locs G => ?_)
    have hf := nm_s hf s7 es7
    obtain ⟨x8, ex8⟩ : ∃ y : Int32, y = (y4 + (1 : Int32)) := ⟨_, rfl⟩
    have hf := nm_s hf x8 ex8
    refine lv_iinc (k := 3) (v := x8) (lv' := [(4, .int x8), (0, .ref (eq E 50)), (1, .ref (eq E a1)), (3, .int y3), (5, .int y5)]) hx hb dX8_burn_159 hl rfl (by rw [ex8]; rfl) (by decide) rfl (fun ls hl => ?_)
    refine lv_goto (tgt := 41) hx hb dX8_burn_162 (by decide) ?_
    exact hk41 y3 x8 s7 _ _ hf G _ (lv_sub hl [1, 2, 3, 0] rfl)
def fX8_burn_L41 (a1 : Nat) (n1 : Nat) (p2 : Int32) : Nat → Int32 → Int32 → St → Option St
  | 0, _, _, _ => none
  | n + 1, y3, y4, st => if (st.1 134 4) ≤ y4 then (gd (ix (39 : Int32) n1) (gd (ix (39 : Int32) n1) (nm (ui st a1 (39 : Int32).toNatClampNeg ((st.1 a1 (39 : Int32).toNatClampNeg) + (1 : Int32))) (fun s4 => some s4)))) else (gd (ix (38 : Int32) n1) (if (((st.1 a1 (38 : Int32).toNatClampNeg) >>> (y4 &&& 31)) &&& (1 : Int32)) = 0 then (gd (ix ((0 : Int32) + y4) n1) (nm (st.1 a1 ((0 : Int32) + y4).toNatClampNeg) (fun x5 => gd (ix ((8 : Int32) + y4) n1) (if (st.1 a1 ((8 : Int32) + y4).toNatClampNeg) ≤ 0 then (fX8_burn_B118 a1 n1 p2 (fX8_burn_L41 a1 n1 p2 n) y3 y4 x5 st) else (gd (ix ((8 : Int32) + y4) n1) (gd (ix ((8 : Int32) + y4) n1) (nm (ui st a1 ((8 : Int32) + y4).toNatClampNeg ((st.1 a1 ((8 : Int32) + y4).toNatClampNeg) - (1 : Int32))) (fun s10 => gd (ix y4 8) (nm (if (x5 + (s10.1 143 y4.toNatClampNeg)) < (999 : Int32) then (x5 + (s10.1 143 y4.toNatClampNeg)) else (999 : Int32)) (fun x12 => fX8_burn_B118 a1 n1 p2 (fX8_burn_L41 a1 n1 p2 n) y3 y4 x12 s10)))))))))) else (nm (y4 + (1 : Int32)) (fun x4 => (fX8_burn_L41 a1 n1 p2 n) y3 x4 st))))
set_option maxRecDepth 100000 in
theorem wX8_burn_L41 {p : Program} {l : Launch} {e : Env} {s : State} {m : MethodId} {args : Array Value} {below : List Frame} {meth : Method} {c : Code} {E : Ev} (hL : ∀ k, fxC k = true → k ∈ eL E) {a1 : Nat} {n1 : Nat} {p2 : Int32} (hm1 : a1 ∈ eL E) (ht1 : ty a1 = 10000 + n1) (hn1 : n1 < 10000) {sz : Nat} {res : St} (X : CX p s m args c E RX8 cX8_burn 6 (Af E sz)) (hr : meth.sig.returnType = none) (hlk : meth.locks = false) : ∀ (n : Nat) (y3 : Int32) (y4 : Int32) (st : St) (H : Heap) (locs : List Loc), fX8_burn_L41 a1 n1 p2  n y3 y4 st = some res → Gd E st (Af E sz) s H locs → ∀ ls : Array Slot, lv_has ls 6 [(0, .ref (eq E 50)), (1, .ref (eq E a1)), (3, .int y3), (4, .int y4)] → W p l e (rmk 1) s m args below meth c H locs 0 0 (MQ below (QWv E res sz) args s 0 0 (Af E sz)) (F0 m 41 ls []) := by
  have hx := X.1.1
  have hb := X.1.2.1
  intro n
  induction n with
  | zero =>
    intro y3 y4 st H locs hf G ls hl
    cases (show (none : Option St) = some res from hf)
  | succ n ih =>
    intro y3 y4 st H locs hf G ls hl
    rw [fX8_burn_L41] at hf
    refine lv_iload hx hb dX8_burn_41 (lv_at hl 3 rfl) ?_
    refine lv_aload_n hx hb dX8_burn_43 rfl (lv_at hl 0 rfl) ?_
    refine gf8 X G (hL 50 rfl) rfl 0 (by decide) rfl kf_X8_23 iwX8 dX8_burn_44 ?_
    refine gf1 X G (hL 134 rfl) rfl 4 (by decide) rfl kf_X8_45 iwX1 dX8_burn_47 ?_
    refine lv_icmp_ge (tgt := 165) hx hb dX8_burn_50 (by decide) (fun c1 => ?_) (fun c1 => ?_)
    · have hf := it_t hf c1
      refine lv_aload_n hx hb dX8_burn_165 rfl (lv_at hl 1 rfl) ?_
      refine lv_bipush (v := (39 : Int32)) hx hb dX8_burn_166 (by decide) ?_
      refine lv_dup2_11 hx hb dX8_burn_168 rfl rfl ?_
      obtain ⟨h2, hf⟩ := gd_s hf
      refine ia_ld (k := a1) (n := n1) X G hm1 ht1 hn1 (ix_in h2) dX8_burn_169 ?_
      refine lv_iconst (v := (1 : Int32)) hx hb dX8_burn_170 (by decide) ?_
      refine lv_iadd hx hb dX8_burn_171 ?_
      obtain ⟨h3, hf⟩ := gd_s hf
      refine ia_st (k := a1) (n := n1) X G hm1 ht1 hn1 (ix_in h3) dX8_burn_172 (fun s4 es4 H locs G => ?_)
      have hf := nm_s hf s4 es4
      exact rtWv X hlk G hr (so_i hf) dX8_burn_173
    · have hf := it_f hf c1
      refine lv_aload_n hx hb dX8_burn_53 rfl (lv_at hl 1 rfl) ?_
      refine lv_bipush (v := (38 : Int32)) hx hb dX8_burn_54 (by decide) ?_
      obtain ⟨h2, hf⟩ := gd_s hf
      refine ia_ld (k := a1) (n := n1) X G hm1 ht1 hn1 (ix_in h2) dX8_burn_56 ?_
      refine lv_iload hx hb dX8_burn_57 (lv_at hl 3 rfl) ?_
      refine lv_ishr hx hb dX8_burn_59 ?_
      refine lv_iconst (v := (1 : Int32)) hx hb dX8_burn_60 (by decide) ?_
      refine lv_iand hx hb dX8_burn_61 ?_
      refine lv_if_eq (tgt := 68) hx hb dX8_burn_62 (by decide) (fun c3 => ?_) (fun c3 => ?_)
      · have hf := it_t hf c3
        refine lv_aload_n hx hb dX8_burn_68 rfl (lv_at hl 1 rfl) ?_
        refine lv_iconst (v := (0 : Int32)) hx hb dX8_burn_69 (by decide) ?_
        refine lv_iload hx hb dX8_burn_70 (lv_at hl 3 rfl) ?_
        refine lv_iadd hx hb dX8_burn_72 ?_
        obtain ⟨h4, hf⟩ := gd_s hf
        refine ia_ld (k := a1) (n := n1) X G hm1 ht1 hn1 (ix_in h4) dX8_burn_73 ?_
        refine lv_topi (fun x5 ex5 => ?_)
        have hf := nm_s hf x5 ex5
        refine lv_istore (lv' := [(5, .int x5), (0, .ref (eq E 50)), (1, .ref (eq E a1)), (3, .int y3), (4, .int y4)]) hx hb dX8_burn_74 hl (by decide) rfl (fun ls hl => ?_)
        refine lv_aload_n hx hb dX8_burn_76 rfl (lv_at hl 2 rfl) ?_
        refine lv_bipush (v := (8 : Int32)) hx hb dX8_burn_77 (by decide) ?_
        refine lv_iload hx hb dX8_burn_79 (lv_at hl 4 rfl) ?_
        refine lv_iadd hx hb dX8_burn_81 ?_
        obtain ⟨h6, hf⟩ := gd_s hf
        refine ia_ld (k := a1) (n := n1) X G hm1 ht1 hn1 (ix_in h6) dX8_burn_82 ?_
        refine lv_if_le (tgt := 118) hx hb dX8_burn_83 (by decide) (fun c7 => ?_) (fun c7 => ?_)
        · have hf := it_t hf c7
          exact wX8_burn_B118 hL hm1 ht1 hn1 X hr hlk ih y3 y4 x5 st _ _ hf G _ (lv_sub hl [1, 2, 3, 4, 0] rfl)
        · have hf := it_f hf c7
          refine lv_aload_n hx hb dX8_burn_86 rfl (lv_at hl 2 rfl) ?_
          refine lv_bipush (v := (8 : Int32)) hx hb dX8_burn_87 (by decide) ?_
          refine lv_iload hx hb dX8_burn_89 (lv_at hl 4 rfl) ?_
          refine lv_iadd hx hb dX8_burn_91 ?_
          refine lv_dup2_11 hx hb dX8_burn_92 rfl rfl ?_
          obtain ⟨h8, hf⟩ := gd_s hf
          refine ia_ld (k := a1) (n := n1) X G hm1 ht1 hn1 (ix_in h8) dX8_burn_93 ?_
          refine lv_iconst (v := (1 : Int32)) hx hb dX8_burn_94 (by decide) ?_
          refine lv_isub hx hb dX8_burn_95 ?_
          obtain ⟨h9, hf⟩ := gd_s hf
          refine ia_st (k := a1) (n := n1) X G hm1 ht1 hn1 (ix_in h9) dX8_burn_96 (fun s10 es10 H locs G => ?_)
          have hf := nm_s hf s10 es10
          refine lv_sipush (v := (999 : Int32)) hx hb dX8_burn_97 (by decide) ?_
          refine lv_iload hx hb dX8_burn_100 (lv_at hl 0 rfl) ?_
          refine lv_aload_n hx hb dX8_burn_102 rfl (lv_at hl 1 rfl) ?_
          refine gf8 X G (hL 50 rfl) rfl 0 (by decide) rfl kf_X8_23 iwX8 dX8_burn_103 ?_
          refine gf1 X G (hL 134 rfl) rfl 8 (by decide) rfl kf_X8_81 iwX1 dX8_burn_106 ?_
          refine lv_iload hx hb dX8_burn_109 (lv_at hl 4 rfl) ?_
          obtain ⟨h11, hf⟩ := gd_s hf
          refine ia_ld (k := 143) (n := 8) X G (hL 143 rfl) rfl (by decide) (ix_in h11) dX8_burn_111 ?_
          refine lv_iadd hx hb dX8_burn_112 ?_
          refine va_mmin hx hb (X.1.2.2.1.trans hl.1.symm) X.1.2.2.2.1 (X.1.2.2.2.2 _ km_X8_75) (X.1.2.2.2.2 _ ks_Math_min) (X.1.2.2.2.2 _ ki_Math) (X.1.2.2.2.2 _ kd_Math_min) (rmk_1 (by omega)) (rmk_l (by omega) (Nat.le_of_ble_eq_true rfl)) (Nat.zero_le _) (Nat.zero_le _) dX8_burn_113 ?_
          refine lv_topi (fun x12 ex12 => ?_)
          have hf := nm_s hf x12 ex12
          refine lv_istore (lv' := [(5, .int x12), (0, .ref (eq E 50)), (1, .ref (eq E a1)), (3, .int y3), (4, .int y4)]) hx hb dX8_burn_116 hl (by decide) rfl (fun ls hl => ?_)
          exact wX8_burn_B118 hL hm1 ht1 hn1 X hr hlk ih y3 y4 x12 s10 _ _ hf G _ (lv_sub hl [1, 2, 3, 4, 0] rfl)
      · have hf := it_f hf c3
        refine lv_goto (tgt := 159) hx hb dX8_burn_65 (by decide) ?_
        obtain ⟨x4, ex4⟩ : ∃ y : Int32, y = (y4 + (1 : Int32)) := ⟨_, rfl⟩
        have hf := nm_s hf x4 ex4
        refine lv_iinc (k := 3) (v := x4) (lv' := [(4, .int x4), (0, .ref (eq E 50)), (1, .ref (eq E a1)), (3, .int y3)]) hx hb dX8_burn_159 hl rfl (by rw [ex4]; rfl) (by decide) rfl (fun ls hl => ?_)
        refine lv_goto (tgt := 41) hx hb dX8_burn_162 (by decide) ?_
        exact ih y3 x4 st _ _ hf G _ (lv_sub hl [1, 2, 3, 0] rfl)
def fX8_burn_B18 (a1 : Nat) (n1 : Nat) (p2 : Int32) (st : St) : Option St := nm ((2 : Int32) * (st.1 134 2)) (fun x1 => fX8_burn_L41 a1 n1 p2 10000 x1 (0 : Int32) st)
set_option maxRecDepth 100000 in
theorem wX8_burn_B18 {p : Program} {l : Launch} {e : Env} {s : State} {m : MethodId} {args : Array Value} {below : List Frame} {meth : Method} {c : Code} {E : Ev} (hL : ∀ k, fxC k = true → k ∈ eL E) {a1 : Nat} {n1 : Nat} {p2 : Int32} (hm1 : a1 ∈ eL E) (ht1 : ty a1 = 10000 + n1) (hn1 : n1 < 10000) {sz : Nat} {res : St} (X : CX p s m args c E RX8 cX8_burn 6 (Af E sz)) (hr : meth.sig.returnType = none) (hlk : meth.locks = false) : ∀  (st : St) (H : Heap) (locs : List Loc), fX8_burn_B18 a1 n1 p2   st = some res → Gd E st (Af E sz) s H locs → ∀ ls : Array Slot, lv_has ls 6 [(0, .ref (eq E 50)), (1, .ref (eq E a1))] → W p l e (rmk 1) s m args below meth c H locs 0 0 (MQ below (QWv E res sz) args s 0 0 (Af E sz)) (F0 m 18 ls []) := by
  have hx := X.1.1
  have hb := X.1.2.1
  intro  st H locs hf G ls hl
  unfold fX8_burn_B18 at hf
  refine lv_iconst (v := (2 : Int32)) hx hb dX8_burn_18 (by decide) ?_
  refine lv_aload_n hx hb dX8_burn_19 rfl (lv_at hl 0 rfl) ?_
  refine gf8 X G (hL 50 rfl) rfl 0 (by decide) rfl kf_X8_23 iwX8 dX8_burn_20 ?_
  refine gf1 X G (hL 134 rfl) rfl 2 (by decide) rfl kf_X8_96 iwX1 dX8_burn_23 ?_
  refine lv_imul hx hb dX8_burn_26 ?_
  refine lv_goto (tgt := 37) hx hb dX8_burn_27 (by decide) ?_
  refine lv_topi (fun x1 ex1 => ?_)
  have hf := nm_s hf x1 ex1
  refine lv_istore_n (lv' := [(3, .int x1), (0, .ref (eq E 50)), (1, .ref (eq E a1))]) hx hb dX8_burn_37 rfl hl (by decide) rfl (fun ls hl => ?_)
  refine lv_iconst (v := (0 : Int32)) hx hb dX8_burn_38 (by decide) ?_
  refine lv_istore (lv' := [(4, .int (0 : Int32)), (3, .int x1), (0, .ref (eq E 50)), (1, .ref (eq E a1))]) hx hb dX8_burn_39 hl (by decide) rfl (fun ls hl => ?_)
  exact wX8_burn_L41 hL hm1 ht1 hn1 X hr hlk 10000 x1 (0 : Int32) st _ _ hf G _ (lv_sub hl [2, 3, 1, 0] rfl)
def fX8_burn (a1 : Nat) (n1 : Nat) (p2 : Int32) (st : St) : Option St := if p2 = 0 then (gd (ix (39 : Int32) n1) (br (fX1_hasSnow 134 st (st.1 a1 (39 : Int32).toNatClampNeg)) (fun x4 => if x4 = 0 then (nm (st.1 134 2) (fun x6 => fX8_burn_L41 a1 n1 p2 10000 x6 (0 : Int32) st)) else (fX8_burn_B18 a1 n1 p2 st)))) else (fX8_burn_B18 a1 n1 p2 st)
set_option maxRecDepth 100000 in
theorem tX8_burn (l : Launch) (E : Ev) (st : St) (sz : Nat) (hL : ∀ k, fxC k = true → k ∈ eL E) {a1 : Nat} {n1 : Nat} (hm1 : a1 ∈ eL E) (ht1 : ty a1 = 10000 + n1) (hn1 : n1 < 10000) (p2 : Int32) {res : St} (hf : fX8_burn a1 n1 p2 st = some res) : Met l yX8_burn (.code yX8_burn cX8_burn 6 none :: uW) (rmk 1) (va_Pc [.ref (eq E 50), .ref (eq E a1), .int p2] (Pre E st sz)) (QWv E res sz) 0 0 (Af E sz) := by
  refine Met_in (by decide) (Nat.le_of_ble_eq_true rfl) ?_
  intro p e s m below meth c X hr hlk hz G ls hl
  have hx := X.1.1
  have hb := X.1.2.1
  have hl : lv_has ls 6 [(0, .ref (eq E 50)), (1, .ref (eq E a1)), (2, .int p2)] := hl
  unfold fX8_burn at hf
  refine lv_iload_n hx hb dX8_burn_0 rfl (lv_at hl 2 rfl) ?_
  refine lv_if_ne (tgt := 18) hx hb dX8_burn_1 (by decide) (fun c1 => ?_) (fun c1 => ?_)
  · have hf := it_f hf c1
    exact wX8_burn_B18 hL hm1 ht1 hn1 X hr hlk st _ _ hf G _ (lv_sub hl [0, 1] rfl)
  · have hf := it_t hf c1
    refine lv_aload_n hx hb dX8_burn_4 rfl (lv_at hl 0 rfl) ?_
    refine gf8 X G (hL 50 rfl) rfl 0 (by decide) rfl kf_X8_23 iwX8 dX8_burn_5 ?_
    refine lv_aload_n hx hb dX8_burn_8 rfl (lv_at hl 1 rfl) ?_
    refine lv_bipush (v := (39 : Int32)) hx hb dX8_burn_9 (by decide) ?_
    obtain ⟨h2, hf⟩ := gd_s hf
    refine ia_ld (k := a1) (n := n1) X G hm1 ht1 hn1 (ix_in h2) dX8_burn_11 ?_
    obtain ⟨x4, h3, hf⟩ := br_s hf
    refine cVRi (As := [.int (st.1 a1 (39 : Int32).toNatClampNeg)]) (rest := []) X G kc_X8_92 (tX1_hasSnow l E st _ hL (ok_134 hL) (st.1 a1 (39 : Int32).toNatClampNeg) h3) (rcv X G (hL 134 rfl) (cO1 rfl) rfl) rfl rfl (rmk_le (by omega) (by decide)) rfl hl.1 rfl (Nat.le_of_ble_eq_true rfl) dX8_burn_12 ⟨Nat.zero_le _, Nat.zero_le _⟩ ?_
    refine lv_if_eq (tgt := 30) hx hb dX8_burn_15 (by decide) (fun c5 => ?_) (fun c5 => ?_)
    · have hf := it_t hf c5
      refine lv_aload_n hx hb dX8_burn_30 rfl (lv_at hl 0 rfl) ?_
      refine gf8 X G (hL 50 rfl) rfl 0 (by decide) rfl kf_X8_23 iwX8 dX8_burn_31 ?_
      refine gf1 X G (hL 134 rfl) rfl 2 (by decide) rfl kf_X8_96 iwX1 dX8_burn_34 ?_
      refine lv_topi (fun x6 ex6 => ?_)
      have hf := nm_s hf x6 ex6
      refine lv_istore_n (lv' := [(3, .int x6), (0, .ref (eq E 50)), (1, .ref (eq E a1)), (2, .int p2)]) hx hb dX8_burn_37 rfl hl (by decide) rfl (fun ls hl => ?_)
      refine lv_iconst (v := (0 : Int32)) hx hb dX8_burn_38 (by decide) ?_
      refine lv_istore (lv' := [(4, .int (0 : Int32)), (3, .int x6), (0, .ref (eq E 50)), (1, .ref (eq E a1)), (2, .int p2)]) hx hb dX8_burn_39 hl (by decide) rfl (fun ls hl => ?_)
      exact wX8_burn_L41 hL hm1 ht1 hn1 X hr hlk 10000 x6 (0 : Int32) st _ _ hf G _ (lv_sub hl [2, 3, 1, 0] rfl)
    · have hf := it_f hf c5
      exact wX8_burn_B18 hL hm1 ht1 hn1 X hr hlk st _ _ hf G _ (lv_sub hl [0, 1] rfl)
def fX3_goOn_L38 (g : Int32 → St → Option St) (p1 : Int32) : Nat → Int32 → St → Option St
  | 0, _, _ => none
  | n + 1, y4, st => if (st.1 134 4) ≤ y4 then (some st) else (br (fX8_canCall (63 + 9 + p1.toNatClampNeg) 41 st (st.1 60 6) y4) (fun x3 => if x3 = 0 then (nm (y4 + (1 : Int32)) (fun x5 => (fX3_goOn_L38 g p1 n) x5 st)) else (nm (ur st (63 + 9 + (p1 + (1 : Int32)).toNatClampNeg) (va_cpy (st.1 (63 + 9 + p1.toNatClampNeg)) (st.1 (63 + 9 + (p1 + (1 : Int32)).toNatClampNeg)) 0 0 41)) (fun s5 => gd (ix p1 5) (bw (fX8_callAt (63 + 9 + (p1 + (1 : Int32)).toNatClampNeg) 41 (s5.1 60 6) y4 s5) (fun x9 s8 => gd (ix (p1 + (1 : Int32)) 5) (nm (ui s8 64 (p1 + (1 : Int32)).toNatClampNeg ((s5.1 64 p1.toNatClampNeg) + x9)) (fun s11 => br (fX8_burn (63 + 9 + (p1 + (1 : Int32)).toNatClampNeg) 41 (0 : Int32) s11) (fun s13 => gd (ix p1 4) (nm (ui s13 65 p1.toNatClampNeg y4) (fun s15 => br (g (p1 + (1 : Int32)) s15) (fun s17 => nm (y4 + (1 : Int32)) (fun x18 => (fX3_goOn_L38 g p1 n) x18 s17)))))))))))))
set_option maxRecDepth 100000 in
theorem wX3_goOn_L38 {kg : Nat} {p : Program} {l : Launch} {e : Env} {s : State} {m : MethodId} {args : Array Value} {below : List Frame} {meth : Method} {c : Code} {E : Ev} (hL : ∀ k, fxC k = true → k ∈ eL E) {g : Int32 → St → Option St} {p1 : Int32} (hg : ∀ (st : St) (sz : Nat) (p1 : Int32) (res : St), g p1 st = some res → Met l yX3_goOn (.code yX3_goOn cX3_goOn 5 none :: uW) (rmk kg) (va_Pc [.ref (eq E 60), .int p1] (Pre E st sz)) (QWv E res sz) 0 0 (Af E sz)) {sz : Nat} {res : St} (X : CX p s m args c E RX3 cX3_goOn 5 (Af E sz)) (hr : meth.sig.returnType = none) (hlk : meth.locks = false) (h3 : ix p1 5 = true) (h4 : ix (p1 + (1 : Int32)) 5 = true) : ∀ (n : Nat) (y4 : Int32) (st : St) (H : Heap) (locs : List Loc), fX3_goOn_L38 g p1  n y4 st = some res → Gd E st (Af E sz) s H locs → ∀ ls : Array Slot, lv_has ls 5 [(0, .ref (eq E 60)), (1, .int p1), (2, .ref (eq E (63 + 9 + p1.toNatClampNeg))), (3, .ref (eq E (63 + 9 + (p1 + (1 : Int32)).toNatClampNeg))), (4, .int y4)] → W p l e (rmk (kg + 8)) s m args below meth c H locs 0 0 (MQ below (QWv E res sz) args s 0 0 (Af E sz)) (F0 m 38 ls []) := by
  have hx := X.1.1
  have hb := X.1.2.1
  intro n
  induction n with
  | zero =>
    intro y4 st H locs hf G ls hl
    cases (show (none : Option St) = some res from hf)
  | succ n ih =>
    intro y4 st H locs hf G ls hl
    rw [fX3_goOn_L38] at hf
    refine lv_iload hx hb dX3_goOn_38 (lv_at hl 4 rfl) ?_
    refine lv_aload_n hx hb dX3_goOn_40 rfl (lv_at hl 0 rfl) ?_
    refine gf3 X G (hL 60 rfl) rfl 0 (by decide) rfl kf_X3_42 iwX3 dX3_goOn_41 ?_
    refine gf1 X G (hL 134 rfl) rfl 4 (by decide) rfl kf_X3_69 iwX1 dX3_goOn_44 ?_
    refine lv_icmp_ge (tgt := 138) hx hb dX3_goOn_47 (by decide) (fun c1 => ?_) (fun c1 => ?_)
    · have hf := it_t hf c1
      exact rtWv X hlk G hr (so_i hf) dX3_goOn_138
    · have hf := it_f hf c1
      refine lv_aload_n hx hb dX3_goOn_50 rfl (lv_at hl 0 rfl) ?_
      refine gf3 X G (hL 60 rfl) rfl 1 (by decide) rfl kf_X3_46 iwX3 dX3_goOn_51 ?_
      refine lv_aload_n hx hb dX3_goOn_54 rfl (lv_at hl 2 rfl) ?_
      refine lv_aload_n hx hb dX3_goOn_55 rfl (lv_at hl 0 rfl) ?_
      refine gf3 X G (hL 60 rfl) rfl 6 (by decide) rfl kf_X3_27 iwX3 dX3_goOn_56 ?_
      refine lv_iload hx hb dX3_goOn_59 (lv_at hl 4 rfl) ?_
      obtain ⟨x3, h2, hf⟩ := br_s hf
      refine cVRi (As := [.ref (eq E (63 + 9 + p1.toNatClampNeg)), .int (st.1 60 6), .int y4]) (rest := []) X G kc_X3_74 (tX8_canCall l E st _ hL (hL _ (row_fx h3)) (row_ty h3) (by decide) (st.1 60 6) y4 h2) (rcv X G (hL 50 rfl) (cO8 rfl) rfl) rfl rfl (rmk_le (by omega) (by decide)) rfl hl.1 rfl (Nat.le_of_ble_eq_true rfl) dX3_goOn_61 ⟨Nat.zero_le _, Nat.zero_le _⟩ ?_
      refine lv_if_ne (tgt := 70) hx hb dX3_goOn_64 (by decide) (fun c4 => ?_) (fun c4 => ?_)
      · have hf := it_f hf c4
        refine lv_aload_n hx hb dX3_goOn_70 rfl (lv_at hl 2 rfl) ?_
        refine lv_iconst (v := (0 : Int32)) hx hb dX3_goOn_71 (by decide) ?_
        refine lv_aload_n hx hb dX3_goOn_72 rfl (lv_at hl 3 rfl) ?_
        refine lv_iconst (v := (0 : Int32)) hx hb dX3_goOn_73 (by decide) ?_
        refine lv_bipush (v := (41 : Int32)) hx hb dX3_goOn_74 (by decide) ?_
        refine a_copyc (k0 := (63 + 9 + p1.toNatClampNeg)) (n0 := 41) (k1 := (63 + 9 + (p1 + (1 : Int32)).toNatClampNeg)) (n1 := 41) X G hl.1 (hL _ (row_fx h3)) (hL _ (row_fx h4)) (row_ty h3) (by decide) (row_ty h4) (by decide) km_X3_50 kn_acopy ks_acopy ki_System 0 0 41 (by decide) (rmk_1 (by omega)) (rmk_l (by omega) (Nat.le_of_ble_eq_true rfl)) dX3_goOn_76 (fun s5 es5 H locs G => ?_)
        have hf := nm_s hf s5 es5
        refine lv_aload_n hx hb dX3_goOn_79 rfl (lv_at hl 0 rfl) ?_
        refine gf3 X G (hL 60 rfl) rfl 3 (by decide) rfl kf_X3_16 iwX3 dX3_goOn_80 ?_
        refine lv_iload_n hx hb dX3_goOn_83 rfl (lv_at hl 1 rfl) ?_
        refine lv_iconst (v := (1 : Int32)) hx hb dX3_goOn_84 (by decide) ?_
        refine lv_iadd hx hb dX3_goOn_85 ?_
        refine lv_aload_n hx hb dX3_goOn_86 rfl (lv_at hl 0 rfl) ?_
        refine gf3 X G (hL 60 rfl) rfl 3 (by decide) rfl kf_X3_16 iwX3 dX3_goOn_87 ?_
        refine lv_iload_n hx hb dX3_goOn_90 rfl (lv_at hl 1 rfl) ?_
        obtain ⟨h6, hf⟩ := gd_s hf
        refine ia_ld (k := 64) (n := 5) X G (hL 64 rfl) rfl (by decide) (ix_in h6) dX3_goOn_91 ?_
        refine lv_aload_n hx hb dX3_goOn_92 rfl (lv_at hl 0 rfl) ?_
        refine gf3 X G (hL 60 rfl) rfl 1 (by decide) rfl kf_X3_46 iwX3 dX3_goOn_93 ?_
        refine lv_aload_n hx hb dX3_goOn_96 rfl (lv_at hl 3 rfl) ?_
        refine lv_aload_n hx hb dX3_goOn_97 rfl (lv_at hl 0 rfl) ?_
        refine gf3 X G (hL 60 rfl) rfl 6 (by decide) rfl kf_X3_27 iwX3 dX3_goOn_98 ?_
        refine lv_iload hx hb dX3_goOn_101 (lv_at hl 4 rfl) ?_
        obtain ⟨x9, s8, h7, hf⟩ := bw_s hf
        refine cVWi (As := [.ref (eq E (63 + 9 + (p1 + (1 : Int32)).toNatClampNeg)), .int (s5.1 60 6), .int y4]) (rest := [.int (s5.1 64 p1.toNatClampNeg), .int (p1 + (1 : Int32)), .ref (eq E 64)]) X G kc_X3_78 (tX8_callAt l E s5 _ hL (hL _ (row_fx h4)) (row_ty h4) (by decide) (s5.1 60 6) y4 h7) (rcv X G (hL 50 rfl) (cO8 rfl) rfl) rfl rfl (rmk_le (by omega) (by decide)) rfl hl.1 rfl (Nat.le_of_ble_eq_true rfl) dX3_goOn_103 ⟨Nat.zero_le _, Nat.zero_le _⟩ (fun H locs G => ?_)
        refine lv_iadd hx hb dX3_goOn_106 ?_
        obtain ⟨h10, hf⟩ := gd_s hf
        refine ia_st (k := 64) (n := 5) X G (hL 64 rfl) rfl (by decide) (ix_in h10) dX3_goOn_107 (fun s11 es11 H locs G => ?_)
        have hf := nm_s hf s11 es11
        refine lv_aload_n hx hb dX3_goOn_108 rfl (lv_at hl 0 rfl) ?_
        refine gf3 X G (hL 60 rfl) rfl 1 (by decide) rfl kf_X3_46 iwX3 dX3_goOn_109 ?_
        refine lv_aload_n hx hb dX3_goOn_112 rfl (lv_at hl 3 rfl) ?_
        refine lv_iconst (v := (0 : Int32)) hx hb dX3_goOn_113 (by decide) ?_
        obtain ⟨s13, h12, hf⟩ := br_s hf
        refine cVWv (As := [.ref (eq E (63 + 9 + (p1 + (1 : Int32)).toNatClampNeg)), .int (0 : Int32)]) (rest := []) X G kc_X3_82 (tX8_burn l E s11 _ hL (hL _ (row_fx h4)) (row_ty h4) (by decide) (0 : Int32) h12) (rcv X G (hL 50 rfl) (cO8 rfl) rfl) rfl rfl (rmk_le (by omega) (by decide)) rfl hl.1 rfl (Nat.le_of_ble_eq_true rfl) dX3_goOn_114 ⟨Nat.zero_le _, Nat.zero_le _⟩ (fun H locs G => ?_)
        refine lv_aload_n hx hb dX3_goOn_117 rfl (lv_at hl 0 rfl) ?_
        refine gf3 X G (hL 60 rfl) rfl 4 (by decide) rfl kf_X3_20 iwX3 dX3_goOn_118 ?_
        refine lv_iload_n hx hb dX3_goOn_121 rfl (lv_at hl 1 rfl) ?_
        refine lv_iload hx hb dX3_goOn_122 (lv_at hl 4 rfl) ?_
        obtain ⟨h14, hf⟩ := gd_s hf
        refine ia_st (k := 65) (n := 4) X G (hL 65 rfl) rfl (by decide) (ix_in h14) dX3_goOn_124 (fun s15 es15 H locs G => ?_)
        have hf := nm_s hf s15 es15
        refine lv_aload_n hx hb dX3_goOn_125 rfl (lv_at hl 0 rfl) ?_
        refine lv_iload_n hx hb dX3_goOn_126 rfl (lv_at hl 1 rfl) ?_
        refine lv_iconst (v := (1 : Int32)) hx hb dX3_goOn_127 (by decide) ?_
        refine lv_iadd hx hb dX3_goOn_128 ?_
        obtain ⟨s17, h16, hf⟩ := br_s hf
        refine cVWv (As := [.int (p1 + (1 : Int32))]) (rest := []) X G kc_X3_62 (hg s15 _  (p1 + (1 : Int32)) _ h16) (rcv X G (hL 60 rfl) (cO3 rfl) rfl) rfl rfl (rmk_le (by omega) (by decide)) rfl hl.1 rfl (Nat.le_of_ble_eq_true rfl) dX3_goOn_129 ⟨Nat.zero_le _, Nat.zero_le _⟩ (fun H locs G => ?_)
        obtain ⟨x18, ex18⟩ : ∃ y : Int32, y = (y4 + (1 : Int32)) := ⟨_, rfl⟩
        have hf := nm_s hf x18 ex18
        refine lv_iinc (k := 4) (v := x18) (lv' := [(4, .int x18), (0, .ref (eq E 60)), (1, .int p1), (2, .ref (eq E (63 + 9 + p1.toNatClampNeg))), (3, .ref (eq E (63 + 9 + (p1 + (1 : Int32)).toNatClampNeg)))]) hx hb dX3_goOn_132 hl rfl (by rw [ex18]; rfl) (by decide) rfl (fun ls hl => ?_)
        refine lv_goto (tgt := 38) hx hb dX3_goOn_135 (by decide) ?_
        exact ih x18 s17 _ _ hf G _ (lv_sub hl [1, 2, 3, 4, 0] rfl)
      · have hf := it_t hf c4
        refine lv_goto (tgt := 132) hx hb dX3_goOn_67 (by decide) ?_
        obtain ⟨x5, ex5⟩ : ∃ y : Int32, y = (y4 + (1 : Int32)) := ⟨_, rfl⟩
        have hf := nm_s hf x5 ex5
        refine lv_iinc (k := 4) (v := x5) (lv' := [(4, .int x5), (0, .ref (eq E 60)), (1, .int p1), (2, .ref (eq E (63 + 9 + p1.toNatClampNeg))), (3, .ref (eq E (63 + 9 + (p1 + (1 : Int32)).toNatClampNeg)))]) hx hb dX3_goOn_132 hl rfl (by rw [ex5]; rfl) (by decide) rfl (fun ls hl => ?_)
        refine lv_goto (tgt := 38) hx hb dX3_goOn_135 (by decide) ?_
        exact ih x5 st _ _ hf G _ (lv_sub hl [1, 2, 3, 4, 0] rfl)
def fX3_goOn_body (g : Int32 → St → Option St) (p1 : Int32) (st : St) : Option St := if (st.1 60 5) ≤ p1 then (br (fX3_weigh p1 st) (fun s3 => some s3)) else (if p1 < (4 : Int32) then (gd (ix p1 5) (gd (ix (p1 + (1 : Int32)) 5) (fX3_goOn_L38 g p1 10000 (0 : Int32) st))) else (br (fX3_weigh p1 st) (fun s4 => some s4)))
set_option maxRecDepth 100000 in
theorem tX3_goOn_body {kg : Nat} (l : Launch) (E : Ev) (st : St) (sz : Nat) (hL : ∀ k, fxC k = true → k ∈ eL E) {g : Int32 → St → Option St} (hg : ∀ (st : St) (sz : Nat) (p1 : Int32) (res : St), g p1 st = some res → Met l yX3_goOn (.code yX3_goOn cX3_goOn 5 none :: uW) (rmk kg) (va_Pc [.ref (eq E 60), .int p1] (Pre E st sz)) (QWv E res sz) 0 0 (Af E sz)) (p1 : Int32) {res : St} (hf : fX3_goOn_body g p1 st = some res) : Met l yX3_goOn (.code yX3_goOn cX3_goOn 5 none :: uW) (rmk (kg + 8)) (va_Pc [.ref (eq E 60), .int p1] (Pre E st sz)) (QWv E res sz) 0 0 (Af E sz) := by
  refine Met_in (by decide) (Nat.le_of_ble_eq_true rfl) ?_
  intro p e s m below meth c X hr hlk hz G ls hl
  have hx := X.1.1
  have hb := X.1.2.1
  have hl : lv_has ls 5 [(0, .ref (eq E 60)), (1, .int p1)] := hl
  unfold fX3_goOn_body at hf
  refine lv_iload_n hx hb dX3_goOn_0 rfl (lv_at hl 1 rfl) ?_
  refine lv_aload_n hx hb dX3_goOn_1 rfl (lv_at hl 0 rfl) ?_
  refine gf3 X G (hL 60 rfl) rfl 5 (by decide) rfl kf_X3_23 iwX3 dX3_goOn_2 ?_
  refine lv_icmp_ge (tgt := 13) hx hb dX3_goOn_5 (by decide) (fun c1 => ?_) (fun c1 => ?_)
  · have hf := it_t hf c1
    refine lv_aload_n hx hb dX3_goOn_13 rfl (lv_at hl 0 rfl) ?_
    refine lv_iload_n hx hb dX3_goOn_14 rfl (lv_at hl 1 rfl) ?_
    obtain ⟨s3, h2, hf⟩ := br_s hf
    refine cVWv (As := [.int p1]) (rest := []) X G kc_X3_66 (tX3_weigh l E st _ hL  p1 h2) (rcv X G (hL 60 rfl) (cO3 rfl) rfl) rfl rfl (rmk_le (by omega) (by decide)) rfl hl.1 rfl (Nat.le_of_ble_eq_true rfl) dX3_goOn_15 ⟨Nat.zero_le _, Nat.zero_le _⟩ (fun H locs G => ?_)
    exact rtWv X hlk G hr (so_i hf) dX3_goOn_18
  · have hf := it_f hf c1
    refine lv_iload_n hx hb dX3_goOn_8 rfl (lv_at hl 1 rfl) ?_
    refine lv_iconst (v := (4 : Int32)) hx hb dX3_goOn_9 (by decide) ?_
    refine lv_icmp_lt (tgt := 19) hx hb dX3_goOn_10 (by decide) (fun c2 => ?_) (fun c2 => ?_)
    · have hf := it_t hf c2
      refine lv_aload_n hx hb dX3_goOn_19 rfl (lv_at hl 0 rfl) ?_
      refine gf3 X G (hL 60 rfl) rfl 2 (by decide) rfl kf_X3_11 iwX3 dX3_goOn_20 ?_
      refine lv_iload_n hx hb dX3_goOn_23 rfl (lv_at hl 1 rfl) ?_
      obtain ⟨h3, hf⟩ := gd_s hf
      refine ii_ld (k := 63) (n := 5) X G (hL 63 rfl) rfl (by decide) (ix_in h3) dX3_goOn_24 ?_
      refine lv_astore_n (lv' := [(2, .ref (eq E (63 + 9 + p1.toNatClampNeg))), (0, .ref (eq E 60)), (1, .int p1)]) hx hb dX3_goOn_25 rfl hl (by decide) rfl (fun ls hl => ?_)
      refine lv_aload_n hx hb dX3_goOn_26 rfl (lv_at hl 1 rfl) ?_
      refine gf3 X G (hL 60 rfl) rfl 2 (by decide) rfl kf_X3_11 iwX3 dX3_goOn_27 ?_
      refine lv_iload_n hx hb dX3_goOn_30 rfl (lv_at hl 2 rfl) ?_
      refine lv_iconst (v := (1 : Int32)) hx hb dX3_goOn_31 (by decide) ?_
      refine lv_iadd hx hb dX3_goOn_32 ?_
      obtain ⟨h4, hf⟩ := gd_s hf
      refine ii_ld (k := 63) (n := 5) X G (hL 63 rfl) rfl (by decide) (ix_in h4) dX3_goOn_33 ?_
      refine lv_astore_n (lv' := [(3, .ref (eq E (63 + 9 + (p1 + (1 : Int32)).toNatClampNeg))), (2, .ref (eq E (63 + 9 + p1.toNatClampNeg))), (0, .ref (eq E 60)), (1, .int p1)]) hx hb dX3_goOn_34 rfl hl (by decide) rfl (fun ls hl => ?_)
      refine lv_iconst (v := (0 : Int32)) hx hb dX3_goOn_35 (by decide) ?_
      refine lv_istore (lv' := [(4, .int (0 : Int32)), (3, .ref (eq E (63 + 9 + (p1 + (1 : Int32)).toNatClampNeg))), (2, .ref (eq E (63 + 9 + p1.toNatClampNeg))), (0, .ref (eq E 60)), (1, .int p1)]) hx hb dX3_goOn_36 hl (by decide) rfl (fun ls hl => ?_)
      exact wX3_goOn_L38 hL hg X hr hlk h3 h4 10000 (0 : Int32) st _ _ hf G _ (lv_sub hl [3, 4, 2, 1, 0] rfl)
    · have hf := it_f hf c2
      refine lv_aload_n hx hb dX3_goOn_13 rfl (lv_at hl 0 rfl) ?_
      refine lv_iload_n hx hb dX3_goOn_14 rfl (lv_at hl 1 rfl) ?_
      obtain ⟨s4, h3, hf⟩ := br_s hf
      refine cVWv (As := [.int p1]) (rest := []) X G kc_X3_66 (tX3_weigh l E st _ hL  p1 h3) (rcv X G (hL 60 rfl) (cO3 rfl) rfl) rfl rfl (rmk_le (by omega) (by decide)) rfl hl.1 rfl (Nat.le_of_ble_eq_true rfl) dX3_goOn_15 ⟨Nat.zero_le _, Nat.zero_le _⟩ (fun H locs G => ?_)
      exact rtWv X hlk G hr (so_i hf) dX3_goOn_18
def fX3_goOn : Nat → Int32 → St → Option St
  | 0, _, _ => none
  | n + 1, p1, st => fX3_goOn_body (fX3_goOn n) p1 st
theorem tX3_goOn (l : Launch) (E : Ev) (hL : ∀ k, fxC k = true → k ∈ eL E) : ∀ (n : Nat) (st : St) (sz : Nat) (p1 : Int32) (res : St), fX3_goOn n p1 st = some res → Met l yX3_goOn (.code yX3_goOn cX3_goOn 5 none :: uW) (rmk (8 * n)) (va_Pc [.ref (eq E 60), .int p1] (Pre E st sz)) (QWv E res sz) 0 0 (Af E sz) := by
  intro n
  induction n with
  | zero => intro st sz p1 res hf; cases (show (none : Option St) = some res from hf)
  | succ n ih =>
    intro st sz p1 res hf
    exact tX3_goOn_body (kg := 8 * n) l E st sz hL ih p1 hf
def fX3_explore (a1 : Nat) (n1 : Nat) (p2 : Int32) (p3 : Int32) (st : St) : Option St := gd (ix (0 : Int32) 5) (gd (cpk (0 : Int32) (0 : Int32) (41 : Int32) n1 41) (nm (ur st (63 + 9 + (0 : Int32).toNatClampNeg) (va_cpy (st.1 a1) (st.1 (63 + 9 + (0 : Int32).toNatClampNeg)) (0 : Int32).toNatClampNeg (0 : Int32).toNatClampNeg (41 : Int32).toNatClampNeg)) (fun s3 => nm (ui s3 64 0 (0 : Int32)) (fun s5 => nm (ui s5 60 5 p3) (fun s6 => nm (ui s6 60 6 p2) (fun s7 => nm (ui s7 60 8 (-1 : Int32)) (fun s8 => nm (ui s8 60 9 (-1 : Int32)) (fun s9 => nm (ui s9 60 10 (-1 : Int32)) (fun s10 => br (fX8_follow (none : Option Nat) s10) (fun s12 => br (fX3_goOn 6 (0 : Int32) s12) (fun s14 => some s14)))))))))))
set_option maxRecDepth 100000 in
theorem tX3_explore (l : Launch) (E : Ev) (st : St) (sz : Nat) (hL : ∀ k, fxC k = true → k ∈ eL E) {a1 : Nat} {n1 : Nat} (hm1 : a1 ∈ eL E) (ht1 : ty a1 = 10000 + n1) (hn1 : n1 < 10000) (p2 : Int32) (p3 : Int32) {res : St} (hf : fX3_explore a1 n1 p2 p3 st = some res) : Met l yX3_explore (.code yX3_explore cX3_explore 4 none :: uW) (rmk 49) (va_Pc [.ref (eq E 60), .ref (eq E a1), .int p2, .int p3] (Pre E st sz)) (QWv E res sz) 0 0 (Af E sz) := by
  refine Met_in (by decide) (Nat.le_of_ble_eq_true rfl) ?_
  intro p e s m below meth c X hr hlk hz G ls hl
  have hx := X.1.1
  have hb := X.1.2.1
  have hl : lv_has ls 4 [(0, .ref (eq E 60)), (1, .ref (eq E a1)), (2, .int p2), (3, .int p3)] := hl
  unfold fX3_explore at hf
  refine lv_aload_n hx hb dX3_explore_0 rfl (lv_at hl 1 rfl) ?_
  refine lv_iconst (v := (0 : Int32)) hx hb dX3_explore_1 (by decide) ?_
  refine lv_aload_n hx hb dX3_explore_2 rfl (lv_at hl 0 rfl) ?_
  refine gf3 X G (hL 60 rfl) rfl 2 (by decide) rfl kf_X3_11 iwX3 dX3_explore_3 ?_
  refine lv_iconst (v := (0 : Int32)) hx hb dX3_explore_6 (by decide) ?_
  obtain ⟨h1, hf⟩ := gd_s hf
  refine ii_ld (k := 63) (n := 5) X G (hL 63 rfl) rfl (by decide) (ix_in h1) dX3_explore_7 ?_
  refine lv_iconst (v := (0 : Int32)) hx hb dX3_explore_8 (by decide) ?_
  refine lv_bipush (v := (41 : Int32)) hx hb dX3_explore_9 (by decide) ?_
  obtain ⟨h2, hf⟩ := gd_s hf
  refine a_copy (k0 := a1) (n0 := n1) (k1 := (63 + 9 + (0 : Int32).toNatClampNeg)) (n1 := 41) X G hl.1 hm1 (hL _ (row_fx h1)) ht1 hn1 (row_ty h1) (by decide) km_X3_50 kn_acopy ks_acopy ki_System (cpk_s h2).1 (cpk_s h2).2.1 (cpk_s h2).2.2.1 (cpk_s h2).2.2.2.1 (cpk_s h2).2.2.2.2 (rmk_1 (by omega)) (rmk_l (by omega) (Nat.le_of_ble_eq_true rfl)) dX3_explore_11 (fun s3 es3 H locs G => ?_)
  have hf := nm_s hf s3 es3
  refine lv_aload_n hx hb dX3_explore_14 rfl (lv_at hl 0 rfl) ?_
  refine gf3 X G (hL 60 rfl) rfl 3 (by decide) rfl kf_X3_16 iwX3 dX3_explore_15 ?_
  refine lv_iconst (v := (0 : Int32)) hx hb dX3_explore_18 (by decide) ?_
  refine lv_iconst (v := (0 : Int32)) hx hb dX3_explore_19 (by decide) ?_
  refine ia_stc (k := 64) (n := 5) X G (hL 64 rfl) rfl (by decide) 0 (by decide) dX3_explore_20 (fun s5 es5 H locs G => ?_)
  have hf := nm_s hf s5 es5
  refine lv_aload_n hx hb dX3_explore_21 rfl (lv_at hl 0 rfl) ?_
  refine lv_iload_n hx hb dX3_explore_22 rfl (lv_at hl 3 rfl) ?_
  refine pf3 X G (hL 60 rfl) rfl 5 (by decide) ps3_5 uio kf_X3_23 iwX3 rfl (ty := .int) (by decide +kernel) rfl rfl dX3_explore_23 (fun s6 es6 H locs G => ?_)
  have hf := nm_s hf s6 es6
  refine lv_aload_n hx hb dX3_explore_26 rfl (lv_at hl 0 rfl) ?_
  refine lv_iload_n hx hb dX3_explore_27 rfl (lv_at hl 2 rfl) ?_
  refine pf3 X G (hL 60 rfl) rfl 6 (by decide) ps3_6 uio kf_X3_27 iwX3 rfl (ty := .int) (by decide +kernel) rfl rfl dX3_explore_28 (fun s7 es7 H locs G => ?_)
  have hf := nm_s hf s7 es7
  refine lv_aload_n hx hb dX3_explore_31 rfl (lv_at hl 0 rfl) ?_
  refine lv_iconst (v := (-1 : Int32)) hx hb dX3_explore_32 (by decide) ?_
  refine pf3 X G (hL 60 rfl) rfl 8 (by decide) ps3_8 uio kf_X3_33 iwX3 rfl (ty := .int) (by decide +kernel) rfl rfl dX3_explore_33 (fun s8 es8 H locs G => ?_)
  have hf := nm_s hf s8 es8
  refine lv_aload_n hx hb dX3_explore_36 rfl (lv_at hl 0 rfl) ?_
  refine lv_iconst (v := (-1 : Int32)) hx hb dX3_explore_37 (by decide) ?_
  refine pf3 X G (hL 60 rfl) rfl 9 (by decide) ps3_9 uio kf_X3_36 iwX3 rfl (ty := .int) (by decide +kernel) rfl rfl dX3_explore_38 (fun s9 es9 H locs G => ?_)
  have hf := nm_s hf s9 es9
  refine lv_aload_n hx hb dX3_explore_41 rfl (lv_at hl 0 rfl) ?_
  refine lv_iconst (v := (-1 : Int32)) hx hb dX3_explore_42 (by decide) ?_
  refine pf3 X G (hL 60 rfl) rfl 10 (by decide) ps3_10 uio kf_X3_39 iwX3 rfl (ty := .int) (by decide +kernel) rfl rfl dX3_explore_43 (fun s10 es10 H locs G => ?_)
  have hf := nm_s hf s10 es10
  refine lv_aload_n hx hb dX3_explore_46 rfl (lv_at hl 0 rfl) ?_
  refine gf3 X G (hL 60 rfl) rfl 1 (by decide) rfl kf_X3_46 iwX3 dX3_explore_47 ?_
  refine lv_null hx hb dX3_explore_50 ?_
  obtain ⟨s12, h11, hf⟩ := br_s hf
  refine cVWv (As := [.null]) (rest := []) X G kc_X3_56 (tX8_follow l E s10 _ hL   h11) (rcv X G (hL 50 rfl) (cO8 rfl) rfl) rfl rfl (rmk_le (by omega) (by decide)) rfl hl.1 rfl (Nat.le_of_ble_eq_true rfl) dX3_explore_51 ⟨Nat.zero_le _, Nat.zero_le _⟩ (fun H locs G => ?_)
  refine lv_aload_n hx hb dX3_explore_54 rfl (lv_at hl 0 rfl) ?_
  refine lv_iconst (v := (0 : Int32)) hx hb dX3_explore_55 (by decide) ?_
  obtain ⟨s14, h13, hf⟩ := br_s hf
  refine cVWv (As := [.int (0 : Int32)]) (rest := []) X G kc_X3_62 (tX3_goOn l E hL 6 s12 _  (0 : Int32) _ h13) (rcv X G (hL 60 rfl) (cO3 rfl) rfl) rfl rfl (rmk_le (by omega) (by decide)) rfl hl.1 rfl (Nat.le_of_ble_eq_true rfl) dX3_explore_56 ⟨Nat.zero_le _, Nat.zero_le _⟩ (fun H locs G => ?_)
  exact rtWv X hlk G hr (so_i hf) dX3_explore_59
def fX4_clear (b : Nat) (st : St) : Option St := nm (ui st b 1 (0 : Int32)) (fun s1 => nm (ui s1 b 5 (0 : Int32)) (fun s2 => some s2))
set_option maxRecDepth 100000 in
theorem tX4_clear (l : Launch) (E : Ev) (st : St) (sz : Nat) (hL : ∀ k, fxC k = true → k ∈ eL E) {b : Nat} (hbs : okR E b)  {res : St} (hf : fX4_clear b  st = some res) : Met l yX4_clear (.code yX4_clear cX4_clear 1 none :: uW) (rmk 0) (va_Pc [.ref (eq E b)] (Pre E st sz)) (QWv E res sz) 0 0 (Af E sz) := by
  refine Met_in (by decide) (Nat.le_of_ble_eq_true rfl) ?_
  intro p e s m below meth c X hr hlk hz G ls hl
  have hx := X.1.1
  have hb := X.1.2.1
  have hl : lv_has ls 1 [(0, .ref (eq E b))] := hl
  unfold fX4_clear at hf
  refine lv_aload_n hx hb dX4_clear_0 rfl (lv_at hl 0 rfl) ?_
  refine lv_iconst (v := (0 : Int32)) hx hb dX4_clear_1 (by decide) ?_
  refine pf4 X G ((hbs 0 (by decide)).2 (by decide)) (hbs 0 (by decide)).1 1 (by decide) ps4_1 uio kf_X4_15 iwX4 rfl (ty := .int) (by decide +kernel) rfl rfl dX4_clear_2 (fun s1 es1 H locs G => ?_)
  have hf := nm_s hf s1 es1
  refine lv_aload_n hx hb dX4_clear_5 rfl (lv_at hl 0 rfl) ?_
  refine lv_iconst (v := (0 : Int32)) hx hb dX4_clear_6 (by decide) ?_
  refine pf4 X G ((hbs 0 (by decide)).2 (by decide)) (hbs 0 (by decide)).1 5 (by decide) ps4_5 uio kf_X4_28 iwX4 rfl (ty := .int) (by decide +kernel) rfl rfl dX4_clear_7 (fun s2 es2 H locs G => ?_)
  have hf := nm_s hf s2 es2
  exact rtWv X hlk G hr (so_i hf) dX4_clear_10
def fX4_put (b : Nat) (p1 : Int32) (st : St) : Option St := if (400 : Int32) ≤ (st.1 b 1) then (some st) else (gd (ix (st.1 b 1) 400) (nm (ui st (b + 1) (st.1 b 1).toNatClampNeg p1) (fun s3 => nm (ui s3 b 1 ((s3.1 b 1) + (1 : Int32))) (fun s4 => some s4))))
set_option maxRecDepth 100000 in
theorem tX4_put (l : Launch) (E : Ev) (st : St) (sz : Nat) (hL : ∀ k, fxC k = true → k ∈ eL E) {b : Nat} (hbs : okR E b) (p1 : Int32) {res : St} (hf : fX4_put b p1 st = some res) : Met l yX4_put (.code yX4_put cX4_put 2 none :: uW) (rmk 0) (va_Pc [.ref (eq E b), .int p1] (Pre E st sz)) (QWv E res sz) 0 0 (Af E sz) := by
  refine Met_in (by decide) (Nat.le_of_ble_eq_true rfl) ?_
  intro p e s m below meth c X hr hlk hz G ls hl
  have hx := X.1.1
  have hb := X.1.2.1
  have hl : lv_has ls 2 [(0, .ref (eq E b)), (1, .int p1)] := hl
  unfold fX4_put at hf
  refine lv_aload_n hx hb dX4_put_0 rfl (lv_at hl 0 rfl) ?_
  refine gf4 X G ((hbs 0 (by decide)).2 (by decide)) (hbs 0 (by decide)).1 1 (by decide) rfl kf_X4_15 iwX4 dX4_put_1 ?_
  refine lv_sipush (v := (400 : Int32)) hx hb dX4_put_4 (by decide) ?_
  refine lv_icmp_ge (tgt := 30) hx hb dX4_put_7 (by decide) (fun c1 => ?_) (fun c1 => ?_)
  · have hf := it_t hf c1
    exact rtWv X hlk G hr (so_i hf) dX4_put_30
  · have hf := it_f hf c1
    refine lv_aload_n hx hb dX4_put_10 rfl (lv_at hl 0 rfl) ?_
    refine gf4 X G ((hbs 0 (by decide)).2 (by decide)) (hbs 0 (by decide)).1 0 (by decide) rfl kf_X4_9 iwX4 dX4_put_11 ?_
    refine lv_aload_n hx hb dX4_put_14 rfl (lv_at hl 0 rfl) ?_
    refine gf4 X G ((hbs 0 (by decide)).2 (by decide)) (hbs 0 (by decide)).1 1 (by decide) rfl kf_X4_15 iwX4 dX4_put_15 ?_
    refine lv_iload_n hx hb dX4_put_18 rfl (lv_at hl 1 rfl) ?_
    obtain ⟨h2, hf⟩ := gd_s hf
    refine ia_st (k := (b + 1)) (n := 400) X G ((hbs 1 (by decide)).2 (by decide)) (hbs 1 (by decide)).1 (by decide) (ix_in h2) dX4_put_19 (fun s3 es3 H locs G => ?_)
    have hf := nm_s hf s3 es3
    refine lv_aload_n hx hb dX4_put_20 rfl (lv_at hl 0 rfl) ?_
    refine lv_dup hx hb dX4_put_21 rfl ?_
    refine gf4 X G ((hbs 0 (by decide)).2 (by decide)) (hbs 0 (by decide)).1 1 (by decide) rfl kf_X4_15 iwX4 dX4_put_22 ?_
    refine lv_iconst (v := (1 : Int32)) hx hb dX4_put_25 (by decide) ?_
    refine lv_iadd hx hb dX4_put_26 ?_
    refine pf4 X G ((hbs 0 (by decide)).2 (by decide)) (hbs 0 (by decide)).1 1 (by decide) ps4_1 uio kf_X4_15 iwX4 rfl (ty := .int) (by decide +kernel) rfl rfl dX4_put_27 (fun s4 es4 H locs G => ?_)
    have hf := nm_s hf s4 es4
    exact rtWv X hlk G hr (so_i hf) dX4_put_30
def fX4_endSum_B39 (b : Nat) (z0 : Int32) (z1 : Int32) (st : St) : Option St := gd (ix z1 12) (nm (ui st (b + 3) z1.toNatClampNeg z0) (fun s2 => gd (ix (s2.1 b 5) 12) (nm (ui s2 (b + 4) (s2.1 b 5).toNatClampNeg (s2.1 b 1)) (fun s4 => some s4))))
set_option maxRecDepth 100000 in
theorem wX4_endSum_B39 {p : Program} {l : Launch} {e : Env} {s : State} {m : MethodId} {args : Array Value} {below : List Frame} {meth : Method} {c : Code} {E : Ev} (hL : ∀ k, fxC k = true → k ∈ eL E) {b : Nat} (hbs : okR E b) {sz : Nat} {res : St} (X : CX p s m args c E RX4 cX4_endSum 1 (Af E sz)) (hr : meth.sig.returnType = none) (hlk : meth.locks = false) : ∀ (z0 : Int32) (z1 : Int32) (st : St) (H : Heap) (locs : List Loc), fX4_endSum_B39 b  z0 z1 st = some res → Gd E st (Af E sz) s H locs → ∀ ls : Array Slot, lv_has ls 1 [(0, .ref (eq E b))] → W p l e (rmk 0) s m args below meth c H locs 0 0 (MQ below (QWv E res sz) args s 0 0 (Af E sz)) (F0 m 39 ls [.int z0, .int z1, .ref (eq E (b + 3))]) := by
  have hx := X.1.1
  have hb := X.1.2.1
  intro z0 z1 st H locs hf G ls hl
  unfold fX4_endSum_B39 at hf
  obtain ⟨h1, hf⟩ := gd_s hf
  refine ia_st (k := (b + 3)) (n := 12) X G ((hbs 3 (by decide)).2 (by decide)) (hbs 3 (by decide)).1 (by decide) (ix_in h1) dX4_endSum_39 (fun s2 es2 H locs G => ?_)
  have hf := nm_s hf s2 es2
  refine lv_aload_n hx hb dX4_endSum_40 rfl (lv_at hl 0 rfl) ?_
  refine gf4 X G ((hbs 0 (by decide)).2 (by decide)) (hbs 0 (by decide)).1 3 (by decide) rfl kf_X4_22 iwX4 dX4_endSum_41 ?_
  refine lv_aload_n hx hb dX4_endSum_44 rfl (lv_at hl 0 rfl) ?_
  refine gf4 X G ((hbs 0 (by decide)).2 (by decide)) (hbs 0 (by decide)).1 5 (by decide) rfl kf_X4_28 iwX4 dX4_endSum_45 ?_
  refine lv_aload_n hx hb dX4_endSum_48 rfl (lv_at hl 0 rfl) ?_
  refine gf4 X G ((hbs 0 (by decide)).2 (by decide)) (hbs 0 (by decide)).1 1 (by decide) rfl kf_X4_15 iwX4 dX4_endSum_49 ?_
  obtain ⟨h3, hf⟩ := gd_s hf
  refine ia_st (k := (b + 4)) (n := 12) X G ((hbs 4 (by decide)).2 (by decide)) (hbs 4 (by decide)).1 (by decide) (ix_in h3) dX4_endSum_52 (fun s4 es4 H locs G => ?_)
  have hf := nm_s hf s4 es4
  exact rtWv X hlk G hr (so_i hf) dX4_endSum_53
def fX4_endSum (b : Nat) (st : St) : Option St := if (12 : Int32) ≤ (st.1 b 5) then (some st) else (if (st.1 b 5) = 0 then (fX4_endSum_B39 b (0 : Int32) (st.1 b 5) st) else (gd (ix ((st.1 b 5) - (1 : Int32)) 12) (fX4_endSum_B39 b (st.1 (b + 5) ((st.1 b 5) - (1 : Int32)).toNatClampNeg) (st.1 b 5) st)))
set_option maxRecDepth 100000 in
theorem tX4_endSum (l : Launch) (E : Ev) (st : St) (sz : Nat) (hL : ∀ k, fxC k = true → k ∈ eL E) {b : Nat} (hbs : okR E b)  {res : St} (hf : fX4_endSum b  st = some res) : Met l yX4_endSum (.code yX4_endSum cX4_endSum 1 none :: uW) (rmk 0) (va_Pc [.ref (eq E b)] (Pre E st sz)) (QWv E res sz) 0 0 (Af E sz) := by
  refine Met_in (by decide) (Nat.le_of_ble_eq_true rfl) ?_
  intro p e s m below meth c X hr hlk hz G ls hl
  have hx := X.1.1
  have hb := X.1.2.1
  have hl : lv_has ls 1 [(0, .ref (eq E b))] := hl
  unfold fX4_endSum at hf
  refine lv_aload_n hx hb dX4_endSum_0 rfl (lv_at hl 0 rfl) ?_
  refine gf4 X G ((hbs 0 (by decide)).2 (by decide)) (hbs 0 (by decide)).1 5 (by decide) rfl kf_X4_28 iwX4 dX4_endSum_1 ?_
  refine lv_bipush (v := (12 : Int32)) hx hb dX4_endSum_4 (by decide) ?_
  refine lv_icmp_ge (tgt := 53) hx hb dX4_endSum_6 (by decide) (fun c1 => ?_) (fun c1 => ?_)
  · have hf := it_t hf c1
    exact rtWv X hlk G hr (so_i hf) dX4_endSum_53
  · have hf := it_f hf c1
    refine lv_aload_n hx hb dX4_endSum_9 rfl (lv_at hl 0 rfl) ?_
    refine gf4 X G ((hbs 0 (by decide)).2 (by decide)) (hbs 0 (by decide)).1 2 (by decide) rfl kf_X4_19 iwX4 dX4_endSum_10 ?_
    refine lv_aload_n hx hb dX4_endSum_13 rfl (lv_at hl 0 rfl) ?_
    refine gf4 X G ((hbs 0 (by decide)).2 (by decide)) (hbs 0 (by decide)).1 5 (by decide) rfl kf_X4_28 iwX4 dX4_endSum_14 ?_
    refine lv_aload_n hx hb dX4_endSum_17 rfl (lv_at hl 0 rfl) ?_
    refine gf4 X G ((hbs 0 (by decide)).2 (by decide)) (hbs 0 (by decide)).1 5 (by decide) rfl kf_X4_28 iwX4 dX4_endSum_18 ?_
    refine lv_if_ne (tgt := 28) hx hb dX4_endSum_21 (by decide) (fun c2 => ?_) (fun c2 => ?_)
    · have hf := it_f hf c2
      refine lv_aload_n hx hb dX4_endSum_28 rfl (lv_at hl 0 rfl) ?_
      refine gf4 X G ((hbs 0 (by decide)).2 (by decide)) (hbs 0 (by decide)).1 4 (by decide) rfl kf_X4_25 iwX4 dX4_endSum_29 ?_
      refine lv_aload_n hx hb dX4_endSum_32 rfl (lv_at hl 0 rfl) ?_
      refine gf4 X G ((hbs 0 (by decide)).2 (by decide)) (hbs 0 (by decide)).1 5 (by decide) rfl kf_X4_28 iwX4 dX4_endSum_33 ?_
      refine lv_iconst (v := (1 : Int32)) hx hb dX4_endSum_36 (by decide) ?_
      refine lv_isub hx hb dX4_endSum_37 ?_
      obtain ⟨h3, hf⟩ := gd_s hf
      refine ia_ld (k := (b + 5)) (n := 12) X G ((hbs 5 (by decide)).2 (by decide)) (hbs 5 (by decide)).1 (by decide) (ix_in h3) dX4_endSum_38 ?_
      exact wX4_endSum_B39 hL hbs X hr hlk (st.1 (b + 5) ((st.1 b 5) - (1 : Int32)).toNatClampNeg) (st.1 b 5) st _ _ hf G _ (lv_sub hl [0] rfl)
    · have hf := it_t hf c2
      refine lv_iconst (v := (0 : Int32)) hx hb dX4_endSum_24 (by decide) ?_
      refine lv_goto (tgt := 39) hx hb dX4_endSum_25 (by decide) ?_
      exact wX4_endSum_B39 hL hbs X hr hlk (0 : Int32) (st.1 b 5) st _ _ hf G _ (lv_sub hl [0] rfl)
def fX4_endClause (b : Nat) (st : St) : Option St := if (12 : Int32) ≤ (st.1 b 5) then (some st) else (gd (ix (st.1 b 5) 12) (nm (ui st (b + 5) (st.1 b 5).toNatClampNeg (st.1 b 1)) (fun s3 => nm (ui s3 b 5 ((s3.1 b 5) + (1 : Int32))) (fun s4 => some s4))))
set_option maxRecDepth 100000 in
theorem tX4_endClause (l : Launch) (E : Ev) (st : St) (sz : Nat) (hL : ∀ k, fxC k = true → k ∈ eL E) {b : Nat} (hbs : okR E b)  {res : St} (hf : fX4_endClause b  st = some res) : Met l yX4_endClause (.code yX4_endClause cX4_endClause 1 none :: uW) (rmk 0) (va_Pc [.ref (eq E b)] (Pre E st sz)) (QWv E res sz) 0 0 (Af E sz) := by
  refine Met_in (by decide) (Nat.le_of_ble_eq_true rfl) ?_
  intro p e s m below meth c X hr hlk hz G ls hl
  have hx := X.1.1
  have hb := X.1.2.1
  have hl : lv_has ls 1 [(0, .ref (eq E b))] := hl
  unfold fX4_endClause at hf
  refine lv_aload_n hx hb dX4_endClause_0 rfl (lv_at hl 0 rfl) ?_
  refine gf4 X G ((hbs 0 (by decide)).2 (by decide)) (hbs 0 (by decide)).1 5 (by decide) rfl kf_X4_28 iwX4 dX4_endClause_1 ?_
  refine lv_bipush (v := (12 : Int32)) hx hb dX4_endClause_4 (by decide) ?_
  refine lv_icmp_ge (tgt := 32) hx hb dX4_endClause_6 (by decide) (fun c1 => ?_) (fun c1 => ?_)
  · have hf := it_t hf c1
    exact rtWv X hlk G hr (so_i hf) dX4_endClause_32
  · have hf := it_f hf c1
    refine lv_aload_n hx hb dX4_endClause_9 rfl (lv_at hl 0 rfl) ?_
    refine gf4 X G ((hbs 0 (by decide)).2 (by decide)) (hbs 0 (by decide)).1 4 (by decide) rfl kf_X4_25 iwX4 dX4_endClause_10 ?_
    refine lv_aload_n hx hb dX4_endClause_13 rfl (lv_at hl 0 rfl) ?_
    refine gf4 X G ((hbs 0 (by decide)).2 (by decide)) (hbs 0 (by decide)).1 5 (by decide) rfl kf_X4_28 iwX4 dX4_endClause_14 ?_
    refine lv_aload_n hx hb dX4_endClause_17 rfl (lv_at hl 0 rfl) ?_
    refine gf4 X G ((hbs 0 (by decide)).2 (by decide)) (hbs 0 (by decide)).1 1 (by decide) rfl kf_X4_15 iwX4 dX4_endClause_18 ?_
    obtain ⟨h2, hf⟩ := gd_s hf
    refine ia_st (k := (b + 5)) (n := 12) X G ((hbs 5 (by decide)).2 (by decide)) (hbs 5 (by decide)).1 (by decide) (ix_in h2) dX4_endClause_21 (fun s3 es3 H locs G => ?_)
    have hf := nm_s hf s3 es3
    refine lv_aload_n hx hb dX4_endClause_22 rfl (lv_at hl 0 rfl) ?_
    refine lv_dup hx hb dX4_endClause_23 rfl ?_
    refine gf4 X G ((hbs 0 (by decide)).2 (by decide)) (hbs 0 (by decide)).1 5 (by decide) rfl kf_X4_28 iwX4 dX4_endClause_24 ?_
    refine lv_iconst (v := (1 : Int32)) hx hb dX4_endClause_27 (by decide) ?_
    refine lv_iadd hx hb dX4_endClause_28 ?_
    refine pf4 X G ((hbs 0 (by decide)).2 (by decide)) (hbs 0 (by decide)).1 5 (by decide) ps4_5 uio kf_X4_28 iwX4 rfl (ty := .int) (by decide +kernel) rfl rfl dX4_endClause_29 (fun s4 es4 H locs G => ?_)
    have hf := nm_s hf s4 es4
    exact rtWv X hlk G hr (so_i hf) dX4_endClause_32
