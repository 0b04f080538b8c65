theorem dX10_hide_0 : decode cX10_hide 0 = .ok (.aload_n 0, 1) := by decide +kernel
theorem dX10_hide_1 : decode cX10_hide 1 = .ok (.iload_n 1, 1) := by decide +kernel
theorem dX10_hide_2 : decode cX10_hide 2 = .ok (.invokevirtual 367, 3) := by decide +kernel
theorem dX10_hide_5 : decode cX10_hide 5 = .ok (.ifCond .eq 40, 3) := by decide +kernel
theorem dX10_hide_8 : decode cX10_hide 8 = .ok (.aload_n 0, 1) := by decide +kernel
theorem dX10_hide_9 : decode cX10_hide 9 = .ok (.iload_n 1, 1) := by decide +kernel
theorem dX10_hide_10 : decode cX10_hide 10 = .ok (.invokevirtual 371, 3) := by decide +kernel
theorem dX10_hide_13 : decode cX10_hide 13 = .ok (.ifCond .ne 32, 3) := by decide +kernel
theorem dX10_hide_16 : decode cX10_hide 16 = .ok (.iload_n 2, 1) := by decide +kernel
theorem dX10_hide_17 : decode cX10_hide 17 = .ok (.i2l, 1) := by decide +kernel
theorem dX10_hide_18 : decode cX10_hide 18 = .ok (.lconst 1, 1) := by decide +kernel
theorem dX10_hide_19 : decode cX10_hide 19 = .ok (.aload_n 0, 1) := by decide +kernel
theorem dX10_hide_20 : decode cX10_hide 20 = .ok (.getfield 13, 3) := by decide +kernel
theorem dX10_hide_23 : decode cX10_hide 23 = .ok (.iload_n 1, 1) := by decide +kernel
theorem dX10_hide_24 : decode cX10_hide 24 = .ok (.iaload, 1) := by decide +kernel
theorem dX10_hide_25 : decode cX10_hide 25 = .ok (.i2l, 1) := by decide +kernel
theorem dX10_hide_26 : decode cX10_hide 26 = .ok (.invokestatic 152, 3) := by decide +kernel
theorem dX10_hide_29 : decode cX10_hide 29 = .ok (.ifCond .eq 16, 3) := by decide +kernel
theorem dX10_hide_32 : decode cX10_hide 32 = .ok (.aload_n 0, 1) := by decide +kernel
theorem dX10_hide_33 : decode cX10_hide 33 = .ok (.getfield 22, 3) := by decide +kernel
theorem dX10_hide_36 : decode cX10_hide 36 = .ok (.iload_n 1, 1) := by decide +kernel
theorem dX10_hide_37 : decode cX10_hide 37 = .ok (.iaload, 1) := by decide +kernel
theorem dX10_hide_38 : decode cX10_hide 38 = .ok (.iload_n 2, 1) := by decide +kernel
theorem dX10_hide_39 : decode cX10_hide 39 = .ok (.iadd, 1) := by decide +kernel
theorem dX10_hide_40 : decode cX10_hide 40 = .ok (.bipush 99, 2) := by decide +kernel
theorem dX10_hide_42 : decode cX10_hide 42 = .ok (.if_icmp .le 5, 3) := by decide +kernel
theorem dX10_hide_45 : decode cX10_hide 45 = .ok (.iconst (-1), 1) := by decide +kernel
theorem dX10_hide_46 : decode cX10_hide 46 = .ok (.ireturn, 1) := by decide +kernel
theorem dX10_hide_47 : decode cX10_hide 47 = .ok (.aload_n 0, 1) := by decide +kernel
theorem dX10_hide_48 : decode cX10_hide 48 = .ok (.invokevirtual 431, 3) := by decide +kernel
theorem dX10_hide_51 : decode cX10_hide 51 = .ok (.aload_n 0, 1) := by decide +kernel
theorem dX10_hide_52 : decode cX10_hide 52 = .ok (.getfield 13, 3) := by decide +kernel
theorem dX10_hide_55 : decode cX10_hide 55 = .ok (.iload_n 1, 1) := by decide +kernel
theorem dX10_hide_56 : decode cX10_hide 56 = .ok (.dup2, 1) := by decide +kernel
theorem dX10_hide_57 : decode cX10_hide 57 = .ok (.iaload, 1) := by decide +kernel
theorem dX10_hide_58 : decode cX10_hide 58 = .ok (.iload_n 2, 1) := by decide +kernel
theorem dX10_hide_59 : decode cX10_hide 59 = .ok (.isub, 1) := by decide +kernel
theorem dX10_hide_60 : decode cX10_hide 60 = .ok (.iastore, 1) := by decide +kernel
theorem dX10_hide_61 : decode cX10_hide 61 = .ok (.aload_n 0, 1) := by decide +kernel
theorem dX10_hide_62 : decode cX10_hide 62 = .ok (.getfield 22, 3) := by decide +kernel
theorem dX10_hide_65 : decode cX10_hide 65 = .ok (.iload_n 1, 1) := by decide +kernel
theorem dX10_hide_66 : decode cX10_hide 66 = .ok (.dup2, 1) := by decide +kernel
theorem dX10_hide_67 : decode cX10_hide 67 = .ok (.iaload, 1) := by decide +kernel
theorem dX10_hide_68 : decode cX10_hide 68 = .ok (.iload_n 2, 1) := by decide +kernel
theorem dX10_hide_69 : decode cX10_hide 69 = .ok (.iadd, 1) := by decide +kernel
theorem dX10_hide_70 : decode cX10_hide 70 = .ok (.iastore, 1) := by decide +kernel
theorem dX10_hide_71 : decode cX10_hide 71 = .ok (.aload_n 0, 1) := by decide +kernel
theorem dX10_hide_72 : decode cX10_hide 72 = .ok (.getfield 22, 3) := by decide +kernel
theorem dX10_hide_75 : decode cX10_hide 75 = .ok (.iload_n 1, 1) := by decide +kernel
theorem dX10_hide_76 : decode cX10_hide 76 = .ok (.iaload, 1) := by decide +kernel
theorem dX10_hide_77 : decode cX10_hide 77 = .ok (.ireturn, 1) := by decide +kernel
theorem dX10_lift_0 : decode cX10_lift 0 = .ok (.aload_n 0, 1) := by decide +kernel
theorem dX10_lift_1 : decode cX10_lift 1 = .ok (.iload_n 1, 1) := by decide +kernel
theorem dX10_lift_2 : decode cX10_lift 2 = .ok (.invokevirtual 374, 3) := by decide +kernel
theorem dX10_lift_5 : decode cX10_lift 5 = .ok (.ifCond .eq 17, 3) := by decide +kernel
theorem dX10_lift_8 : decode cX10_lift 8 = .ok (.aload_n 0, 1) := by decide +kernel
theorem dX10_lift_9 : decode cX10_lift 9 = .ok (.getfield 22, 3) := by decide +kernel
theorem dX10_lift_12 : decode cX10_lift 12 = .ok (.aload_n 0, 1) := by decide +kernel
theorem dX10_lift_13 : decode cX10_lift 13 = .ok (.getfield 31, 3) := by decide +kernel
theorem dX10_lift_16 : decode cX10_lift 16 = .ok (.iload_n 1, 1) := by decide +kernel
theorem dX10_lift_17 : decode cX10_lift 17 = .ok (.iaload, 1) := by decide +kernel
theorem dX10_lift_18 : decode cX10_lift 18 = .ok (.iaload, 1) := by decide +kernel
theorem dX10_lift_19 : decode cX10_lift 19 = .ok (.ifCond .ne 5, 3) := by decide +kernel
theorem dX10_lift_22 : decode cX10_lift 22 = .ok (.iconst (-1), 1) := by decide +kernel
theorem dX10_lift_23 : decode cX10_lift 23 = .ok (.ireturn, 1) := by decide +kernel
theorem dX10_lift_24 : decode cX10_lift 24 = .ok (.aload_n 0, 1) := by decide +kernel
theorem dX10_lift_25 : decode cX10_lift 25 = .ok (.invokevirtual 431, 3) := by decide +kernel
theorem dX10_lift_28 : decode cX10_lift 28 = .ok (.aload_n 0, 1) := by decide +kernel
theorem dX10_lift_29 : decode cX10_lift 29 = .ok (.getfield 31, 3) := by decide +kernel
theorem dX10_lift_32 : decode cX10_lift 32 = .ok (.iload_n 1, 1) := by decide +kernel
theorem dX10_lift_33 : decode cX10_lift 33 = .ok (.iaload, 1) := by decide +kernel
theorem dX10_lift_34 : decode cX10_lift 34 = .ok (.istore_n 2, 1) := by decide +kernel
theorem dX10_lift_35 : decode cX10_lift 35 = .ok (.aload_n 0, 1) := by decide +kernel
theorem dX10_lift_36 : decode cX10_lift 36 = .ok (.getfield 34, 3) := by decide +kernel
theorem dX10_lift_39 : decode cX10_lift 39 = .ok (.iload_n 1, 1) := by decide +kernel
theorem dX10_lift_40 : decode cX10_lift 40 = .ok (.iaload, 1) := by decide +kernel
theorem dX10_lift_41 : decode cX10_lift 41 = .ok (.aload_n 0, 1) := by decide +kernel
theorem dX10_lift_42 : decode cX10_lift 42 = .ok (.getfield 37, 3) := by decide +kernel
theorem dX10_lift_45 : decode cX10_lift 45 = .ok (.iload_n 1, 1) := by decide +kernel
theorem dX10_lift_46 : decode cX10_lift 46 = .ok (.iaload, 1) := by decide +kernel
theorem dX10_lift_47 : decode cX10_lift 47 = .ok (.isub, 1) := by decide +kernel
theorem dX10_lift_48 : decode cX10_lift 48 = .ok (.istore_n 3, 1) := by decide +kernel
theorem dX10_lift_49 : decode cX10_lift 49 = .ok (.aload_n 0, 1) := by decide +kernel
theorem dX10_lift_50 : decode cX10_lift 50 = .ok (.getfield 22, 3) := by decide +kernel
theorem dX10_lift_53 : decode cX10_lift 53 = .ok (.iload_n 2, 1) := by decide +kernel
theorem dX10_lift_54 : decode cX10_lift 54 = .ok (.iaload, 1) := by decide +kernel
theorem dX10_lift_55 : decode cX10_lift 55 = .ok (.iconst 2, 1) := by decide +kernel
theorem dX10_lift_56 : decode cX10_lift 56 = .ok (.idiv, 1) := by decide +kernel
theorem dX10_lift_57 : decode cX10_lift 57 = .ok (.iload_n 3, 1) := by decide +kernel
theorem dX10_lift_58 : decode cX10_lift 58 = .ok (.if_icmp .ge 14, 3) := by decide +kernel
theorem dX10_lift_61 : decode cX10_lift 61 = .ok (.aload_n 0, 1) := by decide +kernel
theorem dX10_lift_62 : decode cX10_lift 62 = .ok (.getfield 22, 3) := by decide +kernel
theorem dX10_lift_65 : decode cX10_lift 65 = .ok (.iload_n 2, 1) := by decide +kernel
theorem dX10_lift_66 : decode cX10_lift 66 = .ok (.iaload, 1) := by decide +kernel
theorem dX10_lift_67 : decode cX10_lift 67 = .ok (.iconst 2, 1) := by decide +kernel
theorem dX10_lift_68 : decode cX10_lift 68 = .ok (.idiv, 1) := by decide +kernel
theorem dX10_lift_69 : decode cX10_lift 69 = .ok (.goto 4, 3) := by decide +kernel
theorem dX10_lift_72 : decode cX10_lift 72 = .ok (.iload_n 3, 1) := by decide +kernel
theorem dX10_lift_73 : decode cX10_lift 73 = .ok (.istore 4, 2) := by decide +kernel
theorem dX10_lift_75 : decode cX10_lift 75 = .ok (.aload_n 0, 1) := by decide +kernel
theorem dX10_lift_76 : decode cX10_lift 76 = .ok (.getfield 37, 3) := by decide +kernel
theorem dX10_lift_79 : decode cX10_lift 79 = .ok (.iload_n 1, 1) := by decide +kernel
theorem dX10_lift_80 : decode cX10_lift 80 = .ok (.dup2, 1) := by decide +kernel
theorem dX10_lift_81 : decode cX10_lift 81 = .ok (.iaload, 1) := by decide +kernel
theorem dX10_lift_82 : decode cX10_lift 82 = .ok (.iload 4, 2) := by decide +kernel
theorem dX10_lift_84 : decode cX10_lift 84 = .ok (.iadd, 1) := by decide +kernel
theorem dX10_lift_85 : decode cX10_lift 85 = .ok (.iastore, 1) := by decide +kernel
theorem dX10_lift_86 : decode cX10_lift 86 = .ok (.aload_n 0, 1) := by decide +kernel
theorem dX10_lift_87 : decode cX10_lift 87 = .ok (.getfield 13, 3) := by decide +kernel
theorem dX10_lift_90 : decode cX10_lift 90 = .ok (.iload_n 2, 1) := by decide +kernel
theorem dX10_lift_91 : decode cX10_lift 91 = .ok (.aload_n 0, 1) := by decide +kernel
theorem dX10_lift_92 : decode cX10_lift 92 = .ok (.getfield 13, 3) := by decide +kernel
theorem dX10_lift_95 : decode cX10_lift 95 = .ok (.iload_n 2, 1) := by decide +kernel
theorem dX10_lift_96 : decode cX10_lift 96 = .ok (.iaload, 1) := by decide +kernel
theorem dX10_lift_97 : decode cX10_lift 97 = .ok (.aload_n 0, 1) := by decide +kernel
theorem dX10_lift_98 : decode cX10_lift 98 = .ok (.getfield 22, 3) := by decide +kernel
theorem dX10_lift_101 : decode cX10_lift 101 = .ok (.iload_n 2, 1) := by decide +kernel
theorem dX10_lift_102 : decode cX10_lift 102 = .ok (.iaload, 1) := by decide +kernel
theorem dX10_lift_103 : decode cX10_lift 103 = .ok (.iadd, 1) := by decide +kernel
theorem dX10_lift_104 : decode cX10_lift 104 = .ok (.iload 4, 2) := by decide +kernel
theorem dX10_lift_106 : decode cX10_lift 106 = .ok (.isub, 1) := by decide +kernel
theorem dX10_lift_107 : decode cX10_lift 107 = .ok (.invokestatic 436, 3) := by decide +kernel
theorem dX10_lift_110 : decode cX10_lift 110 = .ok (.iastore, 1) := by decide +kernel
theorem dX10_lift_111 : decode cX10_lift 111 = .ok (.aload_n 0, 1) := by decide +kernel
theorem dX10_lift_112 : decode cX10_lift 112 = .ok (.getfield 22, 3) := by decide +kernel
theorem dX10_lift_115 : decode cX10_lift 115 = .ok (.iload_n 2, 1) := by decide +kernel
theorem dX10_lift_116 : decode cX10_lift 116 = .ok (.iconst 0, 1) := by decide +kernel
theorem dX10_lift_117 : decode cX10_lift 117 = .ok (.iastore, 1) := by decide +kernel
theorem dX10_lift_118 : decode cX10_lift 118 = .ok (.iload 4, 2) := by decide +kernel
theorem dX10_lift_120 : decode cX10_lift 120 = .ok (.ireturn, 1) := by decide +kernel
theorem dX10_spit_0 : decode cX10_spit 0 = .ok (.aload_n 0, 1) := by decide +kernel
theorem dX10_spit_1 : decode cX10_spit 1 = .ok (.iload_n 1, 1) := by decide +kernel
theorem dX10_spit_2 : decode cX10_spit 2 = .ok (.invokevirtual 374, 3) := by decide +kernel
theorem dX10_spit_5 : decode cX10_spit 5 = .ok (.ifCond .eq 12, 3) := by decide +kernel
theorem dX10_spit_8 : decode cX10_spit 8 = .ok (.aload_n 0, 1) := by decide +kernel
theorem dX10_spit_9 : decode cX10_spit 9 = .ok (.getfield 37, 3) := by decide +kernel
theorem dX10_spit_12 : decode cX10_spit 12 = .ok (.iload_n 1, 1) := by decide +kernel
theorem dX10_spit_13 : decode cX10_spit 13 = .ok (.iaload, 1) := by decide +kernel
theorem dX10_spit_14 : decode cX10_spit 14 = .ok (.ifCond .ne 5, 3) := by decide +kernel
theorem dX10_spit_17 : decode cX10_spit 17 = .ok (.iconst (-1), 1) := by decide +kernel
theorem dX10_spit_18 : decode cX10_spit 18 = .ok (.ireturn, 1) := by decide +kernel
theorem dX10_spit_19 : decode cX10_spit 19 = .ok (.aload_n 0, 1) := by decide +kernel
theorem dX10_spit_20 : decode cX10_spit 20 = .ok (.invokevirtual 431, 3) := by decide +kernel
theorem dX10_spit_23 : decode cX10_spit 23 = .ok (.aload_n 0, 1) := by decide +kernel
theorem dX10_spit_24 : decode cX10_spit 24 = .ok (.getfield 9, 3) := by decide +kernel
theorem dX10_spit_27 : decode cX10_spit 27 = .ok (.bipush 8, 2) := by decide +kernel
theorem dX10_spit_29 : decode cX10_spit 29 = .ok (.iaload, 1) := by decide +kernel
theorem dX10_spit_30 : decode cX10_spit 30 = .ok (.aload_n 0, 1) := by decide +kernel
theorem dX10_spit_31 : decode cX10_spit 31 = .ok (.getfield 37, 3) := by decide +kernel
theorem dX10_spit_34 : decode cX10_spit 34 = .ok (.iload_n 1, 1) := by decide +kernel
theorem dX10_spit_35 : decode cX10_spit 35 = .ok (.iaload, 1) := by decide +kernel
theorem dX10_spit_36 : decode cX10_spit 36 = .ok (.iadd, 1) := by decide +kernel
theorem dX10_spit_37 : decode cX10_spit 37 = .ok (.istore_n 2, 1) := by decide +kernel
theorem dX10_spit_38 : decode cX10_spit 38 = .ok (.aload_n 0, 1) := by decide +kernel
theorem dX10_spit_39 : decode cX10_spit 39 = .ok (.getfield 9, 3) := by decide +kernel
theorem dX10_spit_42 : decode cX10_spit 42 = .ok (.bipush 8, 2) := by decide +kernel
theorem dX10_spit_44 : decode cX10_spit 44 = .ok (.iload_n 2, 1) := by decide +kernel
theorem dX10_spit_45 : decode cX10_spit 45 = .ok (.ldc 234, 2) := by decide +kernel
theorem dX10_spit_47 : decode cX10_spit 47 = .ok (.if_icmp .le 8, 3) := by decide +kernel
theorem dX10_spit_50 : decode cX10_spit 50 = .ok (.ldc 234, 2) := by decide +kernel
theorem dX10_spit_52 : decode cX10_spit 52 = .ok (.goto 4, 3) := by decide +kernel
theorem dX10_spit_55 : decode cX10_spit 55 = .ok (.iload_n 2, 1) := by decide +kernel
theorem dX10_spit_56 : decode cX10_spit 56 = .ok (.iastore, 1) := by decide +kernel
theorem dX10_spit_57 : decode cX10_spit 57 = .ok (.aload_n 0, 1) := by decide +kernel
theorem dX10_spit_58 : decode cX10_spit 58 = .ok (.getfield 37, 3) := by decide +kernel
theorem dX10_spit_61 : decode cX10_spit 61 = .ok (.iload_n 1, 1) := by decide +kernel
theorem dX10_spit_62 : decode cX10_spit 62 = .ok (.iconst 0, 1) := by decide +kernel
theorem dX10_spit_63 : decode cX10_spit 63 = .ok (.iastore, 1) := by decide +kernel
theorem dX10_spit_64 : decode cX10_spit 64 = .ok (.aload_n 0, 1) := by decide +kernel
theorem dX10_spit_65 : decode cX10_spit 65 = .ok (.getfield 9, 3) := by decide +kernel
theorem dX10_spit_68 : decode cX10_spit 68 = .ok (.bipush 8, 2) := by decide +kernel
theorem dX10_spit_70 : decode cX10_spit 70 = .ok (.iaload, 1) := by decide +kernel
theorem dX10_spit_71 : decode cX10_spit 71 = .ok (.ireturn, 1) := by decide +kernel
theorem dX10_carryRow_0 : decode cX10_carryRow 0 = .ok (.iconst 0, 1) := by decide +kernel
theorem dX10_carryRow_1 : decode cX10_carryRow 1 = .ok (.istore_n 2, 1) := by decide +kernel
theorem dX10_carryRow_2 : decode cX10_carryRow 2 = .ok (.iload_n 2, 1) := by decide +kernel
theorem dX10_carryRow_3 : decode cX10_carryRow 3 = .ok (.aload_n 1, 1) := by decide +kernel
theorem dX10_carryRow_4 : decode cX10_carryRow 4 = .ok (.arraylength, 1) := by decide +kernel
theorem dX10_carryRow_5 : decode cX10_carryRow 5 = .ok (.if_icmp .ge 53, 3) := by decide +kernel
theorem dX10_carryRow_8 : decode cX10_carryRow 8 = .ok (.aload_n 0, 1) := by decide +kernel
theorem dX10_carryRow_9 : decode cX10_carryRow 9 = .ok (.getfield 503, 3) := by decide +kernel
theorem dX10_carryRow_12 : decode cX10_carryRow 12 = .ok (.ifCond .eq 18, 3) := by decide +kernel
theorem dX10_carryRow_15 : decode cX10_carryRow 15 = .ok (.aload_n 1, 1) := by decide +kernel
theorem dX10_carryRow_16 : decode cX10_carryRow 16 = .ok (.iload_n 2, 1) := by decide +kernel
theorem dX10_carryRow_17 : decode cX10_carryRow 17 = .ok (.aload_n 0, 1) := by decide +kernel
theorem dX10_carryRow_18 : decode cX10_carryRow 18 = .ok (.getfield 139, 3) := by decide +kernel
theorem dX10_carryRow_21 : decode cX10_carryRow 21 = .ok (.aload_n 0, 1) := by decide +kernel
theorem dX10_carryRow_22 : decode cX10_carryRow 22 = .ok (.getfield 506, 3) := by decide +kernel
theorem dX10_carryRow_25 : decode cX10_carryRow 25 = .ok (.iaload, 1) := by decide +kernel
theorem dX10_carryRow_26 : decode cX10_carryRow 26 = .ok (.iastore, 1) := by decide +kernel
theorem dX10_carryRow_27 : decode cX10_carryRow 27 = .ok (.goto 15, 3) := by decide +kernel
theorem dX10_carryRow_30 : decode cX10_carryRow 30 = .ok (.aload_n 0, 1) := by decide +kernel
theorem dX10_carryRow_31 : decode cX10_carryRow 31 = .ok (.getfield 139, 3) := by decide +kernel
theorem dX10_carryRow_34 : decode cX10_carryRow 34 = .ok (.aload_n 0, 1) := by decide +kernel
theorem dX10_carryRow_35 : decode cX10_carryRow 35 = .ok (.getfield 506, 3) := by decide +kernel
theorem dX10_carryRow_38 : decode cX10_carryRow 38 = .ok (.aload_n 1, 1) := by decide +kernel
theorem dX10_carryRow_39 : decode cX10_carryRow 39 = .ok (.iload_n 2, 1) := by decide +kernel
theorem dX10_carryRow_40 : decode cX10_carryRow 40 = .ok (.iaload, 1) := by decide +kernel
theorem dX10_carryRow_41 : decode cX10_carryRow 41 = .ok (.iastore, 1) := by decide +kernel
theorem dX10_carryRow_42 : decode cX10_carryRow 42 = .ok (.aload_n 0, 1) := by decide +kernel
theorem dX10_carryRow_43 : decode cX10_carryRow 43 = .ok (.dup, 1) := by decide +kernel
theorem dX10_carryRow_44 : decode cX10_carryRow 44 = .ok (.getfield 506, 3) := by decide +kernel
theorem dX10_carryRow_47 : decode cX10_carryRow 47 = .ok (.iconst 1, 1) := by decide +kernel
theorem dX10_carryRow_48 : decode cX10_carryRow 48 = .ok (.iadd, 1) := by decide +kernel
theorem dX10_carryRow_49 : decode cX10_carryRow 49 = .ok (.putfield 506, 3) := by decide +kernel
theorem dX10_carryRow_52 : decode cX10_carryRow 52 = .ok (.iinc 2 1, 3) := by decide +kernel
theorem dX10_carryRow_55 : decode cX10_carryRow 55 = .ok (.goto (-53), 3) := by decide +kernel
theorem dX10_carryRow_58 : decode cX10_carryRow 58 = .ok (.return_, 1) := by decide +kernel
theorem dX10_carriesAll_0 : decode cX10_carriesAll 0 = .ok (.aload_n 0, 1) := by decide +kernel
theorem dX10_carriesAll_1 : decode cX10_carriesAll 1 = .ok (.sipush 1100, 3) := by decide +kernel
theorem dX10_carriesAll_4 : decode cX10_carriesAll 4 = .ok (.iload_n 1, 1) := by decide +kernel
theorem dX10_carriesAll_5 : decode cX10_carriesAll 5 = .ok (.imul, 1) := by decide +kernel
theorem dX10_carriesAll_6 : decode cX10_carriesAll 6 = .ok (.putfield 506, 3) := by decide +kernel
theorem dX10_carriesAll_9 : decode cX10_carriesAll 9 = .ok (.aload_n 0, 1) := by decide +kernel
theorem dX10_carriesAll_10 : decode cX10_carriesAll 10 = .ok (.iload_n 2, 1) := by decide +kernel
theorem dX10_carriesAll_11 : decode cX10_carriesAll 11 = .ok (.putfield 503, 3) := by decide +kernel
theorem dX10_carriesAll_14 : decode cX10_carriesAll 14 = .ok (.aload_n 0, 1) := by decide +kernel
theorem dX10_carriesAll_15 : decode cX10_carriesAll 15 = .ok (.aload_n 0, 1) := by decide +kernel
theorem dX10_carriesAll_16 : decode cX10_carriesAll 16 = .ok (.getfield 9, 3) := by decide +kernel
theorem dX10_carriesAll_19 : decode cX10_carriesAll 19 = .ok (.invokevirtual 509, 3) := by decide +kernel
theorem dX10_carriesAll_22 : decode cX10_carriesAll 22 = .ok (.aload_n 0, 1) := by decide +kernel
theorem dX10_carriesAll_23 : decode cX10_carriesAll 23 = .ok (.aload_n 0, 1) := by decide +kernel
theorem dX10_carriesAll_24 : decode cX10_carriesAll 24 = .ok (.getfield 13, 3) := by decide +kernel
theorem dX10_carriesAll_27 : decode cX10_carriesAll 27 = .ok (.invokevirtual 509, 3) := by decide +kernel
theorem dX10_carriesAll_30 : decode cX10_carriesAll 30 = .ok (.aload_n 0, 1) := by decide +kernel
theorem dX10_carriesAll_31 : decode cX10_carriesAll 31 = .ok (.aload_n 0, 1) := by decide +kernel
theorem dX10_carriesAll_32 : decode cX10_carriesAll 32 = .ok (.getfield 16, 3) := by decide +kernel
theorem dX10_carriesAll_35 : decode cX10_carriesAll 35 = .ok (.invokevirtual 509, 3) := by decide +kernel
theorem dX10_carriesAll_38 : decode cX10_carriesAll 38 = .ok (.aload_n 0, 1) := by decide +kernel
theorem dX10_carriesAll_39 : decode cX10_carriesAll 39 = .ok (.aload_n 0, 1) := by decide +kernel
theorem dX10_carriesAll_40 : decode cX10_carriesAll 40 = .ok (.getfield 22, 3) := by decide +kernel
theorem dX10_carriesAll_43 : decode cX10_carriesAll 43 = .ok (.invokevirtual 509, 3) := by decide +kernel
theorem dX10_carriesAll_46 : decode cX10_carriesAll 46 = .ok (.aload_n 0, 1) := by decide +kernel
theorem dX10_carriesAll_47 : decode cX10_carriesAll 47 = .ok (.aload_n 0, 1) := by decide +kernel
theorem dX10_carriesAll_48 : decode cX10_carriesAll 48 = .ok (.getfield 28, 3) := by decide +kernel
theorem dX10_carriesAll_51 : decode cX10_carriesAll 51 = .ok (.invokevirtual 509, 3) := by decide +kernel
theorem dX10_carriesAll_54 : decode cX10_carriesAll 54 = .ok (.aload_n 0, 1) := by decide +kernel
theorem dX10_carriesAll_55 : decode cX10_carriesAll 55 = .ok (.aload_n 0, 1) := by decide +kernel
theorem dX10_carriesAll_56 : decode cX10_carriesAll 56 = .ok (.getfield 31, 3) := by decide +kernel
theorem dX10_carriesAll_59 : decode cX10_carriesAll 59 = .ok (.invokevirtual 509, 3) := by decide +kernel
theorem dX10_carriesAll_62 : decode cX10_carriesAll 62 = .ok (.aload_n 0, 1) := by decide +kernel
theorem dX10_carriesAll_63 : decode cX10_carriesAll 63 = .ok (.aload_n 0, 1) := by decide +kernel
theorem dX10_carriesAll_64 : decode cX10_carriesAll 64 = .ok (.getfield 37, 3) := by decide +kernel
theorem dX10_carriesAll_67 : decode cX10_carriesAll 67 = .ok (.invokevirtual 509, 3) := by decide +kernel
theorem dX10_carriesAll_70 : decode cX10_carriesAll 70 = .ok (.iload_n 1, 1) := by decide +kernel
theorem dX10_carriesAll_71 : decode cX10_carriesAll 71 = .ok (.iconst 4, 1) := by decide +kernel
theorem dX10_carriesAll_72 : decode cX10_carriesAll 72 = .ok (.if_icmp .ne 4, 3) := by decide +kernel
theorem dX10_carriesAll_75 : decode cX10_carriesAll 75 = .ok (.return_, 1) := by decide +kernel
theorem dX10_carriesAll_76 : decode cX10_carriesAll 76 = .ok (.aload_n 0, 1) := by decide +kernel
theorem dX10_carriesAll_77 : decode cX10_carriesAll 77 = .ok (.getfield 130, 3) := by decide +kernel
theorem dX10_carriesAll_80 : decode cX10_carriesAll 80 = .ok (.iconst 0, 1) := by decide +kernel
theorem dX10_carriesAll_81 : decode cX10_carriesAll 81 = .ok (.aload_n 0, 1) := by decide +kernel
theorem dX10_carriesAll_82 : decode cX10_carriesAll 82 = .ok (.getfield 334, 3) := by decide +kernel
theorem dX10_carriesAll_85 : decode cX10_carriesAll 85 = .ok (.iastore, 1) := by decide +kernel
theorem dX10_carriesAll_86 : decode cX10_carriesAll 86 = .ok (.aload_n 0, 1) := by decide +kernel
theorem dX10_carriesAll_87 : decode cX10_carriesAll 87 = .ok (.aload_n 0, 1) := by decide +kernel
theorem dX10_carriesAll_88 : decode cX10_carriesAll 88 = .ok (.getfield 130, 3) := by decide +kernel
theorem dX10_carriesAll_91 : decode cX10_carriesAll 91 = .ok (.invokevirtual 509, 3) := by decide +kernel
theorem dX10_carriesAll_94 : decode cX10_carriesAll 94 = .ok (.aload_n 0, 1) := by decide +kernel
theorem dX10_carriesAll_95 : decode cX10_carriesAll 95 = .ok (.aload_n 0, 1) := by decide +kernel
theorem dX10_carriesAll_96 : decode cX10_carriesAll 96 = .ok (.getfield 130, 3) := by decide +kernel
theorem dX10_carriesAll_99 : decode cX10_carriesAll 99 = .ok (.iconst 0, 1) := by decide +kernel
theorem dX10_carriesAll_100 : decode cX10_carriesAll 100 = .ok (.iaload, 1) := by decide +kernel
theorem dX10_carriesAll_101 : decode cX10_carriesAll 101 = .ok (.putfield 334, 3) := by decide +kernel
theorem dX10_carriesAll_104 : decode cX10_carriesAll 104 = .ok (.aload_n 0, 1) := by decide +kernel
theorem dX10_carriesAll_105 : decode cX10_carriesAll 105 = .ok (.aload_n 0, 1) := by decide +kernel
theorem dX10_carriesAll_106 : decode cX10_carriesAll 106 = .ok (.getfield 19, 3) := by decide +kernel
theorem dX10_carriesAll_109 : decode cX10_carriesAll 109 = .ok (.invokevirtual 509, 3) := by decide +kernel
theorem dX10_carriesAll_112 : decode cX10_carriesAll 112 = .ok (.aload_n 0, 1) := by decide +kernel
theorem dX10_carriesAll_113 : decode cX10_carriesAll 113 = .ok (.aload_n 0, 1) := by decide +kernel
theorem dX10_carriesAll_114 : decode cX10_carriesAll 114 = .ok (.getfield 25, 3) := by decide +kernel
theorem dX10_carriesAll_117 : decode cX10_carriesAll 117 = .ok (.invokevirtual 509, 3) := by decide +kernel
theorem dX10_carriesAll_120 : decode cX10_carriesAll 120 = .ok (.aload_n 0, 1) := by decide +kernel
theorem dX10_carriesAll_121 : decode cX10_carriesAll 121 = .ok (.aload_n 0, 1) := by decide +kernel
theorem dX10_carriesAll_122 : decode cX10_carriesAll 122 = .ok (.getfield 34, 3) := by decide +kernel
theorem dX10_carriesAll_125 : decode cX10_carriesAll 125 = .ok (.invokevirtual 509, 3) := by decide +kernel
theorem dX10_carriesAll_128 : decode cX10_carriesAll 128 = .ok (.aload_n 0, 1) := by decide +kernel
theorem dX10_carriesAll_129 : decode cX10_carriesAll 129 = .ok (.aload_n 0, 1) := by decide +kernel
theorem dX10_carriesAll_130 : decode cX10_carriesAll 130 = .ok (.getfield 40, 3) := by decide +kernel
theorem dX10_carriesAll_133 : decode cX10_carriesAll 133 = .ok (.invokevirtual 509, 3) := by decide +kernel
theorem dX10_carriesAll_136 : decode cX10_carriesAll 136 = .ok (.aload_n 0, 1) := by decide +kernel
theorem dX10_carriesAll_137 : decode cX10_carriesAll 137 = .ok (.aload_n 0, 1) := by decide +kernel
theorem dX10_carriesAll_138 : decode cX10_carriesAll 138 = .ok (.getfield 43, 3) := by decide +kernel
theorem dX10_carriesAll_141 : decode cX10_carriesAll 141 = .ok (.invokevirtual 509, 3) := by decide +kernel
theorem dX10_carriesAll_144 : decode cX10_carriesAll 144 = .ok (.aload_n 0, 1) := by decide +kernel
theorem dX10_carriesAll_145 : decode cX10_carriesAll 145 = .ok (.aload_n 0, 1) := by decide +kernel
theorem dX10_carriesAll_146 : decode cX10_carriesAll 146 = .ok (.getfield 46, 3) := by decide +kernel
theorem dX10_carriesAll_149 : decode cX10_carriesAll 149 = .ok (.invokevirtual 509, 3) := by decide +kernel
theorem dX10_carriesAll_152 : decode cX10_carriesAll 152 = .ok (.aload_n 0, 1) := by decide +kernel
theorem dX10_carriesAll_153 : decode cX10_carriesAll 153 = .ok (.aload_n 0, 1) := by decide +kernel
theorem dX10_carriesAll_154 : decode cX10_carriesAll 154 = .ok (.getfield 49, 3) := by decide +kernel
theorem dX10_carriesAll_157 : decode cX10_carriesAll 157 = .ok (.invokevirtual 509, 3) := by decide +kernel
theorem dX10_carriesAll_160 : decode cX10_carriesAll 160 = .ok (.aload_n 0, 1) := by decide +kernel
theorem dX10_carriesAll_161 : decode cX10_carriesAll 161 = .ok (.aload_n 0, 1) := by decide +kernel
theorem dX10_carriesAll_162 : decode cX10_carriesAll 162 = .ok (.getfield 52, 3) := by decide +kernel
theorem dX10_carriesAll_165 : decode cX10_carriesAll 165 = .ok (.invokevirtual 509, 3) := by decide +kernel
theorem dX10_carriesAll_168 : decode cX10_carriesAll 168 = .ok (.aload_n 0, 1) := by decide +kernel
theorem dX10_carriesAll_169 : decode cX10_carriesAll 169 = .ok (.aload_n 0, 1) := by decide +kernel
theorem dX10_carriesAll_170 : decode cX10_carriesAll 170 = .ok (.getfield 55, 3) := by decide +kernel
theorem dX10_carriesAll_173 : decode cX10_carriesAll 173 = .ok (.invokevirtual 509, 3) := by decide +kernel
theorem dX10_carriesAll_176 : decode cX10_carriesAll 176 = .ok (.aload_n 0, 1) := by decide +kernel
theorem dX10_carriesAll_177 : decode cX10_carriesAll 177 = .ok (.aload_n 0, 1) := by decide +kernel
theorem dX10_carriesAll_178 : decode cX10_carriesAll 178 = .ok (.getfield 58, 3) := by decide +kernel
theorem dX10_carriesAll_181 : decode cX10_carriesAll 181 = .ok (.invokevirtual 509, 3) := by decide +kernel
theorem dX10_carriesAll_184 : decode cX10_carriesAll 184 = .ok (.aload_n 0, 1) := by decide +kernel
theorem dX10_carriesAll_185 : decode cX10_carriesAll 185 = .ok (.aload_n 0, 1) := by decide +kernel
theorem dX10_carriesAll_186 : decode cX10_carriesAll 186 = .ok (.getfield 61, 3) := by decide +kernel
theorem dX10_carriesAll_189 : decode cX10_carriesAll 189 = .ok (.invokevirtual 509, 3) := by decide +kernel
theorem dX10_carriesAll_192 : decode cX10_carriesAll 192 = .ok (.aload_n 0, 1) := by decide +kernel
theorem dX10_carriesAll_193 : decode cX10_carriesAll 193 = .ok (.aload_n 0, 1) := by decide +kernel
theorem dX10_carriesAll_194 : decode cX10_carriesAll 194 = .ok (.getfield 127, 3) := by decide +kernel
theorem dX10_carriesAll_197 : decode cX10_carriesAll 197 = .ok (.invokevirtual 509, 3) := by decide +kernel
theorem dX10_carriesAll_200 : decode cX10_carriesAll 200 = .ok (.return_, 1) := by decide +kernel
theorem dX10_keepsAll_0 : decode cX10_keepsAll 0 = .ok (.aload_n 0, 1) := by decide +kernel
theorem dX10_keepsAll_1 : decode cX10_keepsAll 1 = .ok (.iconst 4, 1) := by decide +kernel
theorem dX10_keepsAll_2 : decode cX10_keepsAll 2 = .ok (.iconst 0, 1) := by decide +kernel
theorem dX10_keepsAll_3 : decode cX10_keepsAll 3 = .ok (.invokevirtual 443, 3) := by decide +kernel
theorem dX10_keepsAll_6 : decode cX10_keepsAll 6 = .ok (.return_, 1) := by decide +kernel
theorem dX10_laysBack_0 : decode cX10_laysBack 0 = .ok (.aload_n 0, 1) := by decide +kernel
theorem dX10_laysBack_1 : decode cX10_laysBack 1 = .ok (.iconst 4, 1) := by decide +kernel
theorem dX10_laysBack_2 : decode cX10_laysBack 2 = .ok (.iconst 1, 1) := by decide +kernel
theorem dX10_laysBack_3 : decode cX10_laysBack 3 = .ok (.invokevirtual 443, 3) := by decide +kernel
theorem dX10_laysBack_6 : decode cX10_laysBack 6 = .ok (.return_, 1) := by decide +kernel
theorem dX10_ahead_0 : decode cX10_ahead 0 = .ok (.iload_n 3, 1) := by decide +kernel
theorem dX10_ahead_1 : decode cX10_ahead 1 = .ok (.ifCond .ne 11, 3) := by decide +kernel
theorem dX10_ahead_4 : decode cX10_ahead 4 = .ok (.aload_n 0, 1) := by decide +kernel
theorem dX10_ahead_5 : decode cX10_ahead 5 = .ok (.iload_n 1, 1) := by decide +kernel
theorem dX10_ahead_6 : decode cX10_ahead 6 = .ok (.invokevirtual 367, 3) := by decide +kernel
theorem dX10_ahead_9 : decode cX10_ahead 9 = .ok (.ifCond .ne 21, 3) := by decide +kernel
theorem dX10_ahead_12 : decode cX10_ahead 12 = .ok (.iload_n 3, 1) := by decide +kernel
theorem dX10_ahead_13 : decode cX10_ahead 13 = .ok (.iconst 1, 1) := by decide +kernel
theorem dX10_ahead_14 : decode cX10_ahead 14 = .ok (.if_icmp .ne 11, 3) := by decide +kernel
theorem dX10_ahead_17 : decode cX10_ahead 17 = .ok (.aload_n 0, 1) := by decide +kernel
theorem dX10_ahead_18 : decode cX10_ahead 18 = .ok (.iload_n 1, 1) := by decide +kernel
theorem dX10_ahead_19 : decode cX10_ahead 19 = .ok (.invokevirtual 374, 3) := by decide +kernel
theorem dX10_ahead_22 : decode cX10_ahead 22 = .ok (.ifCond .ne 8, 3) := by decide +kernel
theorem dX10_ahead_25 : decode cX10_ahead 25 = .ok (.iload_n 3, 1) := by decide +kernel
theorem dX10_ahead_26 : decode cX10_ahead 26 = .ok (.iconst 2, 1) := by decide +kernel
theorem dX10_ahead_27 : decode cX10_ahead 27 = .ok (.if_icmp .ne 7, 3) := by decide +kernel
theorem dX10_ahead_30 : decode cX10_ahead 30 = .ok (.iconst 1, 1) := by decide +kernel
theorem dX10_ahead_31 : decode cX10_ahead 31 = .ok (.goto 4, 3) := by decide +kernel
theorem dX10_ahead_34 : decode cX10_ahead 34 = .ok (.iconst 0, 1) := by decide +kernel
theorem dX10_ahead_35 : decode cX10_ahead 35 = .ok (.istore 4, 2) := by decide +kernel
theorem dX10_ahead_37 : decode cX10_ahead 37 = .ok (.aload_n 0, 1) := by decide +kernel
theorem dX10_ahead_38 : decode cX10_ahead 38 = .ok (.getfield 327, 3) := by decide +kernel
theorem dX10_ahead_41 : decode cX10_ahead 41 = .ok (.ifCond .eq 20, 3) := by decide +kernel
theorem dX10_ahead_44 : decode cX10_ahead 44 = .ok (.iload 4, 2) := by decide +kernel
theorem dX10_ahead_46 : decode cX10_ahead 46 = .ok (.ifCond .eq 15, 3) := by decide +kernel
theorem dX10_ahead_49 : decode cX10_ahead 49 = .ok (.iload_n 2, 1) := by decide +kernel
theorem dX10_ahead_50 : decode cX10_ahead 50 = .ok (.i2l, 1) := by decide +kernel
theorem dX10_ahead_51 : decode cX10_ahead 51 = .ok (.lconst 0, 1) := by decide +kernel
theorem dX10_ahead_52 : decode cX10_ahead 52 = .ok (.ldc2_w 446, 3) := by decide +kernel
theorem dX10_ahead_55 : decode cX10_ahead 55 = .ok (.invokestatic 152, 3) := by decide +kernel
theorem dX10_ahead_58 : decode cX10_ahead 58 = .ok (.ifCond .ne 6, 3) := by decide +kernel
theorem dX10_ahead_61 : decode cX10_ahead 61 = .ok (.bipush (-2), 2) := by decide +kernel
theorem dX10_ahead_63 : decode cX10_ahead 63 = .ok (.ireturn, 1) := by decide +kernel
theorem dX10_ahead_64 : decode cX10_ahead 64 = .ok (.aload_n 0, 1) := by decide +kernel
theorem dX10_ahead_65 : decode cX10_ahead 65 = .ok (.invokevirtual 448, 3) := by decide +kernel
theorem dX10_ahead_68 : decode cX10_ahead 68 = .ok (.aload_n 0, 1) := by decide +kernel
theorem dX10_ahead_69 : decode cX10_ahead 69 = .ok (.iload_n 2, 1) := by decide +kernel
theorem dX10_ahead_70 : decode cX10_ahead 70 = .ok (.invokevirtual 451, 3) := by decide +kernel
theorem dX10_ahead_73 : decode cX10_ahead 73 = .ok (.iload_n 3, 1) := by decide +kernel
theorem dX10_ahead_74 : decode cX10_ahead 74 = .ok (.ifCond .ne 12, 3) := by decide +kernel
theorem dX10_ahead_77 : decode cX10_ahead 77 = .ok (.aload_n 0, 1) := by decide +kernel
theorem dX10_ahead_78 : decode cX10_ahead 78 = .ok (.getfield 13, 3) := by decide +kernel
theorem dX10_ahead_81 : decode cX10_ahead 81 = .ok (.iload_n 1, 1) := by decide +kernel
theorem dX10_ahead_82 : decode cX10_ahead 82 = .ok (.iaload, 1) := by decide +kernel
theorem dX10_ahead_83 : decode cX10_ahead 83 = .ok (.goto 27, 3) := by decide +kernel
theorem dX10_ahead_86 : decode cX10_ahead 86 = .ok (.iload_n 3, 1) := by decide +kernel
theorem dX10_ahead_87 : decode cX10_ahead 87 = .ok (.iconst 1, 1) := by decide +kernel
theorem dX10_ahead_88 : decode cX10_ahead 88 = .ok (.if_icmp .ne 12, 3) := by decide +kernel
theorem dX10_ahead_91 : decode cX10_ahead 91 = .ok (.aload_n 0, 1) := by decide +kernel
theorem dX10_ahead_92 : decode cX10_ahead 92 = .ok (.getfield 37, 3) := by decide +kernel
theorem dX10_ahead_95 : decode cX10_ahead 95 = .ok (.iload_n 1, 1) := by decide +kernel
theorem dX10_ahead_96 : decode cX10_ahead 96 = .ok (.iaload, 1) := by decide +kernel
theorem dX10_ahead_97 : decode cX10_ahead 97 = .ok (.goto 13, 3) := by decide +kernel
theorem dX10_ahead_100 : decode cX10_ahead 100 = .ok (.aload_n 0, 1) := by decide +kernel
theorem dX10_ahead_101 : decode cX10_ahead 101 = .ok (.getfield 9, 3) := by decide +kernel
theorem dX10_ahead_104 : decode cX10_ahead 104 = .ok (.bipush 7, 2) := by decide +kernel
theorem dX10_ahead_106 : decode cX10_ahead 106 = .ok (.iaload, 1) := by decide +kernel
theorem dX10_ahead_107 : decode cX10_ahead 107 = .ok (.invokestatic 380, 3) := by decide +kernel
theorem dX10_ahead_110 : decode cX10_ahead 110 = .ok (.istore 5, 2) := by decide +kernel
theorem dX10_ahead_112 : decode cX10_ahead 112 = .ok (.aload_n 0, 1) := by decide +kernel
theorem dX10_ahead_113 : decode cX10_ahead 113 = .ok (.invokevirtual 454, 3) := by decide +kernel
theorem dX10_ahead_116 : decode cX10_ahead 116 = .ok (.iload 5, 2) := by decide +kernel
theorem dX10_ahead_118 : decode cX10_ahead 118 = .ok (.ireturn, 1) := by decide +kernel
theorem dX10_freezes_0 : decode cX10_freezes 0 = .ok (.aload_n 0, 1) := by decide +kernel
theorem dX10_freezes_1 : decode cX10_freezes 1 = .ok (.iload_n 1, 1) := by decide +kernel
theorem dX10_freezes_2 : decode cX10_freezes 2 = .ok (.invokevirtual 367, 3) := by decide +kernel
theorem dX10_freezes_5 : decode cX10_freezes 5 = .ok (.ifCond .eq 11, 3) := by decide +kernel
theorem dX10_freezes_8 : decode cX10_freezes 8 = .ok (.aload_n 0, 1) := by decide +kernel
theorem dX10_freezes_9 : decode cX10_freezes 9 = .ok (.iload_n 1, 1) := by decide +kernel
theorem dX10_freezes_10 : decode cX10_freezes 10 = .ok (.invokevirtual 371, 3) := by decide +kernel
theorem dX10_freezes_13 : decode cX10_freezes 13 = .ok (.ifCond .eq 5, 3) := by decide +kernel
theorem dX10_freezes_16 : decode cX10_freezes 16 = .ok (.iconst (-1), 1) := by decide +kernel
theorem dX10_freezes_17 : decode cX10_freezes 17 = .ok (.ireturn, 1) := by decide +kernel
theorem dX10_freezes_18 : decode cX10_freezes 18 = .ok (.aload_n 0, 1) := by decide +kernel
theorem dX10_freezes_19 : decode cX10_freezes 19 = .ok (.invokevirtual 448, 3) := by decide +kernel
theorem dX10_freezes_22 : decode cX10_freezes 22 = .ok (.bipush (-2), 2) := by decide +kernel
theorem dX10_freezes_24 : decode cX10_freezes 24 = .ok (.istore_n 2, 1) := by decide +kernel
theorem dX10_freezes_25 : decode cX10_freezes 25 = .ok (.iconst 0, 1) := by decide +kernel
theorem dX10_freezes_26 : decode cX10_freezes 26 = .ok (.istore_n 3, 1) := by decide +kernel
theorem dX10_freezes_27 : decode cX10_freezes 27 = .ok (.iload_n 3, 1) := by decide +kernel
theorem dX10_freezes_28 : decode cX10_freezes 28 = .ok (.sipush 200, 3) := by decide +kernel
theorem dX10_freezes_31 : decode cX10_freezes 31 = .ok (.if_icmp .ge 43, 3) := by decide +kernel
theorem dX10_freezes_34 : decode cX10_freezes 34 = .ok (.iload_n 2, 1) := by decide +kernel
theorem dX10_freezes_35 : decode cX10_freezes 35 = .ok (.bipush (-2), 2) := by decide +kernel
theorem dX10_freezes_37 : decode cX10_freezes 37 = .ok (.if_icmp .ne 37, 3) := by decide +kernel
theorem dX10_freezes_40 : decode cX10_freezes 40 = .ok (.aload_n 0, 1) := by decide +kernel
theorem dX10_freezes_41 : decode cX10_freezes 41 = .ok (.invokevirtual 411, 3) := by decide +kernel
theorem dX10_freezes_44 : decode cX10_freezes 44 = .ok (.pop, 1) := by decide +kernel
theorem dX10_freezes_45 : decode cX10_freezes 45 = .ok (.aload_n 0, 1) := by decide +kernel
theorem dX10_freezes_46 : decode cX10_freezes 46 = .ok (.iload_n 1, 1) := by decide +kernel
theorem dX10_freezes_47 : decode cX10_freezes 47 = .ok (.invokevirtual 371, 3) := by decide +kernel
theorem dX10_freezes_50 : decode cX10_freezes 50 = .ok (.ifCond .eq 15, 3) := by decide +kernel
theorem dX10_freezes_53 : decode cX10_freezes 53 = .ok (.aload_n 0, 1) := by decide +kernel
theorem dX10_freezes_54 : decode cX10_freezes 54 = .ok (.getfield 9, 3) := by decide +kernel
theorem dX10_freezes_57 : decode cX10_freezes 57 = .ok (.bipush 6, 2) := by decide +kernel
theorem dX10_freezes_59 : decode cX10_freezes 59 = .ok (.iaload, 1) := by decide +kernel
theorem dX10_freezes_60 : decode cX10_freezes 60 = .ok (.iconst 1, 1) := by decide +kernel
theorem dX10_freezes_61 : decode cX10_freezes 61 = .ok (.isub, 1) := by decide +kernel
theorem dX10_freezes_62 : decode cX10_freezes 62 = .ok (.goto 5, 3) := by decide +kernel
theorem dX10_freezes_65 : decode cX10_freezes 65 = .ok (.bipush (-2), 2) := by decide +kernel
theorem dX10_freezes_67 : decode cX10_freezes 67 = .ok (.istore_n 2, 1) := by decide +kernel
theorem dX10_freezes_68 : decode cX10_freezes 68 = .ok (.iinc 3 1, 3) := by decide +kernel
theorem dX10_freezes_71 : decode cX10_freezes 71 = .ok (.goto (-44), 3) := by decide +kernel
theorem dX10_freezes_74 : decode cX10_freezes 74 = .ok (.aload_n 0, 1) := by decide +kernel
theorem dX10_freezes_75 : decode cX10_freezes 75 = .ok (.invokevirtual 454, 3) := by decide +kernel
theorem dX10_freezes_78 : decode cX10_freezes 78 = .ok (.iload_n 2, 1) := by decide +kernel
theorem dX10_freezes_79 : decode cX10_freezes 79 = .ok (.ireturn, 1) := by decide +kernel
theorem dX10_takenBy_0 : decode cX10_takenBy 0 = .ok (.iconst 1, 1) := by decide +kernel
theorem dX10_takenBy_1 : decode cX10_takenBy 1 = .ok (.istore 4, 2) := by decide +kernel
theorem dX10_takenBy_3 : decode cX10_takenBy 3 = .ok (.iconst 1, 1) := by decide +kernel
theorem dX10_takenBy_4 : decode cX10_takenBy 4 = .ok (.istore 5, 2) := by decide +kernel
theorem dX10_takenBy_6 : decode cX10_takenBy 6 = .ok (.iload 5, 2) := by decide +kernel
theorem dX10_takenBy_8 : decode cX10_takenBy 8 = .ok (.iload_n 2, 1) := by decide +kernel
theorem dX10_takenBy_9 : decode cX10_takenBy 9 = .ok (.if_icmp .ge 20, 3) := by decide +kernel
theorem dX10_takenBy_12 : decode cX10_takenBy 12 = .ok (.iload 4, 2) := by decide +kernel
theorem dX10_takenBy_14 : decode cX10_takenBy 14 = .ok (.aload_n 0, 1) := by decide +kernel
theorem dX10_takenBy_15 : decode cX10_takenBy 15 = .ok (.getfield 9, 3) := by decide +kernel
theorem dX10_takenBy_18 : decode cX10_takenBy 18 = .ok (.iconst 3, 1) := by decide +kernel
theorem dX10_takenBy_19 : decode cX10_takenBy 19 = .ok (.iaload, 1) := by decide +kernel
theorem dX10_takenBy_20 : decode cX10_takenBy 20 = .ok (.imul, 1) := by decide +kernel
theorem dX10_takenBy_21 : decode cX10_takenBy 21 = .ok (.istore 4, 2) := by decide +kernel
theorem dX10_takenBy_23 : decode cX10_takenBy 23 = .ok (.iinc 5 1, 3) := by decide +kernel
theorem dX10_takenBy_26 : decode cX10_takenBy 26 = .ok (.goto (-20), 3) := by decide +kernel
theorem dX10_takenBy_29 : decode cX10_takenBy 29 = .ok (.aload_n 0, 1) := by decide +kernel
theorem dX10_takenBy_30 : decode cX10_takenBy 30 = .ok (.getfield 9, 3) := by decide +kernel
theorem dX10_takenBy_33 : decode cX10_takenBy 33 = .ok (.bipush 7, 2) := by decide +kernel
theorem dX10_takenBy_35 : decode cX10_takenBy 35 = .ok (.iaload, 1) := by decide +kernel
theorem dX10_takenBy_36 : decode cX10_takenBy 36 = .ok (.istore 5, 2) := by decide +kernel
theorem dX10_takenBy_38 : decode cX10_takenBy 38 = .ok (.iconst 0, 1) := by decide +kernel
theorem dX10_takenBy_39 : decode cX10_takenBy 39 = .ok (.istore 6, 2) := by decide +kernel
theorem dX10_takenBy_41 : decode cX10_takenBy 41 = .ok (.iconst 1, 1) := by decide +kernel
theorem dX10_takenBy_42 : decode cX10_takenBy 42 = .ok (.istore 7, 2) := by decide +kernel
theorem dX10_takenBy_44 : decode cX10_takenBy 44 = .ok (.iconst 0, 1) := by decide +kernel
theorem dX10_takenBy_45 : decode cX10_takenBy 45 = .ok (.istore 8, 2) := by decide +kernel
theorem dX10_takenBy_47 : decode cX10_takenBy 47 = .ok (.iload 8, 2) := by decide +kernel
theorem dX10_takenBy_49 : decode cX10_takenBy 49 = .ok (.iload_n 2, 1) := by decide +kernel
theorem dX10_takenBy_50 : decode cX10_takenBy 50 = .ok (.if_icmp .ge 84, 3) := by decide +kernel
theorem dX10_takenBy_53 : decode cX10_takenBy 53 = .ok (.iload 7, 2) := by decide +kernel
theorem dX10_takenBy_55 : decode cX10_takenBy 55 = .ok (.ifCond .eq 79, 3) := by decide +kernel
theorem dX10_takenBy_58 : decode cX10_takenBy 58 = .ok (.iload_n 3, 1) := by decide +kernel
theorem dX10_takenBy_59 : decode cX10_takenBy 59 = .ok (.iload 4, 2) := by decide +kernel
theorem dX10_takenBy_61 : decode cX10_takenBy 61 = .ok (.idiv, 1) := by decide +kernel
theorem dX10_takenBy_62 : decode cX10_takenBy 62 = .ok (.aload_n 0, 1) := by decide +kernel
theorem dX10_takenBy_63 : decode cX10_takenBy 63 = .ok (.getfield 9, 3) := by decide +kernel
theorem dX10_takenBy_66 : decode cX10_takenBy 66 = .ok (.iconst 3, 1) := by decide +kernel
theorem dX10_takenBy_67 : decode cX10_takenBy 67 = .ok (.iaload, 1) := by decide +kernel
theorem dX10_takenBy_68 : decode cX10_takenBy 68 = .ok (.irem, 1) := by decide +kernel
theorem dX10_takenBy_69 : decode cX10_takenBy 69 = .ok (.istore 9, 2) := by decide +kernel
theorem dX10_takenBy_71 : decode cX10_takenBy 71 = .ok (.iload 4, 2) := by decide +kernel
theorem dX10_takenBy_73 : decode cX10_takenBy 73 = .ok (.aload_n 0, 1) := by decide +kernel
theorem dX10_takenBy_74 : decode cX10_takenBy 74 = .ok (.getfield 9, 3) := by decide +kernel
theorem dX10_takenBy_77 : decode cX10_takenBy 77 = .ok (.iconst 3, 1) := by decide +kernel
theorem dX10_takenBy_78 : decode cX10_takenBy 78 = .ok (.iaload, 1) := by decide +kernel
theorem dX10_takenBy_79 : decode cX10_takenBy 79 = .ok (.idiv, 1) := by decide +kernel
theorem dX10_takenBy_80 : decode cX10_takenBy 80 = .ok (.ifCond .le 15, 3) := by decide +kernel
theorem dX10_takenBy_83 : decode cX10_takenBy 83 = .ok (.iload 4, 2) := by decide +kernel
theorem dX10_takenBy_85 : decode cX10_takenBy 85 = .ok (.aload_n 0, 1) := by decide +kernel
theorem dX10_takenBy_86 : decode cX10_takenBy 86 = .ok (.getfield 9, 3) := by decide +kernel
theorem dX10_takenBy_89 : decode cX10_takenBy 89 = .ok (.iconst 3, 1) := by decide +kernel
theorem dX10_takenBy_90 : decode cX10_takenBy 90 = .ok (.iaload, 1) := by decide +kernel
theorem dX10_takenBy_91 : decode cX10_takenBy 91 = .ok (.idiv, 1) := by decide +kernel
theorem dX10_takenBy_92 : decode cX10_takenBy 92 = .ok (.goto 4, 3) := by decide +kernel
theorem dX10_takenBy_95 : decode cX10_takenBy 95 = .ok (.iconst 1, 1) := by decide +kernel
theorem dX10_takenBy_96 : decode cX10_takenBy 96 = .ok (.istore 4, 2) := by decide +kernel
theorem dX10_takenBy_98 : decode cX10_takenBy 98 = .ok (.aload_n 0, 1) := by decide +kernel
theorem dX10_takenBy_99 : decode cX10_takenBy 99 = .ok (.iload_n 1, 1) := by decide +kernel
theorem dX10_takenBy_100 : decode cX10_takenBy 100 = .ok (.iload 9, 2) := by decide +kernel
theorem dX10_takenBy_102 : decode cX10_takenBy 102 = .ok (.invokevirtual 389, 3) := by decide +kernel
theorem dX10_takenBy_105 : decode cX10_takenBy 105 = .ok (.istore 7, 2) := by decide +kernel
theorem dX10_takenBy_107 : decode cX10_takenBy 107 = .ok (.iload 7, 2) := by decide +kernel
theorem dX10_takenBy_109 : decode cX10_takenBy 109 = .ok (.ifCond .eq 19, 3) := by decide +kernel
theorem dX10_takenBy_112 : decode cX10_takenBy 112 = .ok (.iload 6, 2) := by decide +kernel
theorem dX10_takenBy_114 : decode cX10_takenBy 114 = .ok (.aload_n 0, 1) := by decide +kernel
theorem dX10_takenBy_115 : decode cX10_takenBy 115 = .ok (.iload_n 1, 1) := by decide +kernel
theorem dX10_takenBy_116 : decode cX10_takenBy 116 = .ok (.iload 9, 2) := by decide +kernel
theorem dX10_takenBy_118 : decode cX10_takenBy 118 = .ok (.invokevirtual 396, 3) := by decide +kernel
theorem dX10_takenBy_121 : decode cX10_takenBy 121 = .ok (.iadd, 1) := by decide +kernel
theorem dX10_takenBy_122 : decode cX10_takenBy 122 = .ok (.istore 6, 2) := by decide +kernel
theorem dX10_takenBy_124 : decode cX10_takenBy 124 = .ok (.aload_n 0, 1) := by decide +kernel
theorem dX10_takenBy_125 : decode cX10_takenBy 125 = .ok (.invokevirtual 408, 3) := by decide +kernel
theorem dX10_takenBy_128 : decode cX10_takenBy 128 = .ok (.iinc 8 1, 3) := by decide +kernel
theorem dX10_takenBy_131 : decode cX10_takenBy 131 = .ok (.goto (-84), 3) := by decide +kernel
theorem dX10_takenBy_134 : decode cX10_takenBy 134 = .ok (.aload_n 0, 1) := by decide +kernel
theorem dX10_takenBy_135 : decode cX10_takenBy 135 = .ok (.aload_n 0, 1) := by decide +kernel
theorem dX10_takenBy_136 : decode cX10_takenBy 136 = .ok (.getfield 9, 3) := by decide +kernel
theorem dX10_takenBy_139 : decode cX10_takenBy 139 = .ok (.bipush 7, 2) := by decide +kernel
theorem dX10_takenBy_141 : decode cX10_takenBy 141 = .ok (.iaload, 1) := by decide +kernel
theorem dX10_takenBy_142 : decode cX10_takenBy 142 = .ok (.iload 5, 2) := by decide +kernel
theorem dX10_takenBy_144 : decode cX10_takenBy 144 = .ok (.iconst (-1), 1) := by decide +kernel
theorem dX10_takenBy_145 : decode cX10_takenBy 145 = .ok (.ixor, 1) := by decide +kernel
theorem dX10_takenBy_146 : decode cX10_takenBy 146 = .ok (.iand, 1) := by decide +kernel
theorem dX10_takenBy_147 : decode cX10_takenBy 147 = .ok (.putfield 457, 3) := by decide +kernel
theorem dX10_takenBy_150 : decode cX10_takenBy 150 = .ok (.aload_n 0, 1) := by decide +kernel
theorem dX10_takenBy_151 : decode cX10_takenBy 151 = .ok (.invokevirtual 454, 3) := by decide +kernel
theorem dX10_takenBy_154 : decode cX10_takenBy 154 = .ok (.iload 7, 2) := by decide +kernel
theorem dX10_takenBy_156 : decode cX10_takenBy 156 = .ok (.ifCond .eq 8, 3) := by decide +kernel
theorem dX10_takenBy_159 : decode cX10_takenBy 159 = .ok (.iload 6, 2) := by decide +kernel
theorem dX10_takenBy_161 : decode cX10_takenBy 161 = .ok (.goto 4, 3) := by decide +kernel
theorem dX10_takenBy_164 : decode cX10_takenBy 164 = .ok (.iconst (-1), 1) := by decide +kernel
theorem dX10_takenBy_165 : decode cX10_takenBy 165 = .ok (.ireturn, 1) := by decide +kernel
theorem dX10_rowsOf_0 : decode cX10_rowsOf 0 = .ok (.iconst 1, 1) := by decide +kernel
theorem dX10_rowsOf_1 : decode cX10_rowsOf 1 = .ok (.istore_n 2, 1) := by decide +kernel
theorem dX10_rowsOf_2 : decode cX10_rowsOf 2 = .ok (.iconst 0, 1) := by decide +kernel
theorem dX10_rowsOf_3 : decode cX10_rowsOf 3 = .ok (.istore_n 3, 1) := by decide +kernel
theorem dX10_rowsOf_4 : decode cX10_rowsOf 4 = .ok (.iload_n 3, 1) := by decide +kernel
theorem dX10_rowsOf_5 : decode cX10_rowsOf 5 = .ok (.iload_n 1, 1) := by decide +kernel
theorem dX10_rowsOf_6 : decode cX10_rowsOf 6 = .ok (.if_icmp .ge 18, 3) := by decide +kernel
theorem dX10_rowsOf_9 : decode cX10_rowsOf 9 = .ok (.iload_n 2, 1) := by decide +kernel
theorem dX10_rowsOf_10 : decode cX10_rowsOf 10 = .ok (.aload_n 0, 1) := by decide +kernel
theorem dX10_rowsOf_11 : decode cX10_rowsOf 11 = .ok (.getfield 9, 3) := by decide +kernel
theorem dX10_rowsOf_14 : decode cX10_rowsOf 14 = .ok (.iconst 3, 1) := by decide +kernel
theorem dX10_rowsOf_15 : decode cX10_rowsOf 15 = .ok (.iaload, 1) := by decide +kernel
theorem dX10_rowsOf_16 : decode cX10_rowsOf 16 = .ok (.imul, 1) := by decide +kernel
theorem dX10_rowsOf_17 : decode cX10_rowsOf 17 = .ok (.istore_n 2, 1) := by decide +kernel
theorem dX10_rowsOf_18 : decode cX10_rowsOf 18 = .ok (.iinc 3 1, 3) := by decide +kernel
theorem dX10_rowsOf_21 : decode cX10_rowsOf 21 = .ok (.goto (-17), 3) := by decide +kernel
theorem dX10_rowsOf_24 : decode cX10_rowsOf 24 = .ok (.iload_n 2, 1) := by decide +kernel
theorem dX10_rowsOf_25 : decode cX10_rowsOf 25 = .ok (.ireturn, 1) := by decide +kernel
theorem dX10_round_0 : decode cX10_round 0 = .ok (.aload_n 0, 1) := by decide +kernel
theorem dX10_round_1 : decode cX10_round 1 = .ok (.iload_n 1, 1) := by decide +kernel
theorem dX10_round_2 : decode cX10_round 2 = .ok (.invokevirtual 374, 3) := by decide +kernel
theorem dX10_round_5 : decode cX10_round 5 = .ok (.ifCond .eq 29, 3) := by decide +kernel
theorem dX10_round_8 : decode cX10_round 8 = .ok (.iload_n 2, 1) := by decide +kernel
theorem dX10_round_9 : decode cX10_round 9 = .ok (.i2l, 1) := by decide +kernel
theorem dX10_round_10 : decode cX10_round 10 = .ok (.lconst 1, 1) := by decide +kernel
theorem dX10_round_11 : decode cX10_round 11 = .ok (.ldc2_w 460, 3) := by decide +kernel
theorem dX10_round_14 : decode cX10_round 14 = .ok (.invokestatic 152, 3) := by decide +kernel
theorem dX10_round_17 : decode cX10_round 17 = .ok (.ifCond .eq 17, 3) := by decide +kernel
theorem dX10_round_20 : decode cX10_round 20 = .ok (.iload_n 3, 1) := by decide +kernel
theorem dX10_round_21 : decode cX10_round 21 = .ok (.i2l, 1) := by decide +kernel
theorem dX10_round_22 : decode cX10_round 22 = .ok (.ldc2_w 353, 3) := by decide +kernel
theorem dX10_round_25 : decode cX10_round 25 = .ok (.ldc2_w 462, 3) := by decide +kernel
theorem dX10_round_28 : decode cX10_round 28 = .ok (.invokestatic 152, 3) := by decide +kernel
theorem dX10_round_31 : decode cX10_round 31 = .ok (.ifCond .ne 6, 3) := by decide +kernel
theorem dX10_round_34 : decode cX10_round 34 = .ok (.bipush (-3), 2) := by decide +kernel
theorem dX10_round_36 : decode cX10_round 36 = .ok (.ireturn, 1) := by decide +kernel
theorem dX10_round_37 : decode cX10_round 37 = .ok (.bipush (-2), 2) := by decide +kernel
theorem dX10_round_39 : decode cX10_round 39 = .ok (.istore 4, 2) := by decide +kernel
theorem dX10_round_41 : decode cX10_round 41 = .ok (.bipush (-2), 2) := by decide +kernel
theorem dX10_round_43 : decode cX10_round 43 = .ok (.istore 5, 2) := by decide +kernel
theorem dX10_round_45 : decode cX10_round 45 = .ok (.aload_n 0, 1) := by decide +kernel
theorem dX10_round_46 : decode cX10_round 46 = .ok (.invokevirtual 448, 3) := by decide +kernel
theorem dX10_round_49 : decode cX10_round 49 = .ok (.iconst 0, 1) := by decide +kernel
theorem dX10_round_50 : decode cX10_round 50 = .ok (.istore 6, 2) := by decide +kernel
theorem dX10_round_52 : decode cX10_round 52 = .ok (.iload 6, 2) := by decide +kernel
theorem dX10_round_54 : decode cX10_round 54 = .ok (.aload_n 0, 1) := by decide +kernel
theorem dX10_round_55 : decode cX10_round 55 = .ok (.iload_n 2, 1) := by decide +kernel
theorem dX10_round_56 : decode cX10_round 56 = .ok (.invokevirtual 464, 3) := by decide +kernel
theorem dX10_round_59 : decode cX10_round 59 = .ok (.if_icmp .ge 47, 3) := by decide +kernel
theorem dX10_round_62 : decode cX10_round 62 = .ok (.aload_n 0, 1) := by decide +kernel
theorem dX10_round_63 : decode cX10_round 63 = .ok (.iload_n 1, 1) := by decide +kernel
theorem dX10_round_64 : decode cX10_round 64 = .ok (.iload_n 2, 1) := by decide +kernel
theorem dX10_round_65 : decode cX10_round 65 = .ok (.iload 6, 2) := by decide +kernel
theorem dX10_round_67 : decode cX10_round 67 = .ok (.invokevirtual 467, 3) := by decide +kernel
theorem dX10_round_70 : decode cX10_round 70 = .ok (.istore 7, 2) := by decide +kernel
theorem dX10_round_72 : decode cX10_round 72 = .ok (.iload 7, 2) := by decide +kernel
theorem dX10_round_74 : decode cX10_round 74 = .ok (.iload 5, 2) := by decide +kernel
theorem dX10_round_76 : decode cX10_round 76 = .ok (.if_icmp .le 24, 3) := by decide +kernel
theorem dX10_round_79 : decode cX10_round 79 = .ok (.iload 7, 2) := by decide +kernel
theorem dX10_round_81 : decode cX10_round 81 = .ok (.iconst (-1), 1) := by decide +kernel
theorem dX10_round_82 : decode cX10_round 82 = .ok (.if_icmp .eq 18, 3) := by decide +kernel
theorem dX10_round_85 : decode cX10_round 85 = .ok (.aload_n 0, 1) := by decide +kernel
theorem dX10_round_86 : decode cX10_round 86 = .ok (.getfield 457, 3) := by decide +kernel
theorem dX10_round_89 : decode cX10_round 89 = .ok (.ifCond .ne 11, 3) := by decide +kernel
theorem dX10_round_92 : decode cX10_round 92 = .ok (.iload 6, 2) := by decide +kernel
theorem dX10_round_94 : decode cX10_round 94 = .ok (.istore 4, 2) := by decide +kernel
theorem dX10_round_96 : decode cX10_round 96 = .ok (.iload 7, 2) := by decide +kernel
theorem dX10_round_98 : decode cX10_round 98 = .ok (.istore 5, 2) := by decide +kernel
theorem dX10_round_100 : decode cX10_round 100 = .ok (.iinc 6 1, 3) := by decide +kernel
theorem dX10_round_103 : decode cX10_round 103 = .ok (.goto (-51), 3) := by decide +kernel
theorem dX10_round_106 : decode cX10_round 106 = .ok (.iload 4, 2) := by decide +kernel
theorem dX10_round_108 : decode cX10_round 108 = .ok (.bipush (-2), 2) := by decide +kernel
theorem dX10_round_110 : decode cX10_round 110 = .ok (.if_icmp .eq 8, 3) := by decide +kernel
theorem dX10_round_113 : decode cX10_round 113 = .ok (.iload_n 3, 1) := by decide +kernel
theorem dX10_round_114 : decode cX10_round 114 = .ok (.iconst (-1), 1) := by decide +kernel
theorem dX10_round_115 : decode cX10_round 115 = .ok (.if_icmp .ne 6, 3) := by decide +kernel
theorem dX10_round_118 : decode cX10_round 118 = .ok (.iload 5, 2) := by decide +kernel
theorem dX10_round_120 : decode cX10_round 120 = .ok (.ireturn, 1) := by decide +kernel
theorem dX10_round_121 : decode cX10_round 121 = .ok (.iload 4, 2) := by decide +kernel
theorem dX10_round_123 : decode cX10_round 123 = .ok (.istore 6, 2) := by decide +kernel
theorem dX10_round_125 : decode cX10_round 125 = .ok (.iload_n 2, 1) := by decide +kernel
theorem dX10_round_126 : decode cX10_round 126 = .ok (.iconst 1, 1) := by decide +kernel
theorem dX10_round_127 : decode cX10_round 127 = .ok (.isub, 1) := by decide +kernel
theorem dX10_round_128 : decode cX10_round 128 = .ok (.istore 7, 2) := by decide +kernel
theorem dX10_round_130 : decode cX10_round 130 = .ok (.iload 7, 2) := by decide +kernel
theorem dX10_round_132 : decode cX10_round 132 = .ok (.iload_n 3, 1) := by decide +kernel
theorem dX10_round_133 : decode cX10_round 133 = .ok (.if_icmp .le 20, 3) := by decide +kernel
theorem dX10_round_136 : decode cX10_round 136 = .ok (.iload 6, 2) := by decide +kernel
theorem dX10_round_138 : decode cX10_round 138 = .ok (.aload_n 0, 1) := by decide +kernel
theorem dX10_round_139 : decode cX10_round 139 = .ok (.getfield 9, 3) := by decide +kernel
theorem dX10_round_142 : decode cX10_round 142 = .ok (.iconst 3, 1) := by decide +kernel
theorem dX10_round_143 : decode cX10_round 143 = .ok (.iaload, 1) := by decide +kernel
theorem dX10_round_144 : decode cX10_round 144 = .ok (.idiv, 1) := by decide +kernel
theorem dX10_round_145 : decode cX10_round 145 = .ok (.istore 6, 2) := by decide +kernel
theorem dX10_round_147 : decode cX10_round 147 = .ok (.iinc 7 (-1), 3) := by decide +kernel
theorem dX10_round_150 : decode cX10_round 150 = .ok (.goto (-20), 3) := by decide +kernel
theorem dX10_round_153 : decode cX10_round 153 = .ok (.iload_n 3, 1) := by decide +kernel
theorem dX10_round_154 : decode cX10_round 154 = .ok (.iload_n 2, 1) := by decide +kernel
theorem dX10_round_155 : decode cX10_round 155 = .ok (.if_icmp .ge 15, 3) := by decide +kernel
theorem dX10_round_158 : decode cX10_round 158 = .ok (.iload 6, 2) := by decide +kernel
theorem dX10_round_160 : decode cX10_round 160 = .ok (.aload_n 0, 1) := by decide +kernel
theorem dX10_round_161 : decode cX10_round 161 = .ok (.getfield 9, 3) := by decide +kernel
theorem dX10_round_164 : decode cX10_round 164 = .ok (.iconst 3, 1) := by decide +kernel
theorem dX10_round_165 : decode cX10_round 165 = .ok (.iaload, 1) := by decide +kernel
theorem dX10_round_166 : decode cX10_round 166 = .ok (.irem, 1) := by decide +kernel
theorem dX10_round_167 : decode cX10_round 167 = .ok (.goto 5, 3) := by decide +kernel
theorem dX10_round_170 : decode cX10_round 170 = .ok (.bipush (-2), 2) := by decide +kernel
theorem dX10_round_172 : decode cX10_round 172 = .ok (.ireturn, 1) := by decide +kernel
theorem dX10_span_0 : decode cX10_span 0 = .ok (.aload_n 0, 1) := by decide +kernel
theorem dX10_span_1 : decode cX10_span 1 = .ok (.iload_n 1, 1) := by decide +kernel
theorem dX10_span_2 : decode cX10_span 2 = .ok (.invokevirtual 374, 3) := by decide +kernel
theorem dX10_span_5 : decode cX10_span 5 = .ok (.ifCond .eq 25, 3) := by decide +kernel
theorem dX10_span_8 : decode cX10_span 8 = .ok (.iload_n 2, 1) := by decide +kernel
theorem dX10_span_9 : decode cX10_span 9 = .ok (.i2l, 1) := by decide +kernel
theorem dX10_span_10 : decode cX10_span 10 = .ok (.lconst 1, 1) := by decide +kernel
theorem dX10_span_11 : decode cX10_span 11 = .ok (.ldc2_w 460, 3) := by decide +kernel
theorem dX10_span_14 : decode cX10_span 14 = .ok (.invokestatic 152, 3) := by decide +kernel
theorem dX10_span_17 : decode cX10_span 17 = .ok (.ifCond .eq 13, 3) := by decide +kernel
theorem dX10_span_20 : decode cX10_span 20 = .ok (.iload_n 3, 1) := by decide +kernel
theorem dX10_span_21 : decode cX10_span 21 = .ok (.i2l, 1) := by decide +kernel
theorem dX10_span_22 : decode cX10_span 22 = .ok (.lconst 0, 1) := by decide +kernel
theorem dX10_span_23 : decode cX10_span 23 = .ok (.lconst 1, 1) := by decide +kernel
theorem dX10_span_24 : decode cX10_span 24 = .ok (.invokestatic 152, 3) := by decide +kernel
theorem dX10_span_27 : decode cX10_span 27 = .ok (.ifCond .ne 5, 3) := by decide +kernel
theorem dX10_span_30 : decode cX10_span 30 = .ok (.iconst (-1), 1) := by decide +kernel
theorem dX10_span_31 : decode cX10_span 31 = .ok (.ireturn, 1) := by decide +kernel
theorem dX10_span_32 : decode cX10_span 32 = .ok (.bipush (-2), 2) := by decide +kernel
theorem dX10_span_34 : decode cX10_span 34 = .ok (.istore 4, 2) := by decide +kernel
theorem dX10_span_36 : decode cX10_span 36 = .ok (.bipush (-2), 2) := by decide +kernel
theorem dX10_span_38 : decode cX10_span 38 = .ok (.istore 5, 2) := by decide +kernel
theorem dX10_span_40 : decode cX10_span 40 = .ok (.aload_n 0, 1) := by decide +kernel
theorem dX10_span_41 : decode cX10_span 41 = .ok (.invokevirtual 448, 3) := by decide +kernel
theorem dX10_span_44 : decode cX10_span 44 = .ok (.iconst 0, 1) := by decide +kernel
theorem dX10_span_45 : decode cX10_span 45 = .ok (.istore 6, 2) := by decide +kernel
theorem dX10_span_47 : decode cX10_span 47 = .ok (.iload 6, 2) := by decide +kernel
theorem dX10_span_49 : decode cX10_span 49 = .ok (.aload_n 0, 1) := by decide +kernel
theorem dX10_span_50 : decode cX10_span 50 = .ok (.iload_n 2, 1) := by decide +kernel
theorem dX10_span_51 : decode cX10_span 51 = .ok (.invokevirtual 464, 3) := by decide +kernel
theorem dX10_span_54 : decode cX10_span 54 = .ok (.if_icmp .ge 64, 3) := by decide +kernel
theorem dX10_span_57 : decode cX10_span 57 = .ok (.aload_n 0, 1) := by decide +kernel
theorem dX10_span_58 : decode cX10_span 58 = .ok (.iload_n 1, 1) := by decide +kernel
theorem dX10_span_59 : decode cX10_span 59 = .ok (.iload_n 2, 1) := by decide +kernel
theorem dX10_span_60 : decode cX10_span 60 = .ok (.iload 6, 2) := by decide +kernel
theorem dX10_span_62 : decode cX10_span 62 = .ok (.invokevirtual 467, 3) := by decide +kernel
theorem dX10_span_65 : decode cX10_span 65 = .ok (.istore 7, 2) := by decide +kernel
theorem dX10_span_67 : decode cX10_span 67 = .ok (.iload 7, 2) := by decide +kernel
theorem dX10_span_69 : decode cX10_span 69 = .ok (.iconst (-1), 1) := by decide +kernel
theorem dX10_span_70 : decode cX10_span 70 = .ok (.if_icmp .eq 42, 3) := by decide +kernel
theorem dX10_span_73 : decode cX10_span 73 = .ok (.iload 4, 2) := by decide +kernel
theorem dX10_span_75 : decode cX10_span 75 = .ok (.bipush (-2), 2) := by decide +kernel
theorem dX10_span_77 : decode cX10_span 77 = .ok (.if_icmp .eq 10, 3) := by decide +kernel
theorem dX10_span_80 : decode cX10_span 80 = .ok (.iload 7, 2) := by decide +kernel
theorem dX10_span_82 : decode cX10_span 82 = .ok (.iload 4, 2) := by decide +kernel
theorem dX10_span_84 : decode cX10_span 84 = .ok (.if_icmp .ge 8, 3) := by decide +kernel
theorem dX10_span_87 : decode cX10_span 87 = .ok (.iload 7, 2) := by decide +kernel
theorem dX10_span_89 : decode cX10_span 89 = .ok (.goto 5, 3) := by decide +kernel
theorem dX10_span_92 : decode cX10_span 92 = .ok (.iload 4, 2) := by decide +kernel
theorem dX10_span_94 : decode cX10_span 94 = .ok (.istore 4, 2) := by decide +kernel
theorem dX10_span_96 : decode cX10_span 96 = .ok (.iload 7, 2) := by decide +kernel
theorem dX10_span_98 : decode cX10_span 98 = .ok (.iload 5, 2) := by decide +kernel
theorem dX10_span_100 : decode cX10_span 100 = .ok (.if_icmp .le 8, 3) := by decide +kernel
theorem dX10_span_103 : decode cX10_span 103 = .ok (.iload 7, 2) := by decide +kernel
theorem dX10_span_105 : decode cX10_span 105 = .ok (.goto 5, 3) := by decide +kernel
theorem dX10_span_108 : decode cX10_span 108 = .ok (.iload 5, 2) := by decide +kernel
theorem dX10_span_110 : decode cX10_span 110 = .ok (.istore 5, 2) := by decide +kernel
theorem dX10_span_112 : decode cX10_span 112 = .ok (.iinc 6 1, 3) := by decide +kernel
theorem dX10_span_115 : decode cX10_span 115 = .ok (.goto (-68), 3) := by decide +kernel
theorem dX10_span_118 : decode cX10_span 118 = .ok (.iload_n 3, 1) := by decide +kernel
theorem dX10_span_119 : decode cX10_span 119 = .ok (.ifCond .ne 8, 3) := by decide +kernel
theorem dX10_span_122 : decode cX10_span 122 = .ok (.iload 4, 2) := by decide +kernel
theorem dX10_span_124 : decode cX10_span 124 = .ok (.goto 5, 3) := by decide +kernel
theorem dX10_span_127 : decode cX10_span 127 = .ok (.iload 5, 2) := by decide +kernel
theorem dX10_span_129 : decode cX10_span 129 = .ok (.ireturn, 1) := by decide +kernel
def fX10_hide (p1 : Int32) (p2 : Int32) (st : St) : Option (Int32 × St) := br (fX10_isHouse st p1) (fun x2 => if x2 = 0 then (some ((-1 : Int32), st)) else (br (fX10_isFrozen st p1) (fun x5 => if x5 = 0 then (gd (ix p1 8) (br (fX10_in (Int32.toInt64 p2) (1 : Int64) (Int32.toInt64 (st.1 503 p1.toNatClampNeg))) (fun x9 => if x9 = 0 then (some ((-1 : Int32), st)) else (gd (ix p1 8) (if ((st.1 506 p1.toNatClampNeg) + p2) ≤ (99 : Int32) then (br (fX10_keepsAct st) (fun s14 => gd (ix p1 8) (gd (ix p1 8) (nm (ui s14 503 p1.toNatClampNeg ((s14.1 503 p1.toNatClampNeg) - p2)) (fun s17 => gd (ix p1 8) (gd (ix p1 8) (nm (ui s17 506 p1.toNatClampNeg ((s17.1 506 p1.toNatClampNeg) + p2)) (fun s20 => gd (ix p1 8) (some ((s20.1 506 p1.toNatClampNeg), s20)))))))))) else (some ((-1 : Int32), st))))))) else (some ((-1 : Int32), st)))))
set_option maxRecDepth 100000 in
theorem tX10_hide (l : Launch) (E : Ev) (st : St) (sz : Nat) (hL : ∀ k, fxM k = true → k ∈ eL E) (p1 : Int32) (p2 : Int32) {res : (Int32 × St)} (hf : fX10_hide  p1 p2 st = some res) : Met l yX10_hide (.code yX10_hide cX10_hide 3 (some .int) :: uW) (rmk 4) (va_Pc [.ref (eq E 500), .int p1, .int p2] (Pre E st sz)) (QWi E res.2 sz res.1) 0 0 (Af E sz) := by
  refine Met_in (by decide) (Nat.le_of_ble_eq_true rfl) ?_
  intro p e s m below meth c X hr hlk hz G ls hl
  have hx := X.1.1
  have hb := X.1.2.1
  have hl : lv_has ls 3 [(0, .ref (eq E 500)), (1, .int p1), (2, .int p2)] := hl
  unfold fX10_hide at hf
  refine lv_aload_n hx hb dX10_hide_0 rfl (lv_at hl 0 rfl) ?_
  refine lv_iload_n hx hb dX10_hide_1 rfl (lv_at hl 1 rfl) ?_
  obtain ⟨x2, h1, hf⟩ := br_s hf
  refine cVRi (As := [.int p1]) (rest := []) X G kc_X10_367 (tX10_isHouse l E st _ hL  p1 h1) (rcv X G (hL 500 rfl) (cO10 rfl) rfl) rfl rfl (rmk_le (by omega) (by decide)) rfl hl.1 rfl (Nat.le_of_ble_eq_true rfl) dX10_hide_2 ⟨Nat.zero_le _, Nat.zero_le _⟩ ?_
  refine lv_if_eq (tgt := 45) hx hb dX10_hide_5 (by decide) (fun c3 => ?_) (fun c3 => ?_)
  · have hf := it_t hf c3
    refine lv_iconst (v := (-1 : Int32)) hx hb dX10_hide_45 (by decide) ?_
    exact rtWi X hlk G hr (so_i hf) dX10_hide_46
  · have hf := it_f hf c3
    refine lv_aload_n hx hb dX10_hide_8 rfl (lv_at hl 0 rfl) ?_
    refine lv_iload_n hx hb dX10_hide_9 rfl (lv_at hl 1 rfl) ?_
    obtain ⟨x5, h4, hf⟩ := br_s hf
    refine cVRi (As := [.int p1]) (rest := []) X G kc_X10_371 (tX10_isFrozen l E st _ hL  p1 h4) (rcv X G (hL 500 rfl) (cO10 rfl) rfl) rfl rfl (rmk_le (by omega) (by decide)) rfl hl.1 rfl (Nat.le_of_ble_eq_true rfl) dX10_hide_10 ⟨Nat.zero_le _, Nat.zero_le _⟩ ?_
    refine lv_if_ne (tgt := 45) hx hb dX10_hide_13 (by decide) (fun c6 => ?_) (fun c6 => ?_)
    · have hf := it_f hf c6
      refine lv_iconst (v := (-1 : Int32)) hx hb dX10_hide_45 (by decide) ?_
      exact rtWi X hlk G hr (so_i hf) dX10_hide_46
    · have hf := it_t hf c6
      refine lv_iload_n hx hb dX10_hide_16 rfl (lv_at hl 2 rfl) ?_
      refine lv_i2l hx hb dX10_hide_17 rfl ?_
      refine lv_lconst (v := (1 : Int64)) hx hb dX10_hide_18 (by decide) ?_
      refine lv_aload_n hx hb dX10_hide_19 rfl (lv_at hl 0 rfl) ?_
      refine gf10 X G (hL 500 rfl) rfl 2 (by decide) rfl kf_X10_13 iwX10 dX10_hide_20 ?_
      refine lv_iload_n hx hb dX10_hide_23 rfl (lv_at hl 1 rfl) ?_
      obtain ⟨h7, hf⟩ := gd_s hf
      refine ia_ld (k := 503) (n := 8) X G (hL 503 rfl) rfl (by decide) (ix_in h7) dX10_hide_24 ?_
      refine lv_i2l hx hb dX10_hide_25 rfl ?_
      obtain ⟨x9, h8, hf⟩ := br_s hf
      refine cSRi (As := [.long (Int32.toInt64 p2), .long (1 : Int64), .long (Int32.toInt64 (st.1 503 p1.toNatClampNeg))]) (rest := []) X G kc_X10_152 (tX10_in l E st _  (Int32.toInt64 p2) (1 : Int64) (Int32.toInt64 (st.1 503 p1.toNatClampNeg)) h8) rfl rfl (rmk_le (by omega) (by decide)) rfl hl.1 rfl (Nat.le_of_ble_eq_true rfl) dX10_hide_26 ⟨Nat.zero_le _, Nat.zero_le _⟩ ?_
      refine lv_if_eq (tgt := 45) hx hb dX10_hide_29 (by decide) (fun c10 => ?_) (fun c10 => ?_)
      · have hf := it_t hf c10
        refine lv_iconst (v := (-1 : Int32)) hx hb dX10_hide_45 (by decide) ?_
        exact rtWi X hlk G hr (so_i hf) dX10_hide_46
      · have hf := it_f hf c10
        refine lv_aload_n hx hb dX10_hide_32 rfl (lv_at hl 0 rfl) ?_
        refine gf10 X G (hL 500 rfl) rfl 5 (by decide) rfl kf_X10_22 iwX10 dX10_hide_33 ?_
        refine lv_iload_n hx hb dX10_hide_36 rfl (lv_at hl 1 rfl) ?_
        obtain ⟨h11, hf⟩ := gd_s hf
        refine ia_ld (k := 506) (n := 8) X G (hL 506 rfl) rfl (by decide) (ix_in h11) dX10_hide_37 ?_
        refine lv_iload_n hx hb dX10_hide_38 rfl (lv_at hl 2 rfl) ?_
        refine lv_iadd hx hb dX10_hide_39 ?_
        refine lv_bipush (v := (99 : Int32)) hx hb dX10_hide_40 (by decide) ?_
        refine lv_icmp_le (tgt := 47) hx hb dX10_hide_42 (by decide) (fun c12 => ?_) (fun c12 => ?_)
        · have hf := it_t hf c12
          refine lv_aload_n hx hb dX10_hide_47 rfl (lv_at hl 0 rfl) ?_
          obtain ⟨s14, h13, hf⟩ := br_s hf
          refine cVWv (As := []) (rest := []) X G kc_X10_431 (tX10_keepsAct l E st _ hL   h13) (rcv X G (hL 500 rfl) (cO10 rfl) rfl) rfl rfl (rmk_le (by omega) (by decide)) rfl hl.1 rfl (Nat.le_of_ble_eq_true rfl) dX10_hide_48 ⟨Nat.zero_le _, Nat.zero_le _⟩ (fun H locs G => ?_)
          refine lv_aload_n hx hb dX10_hide_51 rfl (lv_at hl 0 rfl) ?_
          refine gf10 X G (hL 500 rfl) rfl 2 (by decide) rfl kf_X10_13 iwX10 dX10_hide_52 ?_
          refine lv_iload_n hx hb dX10_hide_55 rfl (lv_at hl 1 rfl) ?_
          refine lv_dup2_11 hx hb dX10_hide_56 rfl rfl ?_
          obtain ⟨h15, hf⟩ := gd_s hf
          refine ia_ld (k := 503) (n := 8) X G (hL 503 rfl) rfl (by decide) (ix_in h15) dX10_hide_57 ?_
          refine lv_iload_n hx hb dX10_hide_58 rfl (lv_at hl 2 rfl) ?_
          refine lv_isub hx hb dX10_hide_59 ?_
          obtain ⟨h16, hf⟩ := gd_s hf
          refine ia_st (k := 503) (n := 8) X G (hL 503 rfl) rfl (by decide) (ix_in h16) dX10_hide_60 (fun s17 es17 H locs G => ?_)
          have hf := nm_s hf s17 es17
          refine lv_aload_n hx hb dX10_hide_61 rfl (lv_at hl 0 rfl) ?_
          refine gf10 X G (hL 500 rfl) rfl 5 (by decide) rfl kf_X10_22 iwX10 dX10_hide_62 ?_
          refine lv_iload_n hx hb dX10_hide_65 rfl (lv_at hl 1 rfl) ?_
          refine lv_dup2_11 hx hb dX10_hide_66 rfl rfl ?_
          obtain ⟨h18, hf⟩ := gd_s hf
          refine ia_ld (k := 506) (n := 8) X G (hL 506 rfl) rfl (by decide) (ix_in h18) dX10_hide_67 ?_
          refine lv_iload_n hx hb dX10_hide_68 rfl (lv_at hl 2 rfl) ?_
          refine lv_iadd hx hb dX10_hide_69 ?_
          obtain ⟨h19, hf⟩ := gd_s hf
          refine ia_st (k := 506) (n := 8) X G (hL 506 rfl) rfl (by decide) (ix_in h19) dX10_hide_70 (fun s20 es20 H locs G => ?_)
          have hf := nm_s hf s20 es20
          refine lv_aload_n hx hb dX10_hide_71 rfl (lv_at hl 0 rfl) ?_
          refine gf10 X G (hL 500 rfl) rfl 5 (by decide) rfl kf_X10_22 iwX10 dX10_hide_72 ?_
          refine lv_iload_n hx hb dX10_hide_75 rfl (lv_at hl 1 rfl) ?_
          obtain ⟨h21, hf⟩ := gd_s hf
          refine ia_ld (k := 506) (n := 8) X G (hL 506 rfl) rfl (by decide) (ix_in h21) dX10_hide_76 ?_
          exact rtWi X hlk G hr (so_i hf) dX10_hide_77
        · have hf := it_f hf c12
          refine lv_iconst (v := (-1 : Int32)) hx hb dX10_hide_45 (by decide) ?_
          exact rtWi X hlk G hr (so_i hf) dX10_hide_46
def fX10_lift_B73 (p1 : Int32) (y2 : Int32) (z0 : Int32) (st : St) : Option (Int32 × St) := gd (ix p1 3) (gd (ix p1 3) (nm (ui st 511 p1.toNatClampNeg ((st.1 511 p1.toNatClampNeg) + z0)) (fun s3 => gd (ix y2 8) (gd (ix y2 8) (br (fX10_held (((s3.1 503 y2.toNatClampNeg) + (s3.1 506 y2.toNatClampNeg)) - z0)) (fun x7 => gd (ix y2 8) (nm (ui s3 503 y2.toNatClampNeg x7) (fun s9 => gd (ix y2 8) (nm (ui s9 506 y2.toNatClampNeg (0 : Int32)) (fun s11 => some (z0, s11)))))))))))
set_option maxRecDepth 100000 in
theorem wX10_lift_B73 {p : Program} {l : Launch} {e : Env} {s : State} {m : MethodId} {args : Array Value} {below : List Frame} {meth : Method} {c : Code} {E : Ev} (hL : ∀ k, fxM k = true → k ∈ eL E) {p1 : Int32} {sz : Nat} {res : (Int32 × St)} (X : CX p s m args c E RX10 cX10_lift 5 (Af E sz)) (hr : meth.sig.returnType = (some .int)) (hlk : meth.locks = false) : ∀ (y2 : Int32) (z0 : Int32) (st : St) (H : Heap) (locs : List Loc), fX10_lift_B73 p1  y2 z0 st = some res → Gd E st (Af E sz) s H locs → ∀ ls : Array Slot, lv_has ls 5 [(0, .ref (eq E 500)), (1, .int p1), (2, .int y2)] → W p l e (rmk 4) s m args below meth c H locs 0 0 (MQ below (QWi E res.2 sz res.1) args s 0 0 (Af E sz)) (F0 m 73 ls [.int z0]) := by
  have hx := X.1.1
  have hb := X.1.2.1
  intro y2 z0 st H locs hf G ls hl
  unfold fX10_lift_B73 at hf
  refine lv_istore (lv' := [(4, .int z0), (0, .ref (eq E 500)), (1, .int p1), (2, .int y2)]) hx hb dX10_lift_73 hl (by decide) rfl (fun ls hl => ?_)
  refine lv_aload_n hx hb dX10_lift_75 rfl (lv_at hl 1 rfl) ?_
  refine gf10 X G (hL 500 rfl) rfl 10 (by decide) rfl kf_X10_37 iwX10 dX10_lift_76 ?_
  refine lv_iload_n hx hb dX10_lift_79 rfl (lv_at hl 2 rfl) ?_
  refine lv_dup2_11 hx hb dX10_lift_80 rfl rfl ?_
  obtain ⟨h1, hf⟩ := gd_s hf
  refine ia_ld (k := 511) (n := 3) X G (hL 511 rfl) rfl (by decide) (ix_in h1) dX10_lift_81 ?_
  refine lv_iload hx hb dX10_lift_82 (lv_at hl 0 rfl) ?_
  refine lv_iadd hx hb dX10_lift_84 ?_
  obtain ⟨h2, hf⟩ := gd_s hf
  refine ia_st (k := 511) (n := 3) X G (hL 511 rfl) rfl (by decide) (ix_in h2) dX10_lift_85 (fun s3 es3 H locs G => ?_)
  have hf := nm_s hf s3 es3
  refine lv_aload_n hx hb dX10_lift_86 rfl (lv_at hl 1 rfl) ?_
  refine gf10 X G (hL 500 rfl) rfl 2 (by decide) rfl kf_X10_13 iwX10 dX10_lift_87 ?_
  refine lv_iload_n hx hb dX10_lift_90 rfl (lv_at hl 3 rfl) ?_
  refine lv_aload_n hx hb dX10_lift_91 rfl (lv_at hl 1 rfl) ?_
  refine gf10 X G (hL 500 rfl) rfl 2 (by decide) rfl kf_X10_13 iwX10 dX10_lift_92 ?_
  refine lv_iload_n hx hb dX10_lift_95 rfl (lv_at hl 3 rfl) ?_
  obtain ⟨h4, hf⟩ := gd_s hf
  refine ia_ld (k := 503) (n := 8) X G (hL 503 rfl) rfl (by decide) (ix_in h4) dX10_lift_96 ?_
  refine lv_aload_n hx hb dX10_lift_97 rfl (lv_at hl 1 rfl) ?_
  refine gf10 X G (hL 500 rfl) rfl 5 (by decide) rfl kf_X10_22 iwX10 dX10_lift_98 ?_
  refine lv_iload_n hx hb dX10_lift_101 rfl (lv_at hl 3 rfl) ?_
  obtain ⟨h5, hf⟩ := gd_s hf
  refine ia_ld (k := 506) (n := 8) X G (hL 506 rfl) rfl (by decide) (ix_in h5) dX10_lift_102 ?_
  refine lv_iadd hx hb dX10_lift_103 ?_
  refine lv_iload hx hb dX10_lift_104 (lv_at hl 0 rfl) ?_
  refine lv_isub hx hb dX10_lift_106 ?_
  obtain ⟨x7, h6, hf⟩ := br_s hf
  refine cSRi (As := [.int (((s3.1 503 y2.toNatClampNeg) + (s3.1 506 y2.toNatClampNeg)) - z0)]) (rest := [.int y2, .ref (eq E 503)]) X G kc_X10_436 (tX10_held l E s3 _  (((s3.1 503 y2.toNatClampNeg) + (s3.1 506 y2.toNatClampNeg)) - z0) h6) rfl rfl (rmk_le (by omega) (by decide)) rfl hl.1 rfl (Nat.le_of_ble_eq_true rfl) dX10_lift_107 ⟨Nat.zero_le _, Nat.zero_le _⟩ ?_
  obtain ⟨h8, hf⟩ := gd_s hf
  refine ia_st (k := 503) (n := 8) X G (hL 503 rfl) rfl (by decide) (ix_in h8) dX10_lift_110 (fun s9 es9 H locs G => ?_)
  have hf := nm_s hf s9 es9
  refine lv_aload_n hx hb dX10_lift_111 rfl (lv_at hl 1 rfl) ?_
  refine gf10 X G (hL 500 rfl) rfl 5 (by decide) rfl kf_X10_22 iwX10 dX10_lift_112 ?_
  refine lv_iload_n hx hb dX10_lift_115 rfl (lv_at hl 3 rfl) ?_
  refine lv_iconst (v := (0 : Int32)) hx hb dX10_lift_116 (by decide) ?_
  obtain ⟨h10, hf⟩ := gd_s hf
  refine ia_st (k := 506) (n := 8) X G (hL 506 rfl) rfl (by decide) (ix_in h10) dX10_lift_117 (fun s11 es11 H locs G => ?_)
  have hf := nm_s hf s11 es11
  refine lv_iload hx hb dX10_lift_118 (lv_at hl 0 rfl) ?_
  exact rtWi X hlk G hr (so_i hf) dX10_lift_120
def fX10_lift (p1 : Int32) (st : St) : Option (Int32 × St) := br (fX10_isOfficer st p1) (fun x2 => if x2 = 0 then (some ((-1 : Int32), st)) else (gd (ix p1 3) (gd (ix (st.1 509 p1.toNatClampNeg) 8) (if (st.1 506 (st.1 509 p1.toNatClampNeg).toNatClampNeg) = 0 then (some ((-1 : Int32), st)) else (br (fX10_keepsAct st) (fun s8 => gd (ix p1 3) (nm (s8.1 509 p1.toNatClampNeg) (fun x10 => gd (ix p1 3) (gd (ix p1 3) (nm ((s8.1 510 p1.toNatClampNeg) - (s8.1 511 p1.toNatClampNeg)) (fun x13 => gd (ix x10 8) (if x13 ≤ ((s8.1 506 x10.toNatClampNeg) / (2 : Int32)) then (fX10_lift_B73 p1 x10 x13 s8) else (gd (ix x10 8) (fX10_lift_B73 p1 x10 ((s8.1 506 x10.toNatClampNeg) / (2 : Int32)) s8))))))))))))))
set_option maxRecDepth 100000 in
theorem tX10_lift (l : Launch) (E : Ev) (st : St) (sz : Nat) (hL : ∀ k, fxM k = true → k ∈ eL E) (p1 : Int32) {res : (Int32 × St)} (hf : fX10_lift  p1 st = some res) : Met l yX10_lift (.code yX10_lift cX10_lift 5 (some .int) :: uW) (rmk 4) (va_Pc [.ref (eq E 500), .int p1] (Pre E st sz)) (QWi E res.2 sz res.1) 0 0 (Af E sz) := by
  refine Met_in (by decide) (Nat.le_of_ble_eq_true rfl) ?_
  intro p e s m below meth c X hr hlk hz G ls hl
  have hx := X.1.1
  have hb := X.1.2.1
  have hl : lv_has ls 5 [(0, .ref (eq E 500)), (1, .int p1)] := hl
  unfold fX10_lift at hf
  refine lv_aload_n hx hb dX10_lift_0 rfl (lv_at hl 0 rfl) ?_
  refine lv_iload_n hx hb dX10_lift_1 rfl (lv_at hl 1 rfl) ?_
  obtain ⟨x2, h1, hf⟩ := br_s hf
  refine cVRi (As := [.int p1]) (rest := []) X G kc_X10_374 (tX10_isOfficer l E st _ hL  p1 h1) (rcv X G (hL 500 rfl) (cO10 rfl) rfl) rfl rfl (rmk_le (by omega) (by decide)) rfl hl.1 rfl (Nat.le_of_ble_eq_true rfl) dX10_lift_2 ⟨Nat.zero_le _, Nat.zero_le _⟩ ?_
  refine lv_if_eq (tgt := 22) hx hb dX10_lift_5 (by decide) (fun c3 => ?_) (fun c3 => ?_)
  · have hf := it_t hf c3
    refine lv_iconst (v := (-1 : Int32)) hx hb dX10_lift_22 (by decide) ?_
    exact rtWi X hlk G hr (so_i hf) dX10_lift_23
  · have hf := it_f hf c3
    refine lv_aload_n hx hb dX10_lift_8 rfl (lv_at hl 0 rfl) ?_
    refine gf10 X G (hL 500 rfl) rfl 5 (by decide) rfl kf_X10_22 iwX10 dX10_lift_9 ?_
    refine lv_aload_n hx hb dX10_lift_12 rfl (lv_at hl 0 rfl) ?_
    refine gf10 X G (hL 500 rfl) rfl 8 (by decide) rfl kf_X10_31 iwX10 dX10_lift_13 ?_
    refine lv_iload_n hx hb dX10_lift_16 rfl (lv_at hl 1 rfl) ?_
    obtain ⟨h4, hf⟩ := gd_s hf
    refine ia_ld (k := 509) (n := 3) X G (hL 509 rfl) rfl (by decide) (ix_in h4) dX10_lift_17 ?_
    obtain ⟨h5, hf⟩ := gd_s hf
    refine ia_ld (k := 506) (n := 8) X G (hL 506 rfl) rfl (by decide) (ix_in h5) dX10_lift_18 ?_
    refine lv_if_ne (tgt := 24) hx hb dX10_lift_19 (by decide) (fun c6 => ?_) (fun c6 => ?_)
    · have hf := it_f hf c6
      refine lv_aload_n hx hb dX10_lift_24 rfl (lv_at hl 0 rfl) ?_
      obtain ⟨s8, h7, hf⟩ := br_s hf
      refine cVWv (As := []) (rest := []) X G kc_X10_431 (tX10_keepsAct l E st _ hL   h7) (rcv X G (hL 500 rfl) (cO10 rfl) rfl) rfl rfl (rmk_le (by omega) (by decide)) rfl hl.1 rfl (Nat.le_of_ble_eq_true rfl) dX10_lift_25 ⟨Nat.zero_le _, Nat.zero_le _⟩ (fun H locs G => ?_)
      refine lv_aload_n hx hb dX10_lift_28 rfl (lv_at hl 0 rfl) ?_
      refine gf10 X G (hL 500 rfl) rfl 8 (by decide) rfl kf_X10_31 iwX10 dX10_lift_29 ?_
      refine lv_iload_n hx hb dX10_lift_32 rfl (lv_at hl 1 rfl) ?_
      obtain ⟨h9, hf⟩ := gd_s hf
      refine ia_ld (k := 509) (n := 3) X G (hL 509 rfl) rfl (by decide) (ix_in h9) dX10_lift_33 ?_
      refine lv_topi (fun x10 ex10 => ?_)
      have hf := nm_s hf x10 ex10
      refine lv_istore_n (lv' := [(2, .int x10), (0, .ref (eq E 500)), (1, .int p1)]) hx hb dX10_lift_34 rfl hl (by decide) rfl (fun ls hl => ?_)
      refine lv_aload_n hx hb dX10_lift_35 rfl (lv_at hl 1 rfl) ?_
      refine gf10 X G (hL 500 rfl) rfl 9 (by decide) rfl kf_X10_34 iwX10 dX10_lift_36 ?_
      refine lv_iload_n hx hb dX10_lift_39 rfl (lv_at hl 2 rfl) ?_
      obtain ⟨h11, hf⟩ := gd_s hf
      refine ia_ld (k := 510) (n := 3) X G (hL 510 rfl) rfl (by decide) (ix_in h11) dX10_lift_40 ?_
      refine lv_aload_n hx hb dX10_lift_41 rfl (lv_at hl 1 rfl) ?_
      refine gf10 X G (hL 500 rfl) rfl 10 (by decide) rfl kf_X10_37 iwX10 dX10_lift_42 ?_
      refine lv_iload_n hx hb dX10_lift_45 rfl (lv_at hl 2 rfl) ?_
      obtain ⟨h12, hf⟩ := gd_s hf
      refine ia_ld (k := 511) (n := 3) X G (hL 511 rfl) rfl (by decide) (ix_in h12) dX10_lift_46 ?_
      refine lv_isub hx hb dX10_lift_47 ?_
      refine lv_topi (fun x13 ex13 => ?_)
      have hf := nm_s hf x13 ex13
      refine lv_istore_n (lv' := [(3, .int x13), (2, .int x10), (0, .ref (eq E 500)), (1, .int p1)]) hx hb dX10_lift_48 rfl hl (by decide) rfl (fun ls hl => ?_)
      refine lv_aload_n hx hb dX10_lift_49 rfl (lv_at hl 2 rfl) ?_
      refine gf10 X G (hL 500 rfl) rfl 5 (by decide) rfl kf_X10_22 iwX10 dX10_lift_50 ?_
      refine lv_iload_n hx hb dX10_lift_53 rfl (lv_at hl 1 rfl) ?_
      obtain ⟨h14, hf⟩ := gd_s hf
      refine ia_ld (k := 506) (n := 8) X G (hL 506 rfl) rfl (by decide) (ix_in h14) dX10_lift_54 ?_
      refine lv_iconst (v := (2 : Int32)) hx hb dX10_lift_55 (by decide) ?_
      refine lv_idiv hx hb dX10_lift_56 (by decide) ?_
      refine lv_iload_n hx hb dX10_lift_57 rfl (lv_at hl 0 rfl) ?_
      refine lv_icmp_ge (tgt := 72) hx hb dX10_lift_58 (by decide) (fun c16 => ?_) (fun c16 => ?_)
      · have hf := it_t hf c16
        refine lv_iload_n hx hb dX10_lift_72 rfl (lv_at hl 0 rfl) ?_
        exact wX10_lift_B73 hL X hr hlk x10 x13 s8 _ _ hf G _ (lv_sub hl [2, 3, 1] rfl)
      · have hf := it_f hf c16
        refine lv_aload_n hx hb dX10_lift_61 rfl (lv_at hl 2 rfl) ?_
        refine gf10 X G (hL 500 rfl) rfl 5 (by decide) rfl kf_X10_22 iwX10 dX10_lift_62 ?_
        refine lv_iload_n hx hb dX10_lift_65 rfl (lv_at hl 1 rfl) ?_
        obtain ⟨h17, hf⟩ := gd_s hf
        refine ia_ld (k := 506) (n := 8) X G (hL 506 rfl) rfl (by decide) (ix_in h17) dX10_lift_66 ?_
        refine lv_iconst (v := (2 : Int32)) hx hb dX10_lift_67 (by decide) ?_
        refine lv_idiv hx hb dX10_lift_68 (by decide) ?_
        refine lv_goto (tgt := 73) hx hb dX10_lift_69 (by decide) ?_
        exact wX10_lift_B73 hL X hr hlk x10 ((s8.1 506 x10.toNatClampNeg) / (2 : Int32)) s8 _ _ hf G _ (lv_sub hl [2, 3, 1] rfl)
    · have hf := it_t hf c6
      refine lv_iconst (v := (-1 : Int32)) hx hb dX10_lift_22 (by decide) ?_
      exact rtWi X hlk G hr (so_i hf) dX10_lift_23
def fX10_spit_B56 (p1 : Int32) (z0 : Int32) (z1 : Int32) (st : St) : Option (Int32 × St) := gd (ix z1 12) (nm (ui st 502 z1.toNatClampNeg z0) (fun s2 => gd (ix p1 3) (nm (ui s2 511 p1.toNatClampNeg (0 : Int32)) (fun s4 => some ((s4.1 502 8), s4)))))
set_option maxRecDepth 100000 in
theorem wX10_spit_B56 {p : Program} {l : Launch} {e : Env} {s : State} {m : MethodId} {args : Array Value} {below : List Frame} {meth : Method} {c : Code} {E : Ev} (hL : ∀ k, fxM k = true → k ∈ eL E) {p1 : Int32} {sz : Nat} {res : (Int32 × St)} (X : CX p s m args c E RX10 cX10_spit 3 (Af E sz)) (hr : meth.sig.returnType = (some .int)) (hlk : meth.locks = false) : ∀ (z0 : Int32) (z1 : Int32) (st : St) (H : Heap) (locs : List Loc), fX10_spit_B56 p1  z0 z1 st = some res → Gd E st (Af E sz) s H locs → ∀ ls : Array Slot, lv_has ls 3 [(0, .ref (eq E 500)), (1, .int p1)] → W p l e (rmk 4) s m args below meth c H locs 0 0 (MQ below (QWi E res.2 sz res.1) args s 0 0 (Af E sz)) (F0 m 56 ls [.int z0, .int z1, .ref (eq E 502)]) := by
  have hx := X.1.1
  have hb := X.1.2.1
  intro z0 z1 st H locs hf G ls hl
  unfold fX10_spit_B56 at hf
  obtain ⟨h1, hf⟩ := gd_s hf
  refine ia_st (k := 502) (n := 12) X G (hL 502 rfl) rfl (by decide) (ix_in h1) dX10_spit_56 (fun s2 es2 H locs G => ?_)
  have hf := nm_s hf s2 es2
  refine lv_aload_n hx hb dX10_spit_57 rfl (lv_at hl 0 rfl) ?_
  refine gf10 X G (hL 500 rfl) rfl 10 (by decide) rfl kf_X10_37 iwX10 dX10_spit_58 ?_
  refine lv_iload_n hx hb dX10_spit_61 rfl (lv_at hl 1 rfl) ?_
  refine lv_iconst (v := (0 : Int32)) hx hb dX10_spit_62 (by decide) ?_
  obtain ⟨h3, hf⟩ := gd_s hf
  refine ia_st (k := 511) (n := 3) X G (hL 511 rfl) rfl (by decide) (ix_in h3) dX10_spit_63 (fun s4 es4 H locs G => ?_)
  have hf := nm_s hf s4 es4
  refine lv_aload_n hx hb dX10_spit_64 rfl (lv_at hl 0 rfl) ?_
  refine gf10 X G (hL 500 rfl) rfl 1 (by decide) rfl kf_X10_9 iwX10 dX10_spit_65 ?_
  refine lv_bipush (v := (8 : Int32)) hx hb dX10_spit_68 (by decide) ?_
  refine ia_ldc (k := 502) (n := 12) X G (hL 502 rfl) rfl (by decide) 8 (by decide) dX10_spit_70 ?_
  exact rtWi X hlk G hr (so_i hf) dX10_spit_71
def fX10_spit (p1 : Int32) (st : St) : Option (Int32 × St) := br (fX10_isOfficer st p1) (fun x2 => if x2 = 0 then (some ((-1 : Int32), st)) else (gd (ix p1 3) (if (st.1 511 p1.toNatClampNeg) = 0 then (some ((-1 : Int32), st)) else (br (fX10_keepsAct st) (fun s7 => gd (ix p1 3) (nm ((s7.1 502 8) + (s7.1 511 p1.toNatClampNeg)) (fun x10 => if x10 ≤ (99999 : Int32) then (fX10_spit_B56 p1 x10 (8 : Int32) s7) else (fX10_spit_B56 p1 (99999 : Int32) (8 : Int32) s7))))))))
set_option maxRecDepth 100000 in
theorem tX10_spit (l : Launch) (E : Ev) (st : St) (sz : Nat) (hL : ∀ k, fxM k = true → k ∈ eL E) (p1 : Int32) {res : (Int32 × St)} (hf : fX10_spit  p1 st = some res) : Met l yX10_spit (.code yX10_spit cX10_spit 3 (some .int) :: uW) (rmk 4) (va_Pc [.ref (eq E 500), .int p1] (Pre E st sz)) (QWi E res.2 sz res.1) 0 0 (Af E sz) := by
  refine Met_in (by decide) (Nat.le_of_ble_eq_true rfl) ?_
  intro p e s m below meth c X hr hlk hz G ls hl
  have hx := X.1.1
  have hb := X.1.2.1
  have hl : lv_has ls 3 [(0, .ref (eq E 500)), (1, .int p1)] := hl
  unfold fX10_spit at hf
  refine lv_aload_n hx hb dX10_spit_0 rfl (lv_at hl 0 rfl) ?_
  refine lv_iload_n hx hb dX10_spit_1 rfl (lv_at hl 1 rfl) ?_
  obtain ⟨x2, h1, hf⟩ := br_s hf
  refine cVRi (As := [.int p1]) (rest := []) X G kc_X10_374 (tX10_isOfficer l E st _ hL  p1 h1) (rcv X G (hL 500 rfl) (cO10 rfl) rfl) rfl rfl (rmk_le (by omega) (by decide)) rfl hl.1 rfl (Nat.le_of_ble_eq_true rfl) dX10_spit_2 ⟨Nat.zero_le _, Nat.zero_le _⟩ ?_
  refine lv_if_eq (tgt := 17) hx hb dX10_spit_5 (by decide) (fun c3 => ?_) (fun c3 => ?_)
  · have hf := it_t hf c3
    refine lv_iconst (v := (-1 : Int32)) hx hb dX10_spit_17 (by decide) ?_
    exact rtWi X hlk G hr (so_i hf) dX10_spit_18
  · have hf := it_f hf c3
    refine lv_aload_n hx hb dX10_spit_8 rfl (lv_at hl 0 rfl) ?_
    refine gf10 X G (hL 500 rfl) rfl 10 (by decide) rfl kf_X10_37 iwX10 dX10_spit_9 ?_
    refine lv_iload_n hx hb dX10_spit_12 rfl (lv_at hl 1 rfl) ?_
    obtain ⟨h4, hf⟩ := gd_s hf
    refine ia_ld (k := 511) (n := 3) X G (hL 511 rfl) rfl (by decide) (ix_in h4) dX10_spit_13 ?_
    refine lv_if_ne (tgt := 19) hx hb dX10_spit_14 (by decide) (fun c5 => ?_) (fun c5 => ?_)
    · have hf := it_f hf c5
      refine lv_aload_n hx hb dX10_spit_19 rfl (lv_at hl 0 rfl) ?_
      obtain ⟨s7, h6, hf⟩ := br_s hf
      refine cVWv (As := []) (rest := []) X G kc_X10_431 (tX10_keepsAct l E st _ hL   h6) (rcv X G (hL 500 rfl) (cO10 rfl) rfl) rfl rfl (rmk_le (by omega) (by decide)) rfl hl.1 rfl (Nat.le_of_ble_eq_true rfl) dX10_spit_20 ⟨Nat.zero_le _, Nat.zero_le _⟩ (fun H locs G => ?_)
      refine lv_aload_n hx hb dX10_spit_23 rfl (lv_at hl 0 rfl) ?_
      refine gf10 X G (hL 500 rfl) rfl 1 (by decide) rfl kf_X10_9 iwX10 dX10_spit_24 ?_
      refine lv_bipush (v := (8 : Int32)) hx hb dX10_spit_27 (by decide) ?_
      refine ia_ldc (k := 502) (n := 12) X G (hL 502 rfl) rfl (by decide) 8 (by decide) dX10_spit_29 ?_
      refine lv_aload_n hx hb dX10_spit_30 rfl (lv_at hl 0 rfl) ?_
      refine gf10 X G (hL 500 rfl) rfl 10 (by decide) rfl kf_X10_37 iwX10 dX10_spit_31 ?_
      refine lv_iload_n hx hb dX10_spit_34 rfl (lv_at hl 1 rfl) ?_
      obtain ⟨h9, hf⟩ := gd_s hf
      refine ia_ld (k := 511) (n := 3) X G (hL 511 rfl) rfl (by decide) (ix_in h9) dX10_spit_35 ?_
      refine lv_iadd hx hb dX10_spit_36 ?_
      refine lv_topi (fun x10 ex10 => ?_)
      have hf := nm_s hf x10 ex10
      refine lv_istore_n (lv' := [(2, .int x10), (0, .ref (eq E 500)), (1, .int p1)]) hx hb dX10_spit_37 rfl hl (by decide) rfl (fun ls hl => ?_)
      refine lv_aload_n hx hb dX10_spit_38 rfl (lv_at hl 1 rfl) ?_
      refine gf10 X G (hL 500 rfl) rfl 1 (by decide) rfl kf_X10_9 iwX10 dX10_spit_39 ?_
      refine lv_bipush (v := (8 : Int32)) hx hb dX10_spit_42 (by decide) ?_
      refine lv_iload_n hx hb dX10_spit_44 rfl (lv_at hl 0 rfl) ?_
      refine lv_ldc (v := (99999 : Int32)) hx hb X.1.2.2.2.1 (X.1.2.2.2.2 _ kk_X10_234) dX10_spit_45 ?_
      refine lv_icmp_le (tgt := 55) hx hb dX10_spit_47 (by decide) (fun c11 => ?_) (fun c11 => ?_)
      · have hf := it_t hf c11
        refine lv_iload_n hx hb dX10_spit_55 rfl (lv_at hl 0 rfl) ?_
        exact wX10_spit_B56 hL X hr hlk x10 (8 : Int32) s7 _ _ hf G _ (lv_sub hl [1, 2] rfl)
      · have hf := it_f hf c11
        refine lv_ldc (v := (99999 : Int32)) hx hb X.1.2.2.2.1 (X.1.2.2.2.2 _ kk_X10_234) dX10_spit_50 ?_
        refine lv_goto (tgt := 56) hx hb dX10_spit_52 (by decide) ?_
        exact wX10_spit_B56 hL X hr hlk (99999 : Int32) (8 : Int32) s7 _ _ hf G _ (lv_sub hl [1, 2] rfl)
    · have hf := it_t hf c5
      refine lv_iconst (v := (-1 : Int32)) hx hb dX10_spit_17 (by decide) ?_
      exact rtWi X hlk G hr (so_i hf) dX10_spit_18
def fX10_carryRow_B42 (a1 : Nat) (n1 : Nat) (k2 : Int32 → St → Option St) (y2 : Int32) (st : St) : Option St := nm (ui st 500 61 ((st.1 500 61) + (1 : Int32))) (fun s1 => nm (y2 + (1 : Int32)) (fun x2 => k2 x2 s1))
set_option maxRecDepth 100000 in
theorem wX10_carryRow_B42 {p : Program} {l : Launch} {e : Env} {s : State} {m : MethodId} {args : Array Value} {below : List Frame} {meth : Method} {c : Code} {E : Ev} (hL : ∀ k, fxM k = true → k ∈ eL E) {a1 : Nat} {n1 : Nat} (hm1 : a1 ∈ eL E) (ht1 : ty a1 = 10000 + n1) (hn1 : n1 < 10000) {sz : Nat} {res : St} (X : CX p s m args c E RX10 cX10_carryRow 3 (Af E sz)) (hr : meth.sig.returnType = none) (hlk : meth.locks = false) {k2 : Int32 → St → Option St} (hk2 : ∀ (y2 : Int32) (st : St) (H : Heap) (locs : List Loc), k2 y2 st = some res → Gd E st (Af E sz) s H locs → ∀ ls : Array Slot, lv_has ls 3 [(0, .ref (eq E 500)), (1, .ref (eq E a1)), (2, .int y2)] → W p l e (rmk 0) s m args below meth c H locs 0 0 (MQ below (QWv E res sz) args s 0 0 (Af E sz)) (F0 m 2 ls [])) : ∀ (y2 : Int32) (st : St) (H : Heap) (locs : List Loc), fX10_carryRow_B42 a1 n1 k2 y2 st = some res → Gd E st (Af E sz) s H locs → ∀ ls : Array Slot, lv_has ls 3 [(0, .ref (eq E 500)), (1, .ref (eq E a1)), (2, .int y2)] → W p l e (rmk 0) s m args below meth c H locs 0 0 (MQ below (QWv E res sz) args s 0 0 (Af E sz)) (F0 m 42 ls []) := by
  have hx := X.1.1
  have hb := X.1.2.1
  intro y2 st H locs hf G ls hl
  unfold fX10_carryRow_B42 at hf
  refine lv_aload_n hx hb dX10_carryRow_42 rfl (lv_at hl 0 rfl) ?_
  refine lv_dup hx hb dX10_carryRow_43 rfl ?_
  refine gf10 X G (hL 500 rfl) rfl 61 (by decide) rfl kf_X10_506 iwX10 dX10_carryRow_44 ?_
  refine lv_iconst (v := (1 : Int32)) hx hb dX10_carryRow_47 (by decide) ?_
  refine lv_iadd hx hb dX10_carryRow_48 ?_
  refine pf10 X G (hL 500 rfl) rfl 61 (by decide) ps10_61 uio kf_X10_506 iwX10 rfl (ty := .int) (by decide +kernel) rfl rfl dX10_carryRow_49 (fun s1 es1 H locs G => ?_)
  have hf := nm_s hf s1 es1
  obtain ⟨x2, ex2⟩ : ∃ y : Int32, y = (y2 + (1 : Int32)) := ⟨_, rfl⟩
  have hf := nm_s hf x2 ex2
  refine lv_iinc (k := 2) (v := x2) (lv' := [(2, .int x2), (0, .ref (eq E 500)), (1, .ref (eq E a1))]) hx hb dX10_carryRow_52 hl rfl (by rw [ex2]; rfl) (by decide) rfl (fun ls hl => ?_)
  refine lv_goto (tgt := 2) hx hb dX10_carryRow_55 (by decide) ?_
  exact hk2 x2 s1 _ _ hf G _ (lv_sub hl [1, 2, 0] rfl)
def fX10_carryRow_L2 (a1 : Nat) (n1 : Nat) : Nat → Int32 → St → Option St
  | 0, _, _ => none
  | n + 1, y2, st => if (Int32.ofNat n1) ≤ y2 then (some st) else (if (st.1 500 62) = 0 then (gd (ix y2 n1) (gd (ix (st.1 500 61) 5500) (nm (ui st 559 (st.1 500 61).toNatClampNeg (st.1 a1 y2.toNatClampNeg)) (fun s5 => fX10_carryRow_B42 a1 n1 (fX10_carryRow_L2 a1 n1 n) y2 s5)))) else (gd (ix (st.1 500 61) 5500) (gd (ix y2 n1) (nm (ui st a1 y2.toNatClampNeg (st.1 559 (st.1 500 61).toNatClampNeg)) (fun s5 => fX10_carryRow_B42 a1 n1 (fX10_carryRow_L2 a1 n1 n) y2 s5)))))
set_option maxRecDepth 100000 in
theorem wX10_carryRow_L2 {p : Program} {l : Launch} {e : Env} {s : State} {m : MethodId} {args : Array Value} {below : List Frame} {meth : Method} {c : Code} {E : Ev} (hL : ∀ k, fxM k = true → k ∈ eL E) {a1 : Nat} {n1 : Nat} (hm1 : a1 ∈ eL E) (ht1 : ty a1 = 10000 + n1) (hn1 : n1 < 10000) {sz : Nat} {res : St} (X : CX p s m args c E RX10 cX10_carryRow 3 (Af E sz)) (hr : meth.sig.returnType = none) (hlk : meth.locks = false) : ∀ (n : Nat) (y2 : Int32) (st : St) (H : Heap) (locs : List Loc), fX10_carryRow_L2 a1 n1  n y2 st = some res → Gd E st (Af E sz) s H locs → ∀ ls : Array Slot, lv_has ls 3 [(0, .ref (eq E 500)), (1, .ref (eq E a1)), (2, .int y2)] → W p l e (rmk 0) s m args below meth c H locs 0 0 (MQ below (QWv E res sz) args s 0 0 (Af E sz)) (F0 m 2 ls []) := by
  have hx := X.1.1
  have hb := X.1.2.1
  intro n
  induction n with
  | zero =>
    intro y2 st H locs hf G ls hl
    cases (show (none : Option St) = some res from hf)
  | succ n ih =>
    intro y2 st H locs hf G ls hl
    rw [fX10_carryRow_L2] at hf
    refine lv_iload_n hx hb dX10_carryRow_2 rfl (lv_at hl 2 rfl) ?_
    refine lv_aload_n hx hb dX10_carryRow_3 rfl (lv_at hl 1 rfl) ?_
    refine ia_len (k := a1) (n := n1) X G hm1 ht1 hn1 rfl dX10_carryRow_4 ?_
    refine lv_icmp_ge (tgt := 58) hx hb dX10_carryRow_5 (by decide) (fun c1 => ?_) (fun c1 => ?_)
    · have hf := it_t hf c1
      exact rtWv X hlk G hr (so_i hf) dX10_carryRow_58
    · have hf := it_f hf c1
      refine lv_aload_n hx hb dX10_carryRow_8 rfl (lv_at hl 0 rfl) ?_
      refine gf10 X G (hL 500 rfl) rfl 62 (by decide) rfl kf_X10_503 iwX10 dX10_carryRow_9 ?_
      refine lv_if_eq (tgt := 30) hx hb dX10_carryRow_12 (by decide) (fun c2 => ?_) (fun c2 => ?_)
      · have hf := it_t hf c2
        refine lv_aload_n hx hb dX10_carryRow_30 rfl (lv_at hl 0 rfl) ?_
        refine gf10 X G (hL 500 rfl) rfl 58 (by decide) rfl kf_X10_139 iwX10 dX10_carryRow_31 ?_
        refine lv_aload_n hx hb dX10_carryRow_34 rfl (lv_at hl 0 rfl) ?_
        refine gf10 X G (hL 500 rfl) rfl 61 (by decide) rfl kf_X10_506 iwX10 dX10_carryRow_35 ?_
        refine lv_aload_n hx hb dX10_carryRow_38 rfl (lv_at hl 1 rfl) ?_
        refine lv_iload_n hx hb dX10_carryRow_39 rfl (lv_at hl 2 rfl) ?_
        obtain ⟨h3, hf⟩ := gd_s hf
        refine ia_ld (k := a1) (n := n1) X G hm1 ht1 hn1 (ix_in h3) dX10_carryRow_40 ?_
        obtain ⟨h4, hf⟩ := gd_s hf
        refine ia_st (k := 559) (n := 5500) X G (hL 559 rfl) rfl (by decide) (ix_in h4) dX10_carryRow_41 (fun s5 es5 H locs G => ?_)
        have hf := nm_s hf s5 es5
        exact wX10_carryRow_B42 hL hm1 ht1 hn1 X hr hlk ih y2 s5 _ _ hf G _ (lv_sub hl [0, 1, 2] rfl)
      · have hf := it_f hf c2
        refine lv_aload_n hx hb dX10_carryRow_15 rfl (lv_at hl 1 rfl) ?_
        refine lv_iload_n hx hb dX10_carryRow_16 rfl (lv_at hl 2 rfl) ?_
        refine lv_aload_n hx hb dX10_carryRow_17 rfl (lv_at hl 0 rfl) ?_
        refine gf10 X G (hL 500 rfl) rfl 58 (by decide) rfl kf_X10_139 iwX10 dX10_carryRow_18 ?_
        refine lv_aload_n hx hb dX10_carryRow_21 rfl (lv_at hl 0 rfl) ?_
        refine gf10 X G (hL 500 rfl) rfl 61 (by decide) rfl kf_X10_506 iwX10 dX10_carryRow_22 ?_
        obtain ⟨h3, hf⟩ := gd_s hf
        refine ia_ld (k := 559) (n := 5500) X G (hL 559 rfl) rfl (by decide) (ix_in h3) dX10_carryRow_25 ?_
        obtain ⟨h4, hf⟩ := gd_s hf
        refine ia_st (k := a1) (n := n1) X G hm1 ht1 hn1 (ix_in h4) dX10_carryRow_26 (fun s5 es5 H locs G => ?_)
        have hf := nm_s hf s5 es5
        refine lv_goto (tgt := 42) hx hb dX10_carryRow_27 (by decide) ?_
        exact wX10_carryRow_B42 hL hm1 ht1 hn1 X hr hlk ih y2 s5 _ _ hf G _ (lv_sub hl [0, 1, 2] rfl)
def fX10_carryRow (a1 : Nat) (n1 : Nat) (st : St) : Option St := fX10_carryRow_L2 a1 n1 10000 (0 : Int32) st
set_option maxRecDepth 100000 in
theorem tX10_carryRow (l : Launch) (E : Ev) (st : St) (sz : Nat) (hL : ∀ k, fxM k = true → k ∈ eL E) {a1 : Nat} {n1 : Nat} (hm1 : a1 ∈ eL E) (ht1 : ty a1 = 10000 + n1) (hn1 : n1 < 10000)  {res : St} (hf : fX10_carryRow a1 n1  st = some res) : Met l yX10_carryRow (.code yX10_carryRow cX10_carryRow 3 none :: uW) (rmk 0) (va_Pc [.ref (eq E 500), .ref (eq E a1)] (Pre E st sz)) (QWv E res sz) 0 0 (Af E sz) := by
  refine Met_in (by decide) (Nat.le_of_ble_eq_true rfl) ?_
  intro p e s m below meth c X hr hlk hz G ls hl
  have hx := X.1.1
  have hb := X.1.2.1
  have hl : lv_has ls 3 [(0, .ref (eq E 500)), (1, .ref (eq E a1))] := hl
  unfold fX10_carryRow at hf
  refine lv_iconst (v := (0 : Int32)) hx hb dX10_carryRow_0 (by decide) ?_
  refine lv_istore_n (lv' := [(2, .int (0 : Int32)), (0, .ref (eq E 500)), (1, .ref (eq E a1))]) hx hb dX10_carryRow_1 rfl hl (by decide) rfl (fun ls hl => ?_)
  exact wX10_carryRow_L2 hL hm1 ht1 hn1 X hr hlk 10000 (0 : Int32) st _ _ hf G _ (lv_sub hl [1, 2, 0] rfl)
def fX10_carriesAll (p1 : Int32) (p2 : Int32) (st : St) : Option St := nm (ui st 500 61 ((1100 : Int32) * p1)) (fun s1 => gd (bz p2) (nm (ui s1 500 62 p2) (fun s2 => br (fX10_carryRow 502 12 s2) (fun s5 => br (fX10_carryRow 503 8 s5) (fun s7 => br (fX10_carryRow 504 8 s7) (fun s9 => br (fX10_carryRow 506 8 s9) (fun s11 => br (fX10_carryRow 508 8 s11) (fun s13 => br (fX10_carryRow 509 3 s13) (fun s15 => br (fX10_carryRow 511 3 s15) (fun s17 => if p1 = (4 : Int32) then (some s17) else (nm (ui s17 552 0 (s17.1 500 52)) (fun s20 => br (fX10_carryRow 552 1 s20) (fun s22 => nm (ui s22 500 52 (s22.1 552 0)) (fun s24 => br (fX10_carryRow 505 8 s24) (fun s26 => br (fX10_carryRow 507 8 s26) (fun s28 => br (fX10_carryRow 510 3 s28) (fun s30 => br (fX10_carryRow 512 100 s30) (fun s32 => br (fX10_carryRow 513 10 s32) (fun s34 => br (fX10_carryRow 514 10 s34) (fun s36 => br (fX10_carryRow 515 10 s36) (fun s38 => br (fX10_carryRow 516 8 s38) (fun s40 => br (fX10_carryRow 517 8 s40) (fun s42 => br (fX10_carryRow 518 8 s42) (fun s44 => br (fX10_carryRow 519 3 s44) (fun s46 => br (fX10_carryRow 551 820 s46) (fun s48 => some s48))))))))))))))))))))))))))
set_option maxRecDepth 100000 in
theorem tX10_carriesAll (l : Launch) (E : Ev) (st : St) (sz : Nat) (hL : ∀ k, fxM k = true → k ∈ eL E) (p1 : Int32) (p2 : Int32) {res : St} (hf : fX10_carriesAll  p1 p2 st = some res) : Met l yX10_carriesAll (.code yX10_carriesAll cX10_carriesAll 3 none :: uW) (rmk 1) (va_Pc [.ref (eq E 500), .int p1, .int p2] (Pre E st sz)) (QWv E res sz) 0 0 (Af E sz) := by
  refine Met_in (by decide) (Nat.le_of_ble_eq_true rfl) ?_
  intro p e s m below meth c X hr hlk hz G ls hl
  have hx := X.1.1
  have hb := X.1.2.1
  have hl : lv_has ls 3 [(0, .ref (eq E 500)), (1, .int p1), (2, .int p2)] := hl
  unfold fX10_carriesAll at hf
  refine lv_aload_n hx hb dX10_carriesAll_0 rfl (lv_at hl 0 rfl) ?_
  refine lv_sipush (v := (1100 : Int32)) hx hb dX10_carriesAll_1 (by decide) ?_
  refine lv_iload_n hx hb dX10_carriesAll_4 rfl (lv_at hl 1 rfl) ?_
  refine lv_imul hx hb dX10_carriesAll_5 ?_
  refine pf10 X G (hL 500 rfl) rfl 61 (by decide) ps10_61 uio kf_X10_506 iwX10 rfl (ty := .int) (by decide +kernel) rfl rfl dX10_carriesAll_6 (fun s1 es1 H locs G => ?_)
  have hf := nm_s hf s1 es1
  refine lv_aload_n hx hb dX10_carriesAll_9 rfl (lv_at hl 0 rfl) ?_
  refine lv_iload_n hx hb dX10_carriesAll_10 rfl (lv_at hl 2 rfl) ?_
  obtain ⟨h3, hf⟩ := gd_s hf
  refine pf10 X G (hL 500 rfl) rfl 62 (by decide) ps10_62 uio kf_X10_503 iwX10 rfl (ty := .boolean) (by decide +kernel) (bz_n h3) (bz_f h3) dX10_carriesAll_11 (fun s2 es2 H locs G => ?_)
  have hf := nm_s hf s2 es2
  refine lv_aload_n hx hb dX10_carriesAll_14 rfl (lv_at hl 0 rfl) ?_
  refine lv_aload_n hx hb dX10_carriesAll_15 rfl (lv_at hl 0 rfl) ?_
  refine gf10 X G (hL 500 rfl) rfl 1 (by decide) rfl kf_X10_9 iwX10 dX10_carriesAll_16 ?_
  obtain ⟨s5, h4, hf⟩ := br_s hf
  refine cVWv (As := [.ref (eq E 502)]) (rest := []) X G kc_X10_509 (tX10_carryRow l E s2 _ hL (hL 502 rfl) rfl (by decide)  h4) (rcv X G (hL 500 rfl) (cO10 rfl) rfl) rfl rfl (rmk_le (by omega) (by decide)) rfl hl.1 rfl (Nat.le_of_ble_eq_true rfl) dX10_carriesAll_19 ⟨Nat.zero_le _, Nat.zero_le _⟩ (fun H locs G => ?_)
  refine lv_aload_n hx hb dX10_carriesAll_22 rfl (lv_at hl 0 rfl) ?_
  refine lv_aload_n hx hb dX10_carriesAll_23 rfl (lv_at hl 0 rfl) ?_
  refine gf10 X G (hL 500 rfl) rfl 2 (by decide) rfl kf_X10_13 iwX10 dX10_carriesAll_24 ?_
  obtain ⟨s7, h6, hf⟩ := br_s hf
  refine cVWv (As := [.ref (eq E 503)]) (rest := []) X G kc_X10_509 (tX10_carryRow l E s5 _ hL (hL 503 rfl) rfl (by decide)  h6) (rcv X G (hL 500 rfl) (cO10 rfl) rfl) rfl rfl (rmk_le (by omega) (by decide)) rfl hl.1 rfl (Nat.le_of_ble_eq_true rfl) dX10_carriesAll_27 ⟨Nat.zero_le _, Nat.zero_le _⟩ (fun H locs G => ?_)
  refine lv_aload_n hx hb dX10_carriesAll_30 rfl (lv_at hl 0 rfl) ?_
  refine lv_aload_n hx hb dX10_carriesAll_31 rfl (lv_at hl 0 rfl) ?_
  refine gf10 X G (hL 500 rfl) rfl 3 (by decide) rfl kf_X10_16 iwX10 dX10_carriesAll_32 ?_
  obtain ⟨s9, h8, hf⟩ := br_s hf
  refine cVWv (As := [.ref (eq E 504)]) (rest := []) X G kc_X10_509 (tX10_carryRow l E s7 _ hL (hL 504 rfl) rfl (by decide)  h8) (rcv X G (hL 500 rfl) (cO10 rfl) rfl) rfl rfl (rmk_le (by omega) (by decide)) rfl hl.1 rfl (Nat.le_of_ble_eq_true rfl) dX10_carriesAll_35 ⟨Nat.zero_le _, Nat.zero_le _⟩ (fun H locs G => ?_)
  refine lv_aload_n hx hb dX10_carriesAll_38 rfl (lv_at hl 0 rfl) ?_
  refine lv_aload_n hx hb dX10_carriesAll_39 rfl (lv_at hl 0 rfl) ?_
  refine gf10 X G (hL 500 rfl) rfl 5 (by decide) rfl kf_X10_22 iwX10 dX10_carriesAll_40 ?_
  obtain ⟨s11, h10, hf⟩ := br_s hf
  refine cVWv (As := [.ref (eq E 506)]) (rest := []) X G kc_X10_509 (tX10_carryRow l E s9 _ hL (hL 506 rfl) rfl (by decide)  h10) (rcv X G (hL 500 rfl) (cO10 rfl) rfl) rfl rfl (rmk_le (by omega) (by decide)) rfl hl.1 rfl (Nat.le_of_ble_eq_true rfl) dX10_carriesAll_43 ⟨Nat.zero_le _, Nat.zero_le _⟩ (fun H locs G => ?_)
  refine lv_aload_n hx hb dX10_carriesAll_46 rfl (lv_at hl 0 rfl) ?_
  refine lv_aload_n hx hb dX10_carriesAll_47 rfl (lv_at hl 0 rfl) ?_
  refine gf10 X G (hL 500 rfl) rfl 7 (by decide) rfl kf_X10_28 iwX10 dX10_carriesAll_48 ?_
  obtain ⟨s13, h12, hf⟩ := br_s hf
  refine cVWv (As := [.ref (eq E 508)]) (rest := []) X G kc_X10_509 (tX10_carryRow l E s11 _ hL (hL 508 rfl) rfl (by decide)  h12) (rcv X G (hL 500 rfl) (cO10 rfl) rfl) rfl rfl (rmk_le (by omega) (by decide)) rfl hl.1 rfl (Nat.le_of_ble_eq_true rfl) dX10_carriesAll_51 ⟨Nat.zero_le _, Nat.zero_le _⟩ (fun H locs G => ?_)
  refine lv_aload_n hx hb dX10_carriesAll_54 rfl (lv_at hl 0 rfl) ?_
  refine lv_aload_n hx hb dX10_carriesAll_55 rfl (lv_at hl 0 rfl) ?_
  refine gf10 X G (hL 500 rfl) rfl 8 (by decide) rfl kf_X10_31 iwX10 dX10_carriesAll_56 ?_
  obtain ⟨s15, h14, hf⟩ := br_s hf
  refine cVWv (As := [.ref (eq E 509)]) (rest := []) X G kc_X10_509 (tX10_carryRow l E s13 _ hL (hL 509 rfl) rfl (by decide)  h14) (rcv X G (hL 500 rfl) (cO10 rfl) rfl) rfl rfl (rmk_le (by omega) (by decide)) rfl hl.1 rfl (Nat.le_of_ble_eq_true rfl) dX10_carriesAll_59 ⟨Nat.zero_le _, Nat.zero_le _⟩ (fun H locs G => ?_)
  refine lv_aload_n hx hb dX10_carriesAll_62 rfl (lv_at hl 0 rfl) ?_
  refine lv_aload_n hx hb dX10_carriesAll_63 rfl (lv_at hl 0 rfl) ?_
  refine gf10 X G (hL 500 rfl) rfl 10 (by decide) rfl kf_X10_37 iwX10 dX10_carriesAll_64 ?_
  obtain ⟨s17, h16, hf⟩ := br_s hf
  refine cVWv (As := [.ref (eq E 511)]) (rest := []) X G kc_X10_509 (tX10_carryRow l E s15 _ hL (hL 511 rfl) rfl (by decide)  h16) (rcv X G (hL 500 rfl) (cO10 rfl) rfl) rfl rfl (rmk_le (by omega) (by decide)) rfl hl.1 rfl (Nat.le_of_ble_eq_true rfl) dX10_carriesAll_67 ⟨Nat.zero_le _, Nat.zero_le _⟩ (fun H locs G => ?_)
  refine lv_iload_n hx hb dX10_carriesAll_70 rfl (lv_at hl 1 rfl) ?_
  refine lv_iconst (v := (4 : Int32)) hx hb dX10_carriesAll_71 (by decide) ?_
  refine lv_icmp_ne (tgt := 76) hx hb dX10_carriesAll_72 (by decide) (fun c18 => ?_) (fun c18 => ?_)
  · have hf := it_f hf c18
    refine lv_aload_n hx hb dX10_carriesAll_76 rfl (lv_at hl 0 rfl) ?_
    refine gf10 X G (hL 500 rfl) rfl 51 (by decide) rfl kf_X10_130 iwX10 dX10_carriesAll_77 ?_
    refine lv_iconst (v := (0 : Int32)) hx hb dX10_carriesAll_80 (by decide) ?_
    refine lv_aload_n hx hb dX10_carriesAll_81 rfl (lv_at hl 0 rfl) ?_
    refine gf10 X G (hL 500 rfl) rfl 52 (by decide) rfl kf_X10_334 iwX10 dX10_carriesAll_82 ?_
    refine ia_stc (k := 552) (n := 1) X G (hL 552 rfl) rfl (by decide) 0 (by decide) dX10_carriesAll_85 (fun s20 es20 H locs G => ?_)
    have hf := nm_s hf s20 es20
    refine lv_aload_n hx hb dX10_carriesAll_86 rfl (lv_at hl 0 rfl) ?_
    refine lv_aload_n hx hb dX10_carriesAll_87 rfl (lv_at hl 0 rfl) ?_
    refine gf10 X G (hL 500 rfl) rfl 51 (by decide) rfl kf_X10_130 iwX10 dX10_carriesAll_88 ?_
    obtain ⟨s22, h21, hf⟩ := br_s hf
    refine cVWv (As := [.ref (eq E 552)]) (rest := []) X G kc_X10_509 (tX10_carryRow l E s20 _ hL (hL 552 rfl) rfl (by decide)  h21) (rcv X G (hL 500 rfl) (cO10 rfl) rfl) rfl rfl (rmk_le (by omega) (by decide)) rfl hl.1 rfl (Nat.le_of_ble_eq_true rfl) dX10_carriesAll_91 ⟨Nat.zero_le _, Nat.zero_le _⟩ (fun H locs G => ?_)
    refine lv_aload_n hx hb dX10_carriesAll_94 rfl (lv_at hl 0 rfl) ?_
    refine lv_aload_n hx hb dX10_carriesAll_95 rfl (lv_at hl 0 rfl) ?_
    refine gf10 X G (hL 500 rfl) rfl 51 (by decide) rfl kf_X10_130 iwX10 dX10_carriesAll_96 ?_
    refine lv_iconst (v := (0 : Int32)) hx hb dX10_carriesAll_99 (by decide) ?_
    refine ia_ldc (k := 552) (n := 1) X G (hL 552 rfl) rfl (by decide) 0 (by decide) dX10_carriesAll_100 ?_
    refine pf10 X G (hL 500 rfl) rfl 52 (by decide) ps10_52 uio kf_X10_334 iwX10 rfl (ty := .int) (by decide +kernel) rfl rfl dX10_carriesAll_101 (fun s24 es24 H locs G => ?_)
    have hf := nm_s hf s24 es24
    refine lv_aload_n hx hb dX10_carriesAll_104 rfl (lv_at hl 0 rfl) ?_
    refine lv_aload_n hx hb dX10_carriesAll_105 rfl (lv_at hl 0 rfl) ?_
    refine gf10 X G (hL 500 rfl) rfl 4 (by decide) rfl kf_X10_19 iwX10 dX10_carriesAll_106 ?_
    obtain ⟨s26, h25, hf⟩ := br_s hf
    refine cVWv (As := [.ref (eq E 505)]) (rest := []) X G kc_X10_509 (tX10_carryRow l E s24 _ hL (hL 505 rfl) rfl (by decide)  h25) (rcv X G (hL 500 rfl) (cO10 rfl) rfl) rfl rfl (rmk_le (by omega) (by decide)) rfl hl.1 rfl (Nat.le_of_ble_eq_true rfl) dX10_carriesAll_109 ⟨Nat.zero_le _, Nat.zero_le _⟩ (fun H locs G => ?_)
    refine lv_aload_n hx hb dX10_carriesAll_112 rfl (lv_at hl 0 rfl) ?_
    refine lv_aload_n hx hb dX10_carriesAll_113 rfl (lv_at hl 0 rfl) ?_
    refine gf10 X G (hL 500 rfl) rfl 6 (by decide) rfl kf_X10_25 iwX10 dX10_carriesAll_114 ?_
    obtain ⟨s28, h27, hf⟩ := br_s hf
    refine cVWv (As := [.ref (eq E 507)]) (rest := []) X G kc_X10_509 (tX10_carryRow l E s26 _ hL (hL 507 rfl) rfl (by decide)  h27) (rcv X G (hL 500 rfl) (cO10 rfl) rfl) rfl rfl (rmk_le (by omega) (by decide)) rfl hl.1 rfl (Nat.le_of_ble_eq_true rfl) dX10_carriesAll_117 ⟨Nat.zero_le _, Nat.zero_le _⟩ (fun H locs G => ?_)
    refine lv_aload_n hx hb dX10_carriesAll_120 rfl (lv_at hl 0 rfl) ?_
    refine lv_aload_n hx hb dX10_carriesAll_121 rfl (lv_at hl 0 rfl) ?_
    refine gf10 X G (hL 500 rfl) rfl 9 (by decide) rfl kf_X10_34 iwX10 dX10_carriesAll_122 ?_
    obtain ⟨s30, h29, hf⟩ := br_s hf
    refine cVWv (As := [.ref (eq E 510)]) (rest := []) X G kc_X10_509 (tX10_carryRow l E s28 _ hL (hL 510 rfl) rfl (by decide)  h29) (rcv X G (hL 500 rfl) (cO10 rfl) rfl) rfl rfl (rmk_le (by omega) (by decide)) rfl hl.1 rfl (Nat.le_of_ble_eq_true rfl) dX10_carriesAll_125 ⟨Nat.zero_le _, Nat.zero_le _⟩ (fun H locs G => ?_)
    refine lv_aload_n hx hb dX10_carriesAll_128 rfl (lv_at hl 0 rfl) ?_
    refine lv_aload_n hx hb dX10_carriesAll_129 rfl (lv_at hl 0 rfl) ?_
    refine gf10 X G (hL 500 rfl) rfl 11 (by decide) rfl kf_X10_40 iwX10 dX10_carriesAll_130 ?_
    obtain ⟨s32, h31, hf⟩ := br_s hf
    refine cVWv (As := [.ref (eq E 512)]) (rest := []) X G kc_X10_509 (tX10_carryRow l E s30 _ hL (hL 512 rfl) rfl (by decide)  h31) (rcv X G (hL 500 rfl) (cO10 rfl) rfl) rfl rfl (rmk_le (by omega) (by decide)) rfl hl.1 rfl (Nat.le_of_ble_eq_true rfl) dX10_carriesAll_133 ⟨Nat.zero_le _, Nat.zero_le _⟩ (fun H locs G => ?_)
    refine lv_aload_n hx hb dX10_carriesAll_136 rfl (lv_at hl 0 rfl) ?_
    refine lv_aload_n hx hb dX10_carriesAll_137 rfl (lv_at hl 0 rfl) ?_
    refine gf10 X G (hL 500 rfl) rfl 12 (by decide) rfl kf_X10_43 iwX10 dX10_carriesAll_138 ?_
    obtain ⟨s34, h33, hf⟩ := br_s hf
    refine cVWv (As := [.ref (eq E 513)]) (rest := []) X G kc_X10_509 (tX10_carryRow l E s32 _ hL (hL 513 rfl) rfl (by decide)  h33) (rcv X G (hL 500 rfl) (cO10 rfl) rfl) rfl rfl (rmk_le (by omega) (by decide)) rfl hl.1 rfl (Nat.le_of_ble_eq_true rfl) dX10_carriesAll_141 ⟨Nat.zero_le _, Nat.zero_le _⟩ (fun H locs G => ?_)
    refine lv_aload_n hx hb dX10_carriesAll_144 rfl (lv_at hl 0 rfl) ?_
    refine lv_aload_n hx hb dX10_carriesAll_145 rfl (lv_at hl 0 rfl) ?_
    refine gf10 X G (hL 500 rfl) rfl 13 (by decide) rfl kf_X10_46 iwX10 dX10_carriesAll_146 ?_
    obtain ⟨s36, h35, hf⟩ := br_s hf
    refine cVWv (As := [.ref (eq E 514)]) (rest := []) X G kc_X10_509 (tX10_carryRow l E s34 _ hL (hL 514 rfl) rfl (by decide)  h35) (rcv X G (hL 500 rfl) (cO10 rfl) rfl) rfl rfl (rmk_le (by omega) (by decide)) rfl hl.1 rfl (Nat.le_of_ble_eq_true rfl) dX10_carriesAll_149 ⟨Nat.zero_le _, Nat.zero_le _⟩ (fun H locs G => ?_)
    refine lv_aload_n hx hb dX10_carriesAll_152 rfl (lv_at hl 0 rfl) ?_
    refine lv_aload_n hx hb dX10_carriesAll_153 rfl (lv_at hl 0 rfl) ?_
    refine gf10 X G (hL 500 rfl) rfl 14 (by decide) rfl kf_X10_49 iwX10 dX10_carriesAll_154 ?_
    obtain ⟨s38, h37, hf⟩ := br_s hf
    refine cVWv (As := [.ref (eq E 515)]) (rest := []) X G kc_X10_509 (tX10_carryRow l E s36 _ hL (hL 515 rfl) rfl (by decide)  h37) (rcv X G (hL 500 rfl) (cO10 rfl) rfl) rfl rfl (rmk_le (by omega) (by decide)) rfl hl.1 rfl (Nat.le_of_ble_eq_true rfl) dX10_carriesAll_157 ⟨Nat.zero_le _, Nat.zero_le _⟩ (fun H locs G => ?_)
    refine lv_aload_n hx hb dX10_carriesAll_160 rfl (lv_at hl 0 rfl) ?_
    refine lv_aload_n hx hb dX10_carriesAll_161 rfl (lv_at hl 0 rfl) ?_
    refine gf10 X G (hL 500 rfl) rfl 15 (by decide) rfl kf_X10_52 iwX10 dX10_carriesAll_162 ?_
    obtain ⟨s40, h39, hf⟩ := br_s hf
    refine cVWv (As := [.ref (eq E 516)]) (rest := []) X G kc_X10_509 (tX10_carryRow l E s38 _ hL (hL 516 rfl) rfl (by decide)  h39) (rcv X G (hL 500 rfl) (cO10 rfl) rfl) rfl rfl (rmk_le (by omega) (by decide)) rfl hl.1 rfl (Nat.le_of_ble_eq_true rfl) dX10_carriesAll_165 ⟨Nat.zero_le _, Nat.zero_le _⟩ (fun H locs G => ?_)
    refine lv_aload_n hx hb dX10_carriesAll_168 rfl (lv_at hl 0 rfl) ?_
    refine lv_aload_n hx hb dX10_carriesAll_169 rfl (lv_at hl 0 rfl) ?_
    refine gf10 X G (hL 500 rfl) rfl 16 (by decide) rfl kf_X10_55 iwX10 dX10_carriesAll_170 ?_
    obtain ⟨s42, h41, hf⟩ := br_s hf
    refine cVWv (As := [.ref (eq E 517)]) (rest := []) X G kc_X10_509 (tX10_carryRow l E s40 _ hL (hL 517 rfl) rfl (by decide)  h41) (rcv X G (hL 500 rfl) (cO10 rfl) rfl) rfl rfl (rmk_le (by omega) (by decide)) rfl hl.1 rfl (Nat.le_of_ble_eq_true rfl) dX10_carriesAll_173 ⟨Nat.zero_le _, Nat.zero_le _⟩ (fun H locs G => ?_)
    refine lv_aload_n hx hb dX10_carriesAll_176 rfl (lv_at hl 0 rfl) ?_
    refine lv_aload_n hx hb dX10_carriesAll_177 rfl (lv_at hl 0 rfl) ?_
    refine gf10 X G (hL 500 rfl) rfl 17 (by decide) rfl kf_X10_58 iwX10 dX10_carriesAll_178 ?_
    obtain ⟨s44, h43, hf⟩ := br_s hf
    refine cVWv (As := [.ref (eq E 518)]) (rest := []) X G kc_X10_509 (tX10_carryRow l E s42 _ hL (hL 518 rfl) rfl (by decide)  h43) (rcv X G (hL 500 rfl) (cO10 rfl) rfl) rfl rfl (rmk_le (by omega) (by decide)) rfl hl.1 rfl (Nat.le_of_ble_eq_true rfl) dX10_carriesAll_181 ⟨Nat.zero_le _, Nat.zero_le _⟩ (fun H locs G => ?_)
    refine lv_aload_n hx hb dX10_carriesAll_184 rfl (lv_at hl 0 rfl) ?_
    refine lv_aload_n hx hb dX10_carriesAll_185 rfl (lv_at hl 0 rfl) ?_
    refine gf10 X G (hL 500 rfl) rfl 18 (by decide) rfl kf_X10_61 iwX10 dX10_carriesAll_186 ?_
    obtain ⟨s46, h45, hf⟩ := br_s hf
    refine cVWv (As := [.ref (eq E 519)]) (rest := []) X G kc_X10_509 (tX10_carryRow l E s44 _ hL (hL 519 rfl) rfl (by decide)  h45) (rcv X G (hL 500 rfl) (cO10 rfl) rfl) rfl rfl (rmk_le (by omega) (by decide)) rfl hl.1 rfl (Nat.le_of_ble_eq_true rfl) dX10_carriesAll_189 ⟨Nat.zero_le _, Nat.zero_le _⟩ (fun H locs G => ?_)
    refine lv_aload_n hx hb dX10_carriesAll_192 rfl (lv_at hl 0 rfl) ?_
    refine lv_aload_n hx hb dX10_carriesAll_193 rfl (lv_at hl 0 rfl) ?_
    refine gf10 X G (hL 500 rfl) rfl 50 (by decide) rfl kf_X10_127 iwX10 dX10_carriesAll_194 ?_
    obtain ⟨s48, h47, hf⟩ := br_s hf
    refine cVWv (As := [.ref (eq E 551)]) (rest := []) X G kc_X10_509 (tX10_carryRow l E s46 _ hL (hL 551 rfl) rfl (by decide)  h47) (rcv X G (hL 500 rfl) (cO10 rfl) rfl) rfl rfl (rmk_le (by omega) (by decide)) rfl hl.1 rfl (Nat.le_of_ble_eq_true rfl) dX10_carriesAll_197 ⟨Nat.zero_le _, Nat.zero_le _⟩ (fun H locs G => ?_)
    exact rtWv X hlk G hr (so_i hf) dX10_carriesAll_200
  · have hf := it_t hf c18
    exact rtWv X hlk G hr (so_i hf) dX10_carriesAll_75
def fX10_keepsAll (st : St) : Option St := br (fX10_carriesAll (4 : Int32) (0 : Int32) st) (fun s2 => some s2)
set_option maxRecDepth 100000 in
theorem tX10_keepsAll (l : Launch) (E : Ev) (st : St) (sz : Nat) (hL : ∀ k, fxM k = true → k ∈ eL E)  {res : St} (hf : fX10_keepsAll   st = some res) : Met l yX10_keepsAll (.code yX10_keepsAll cX10_keepsAll 1 none :: uW) (rmk 2) (va_Pc [.ref (eq E 500)] (Pre E st sz)) (QWv E res sz) 0 0 (Af E sz) := by
  refine Met_in (by decide) (Nat.le_of_ble_eq_true rfl) ?_
  intro p e s m below meth c X hr hlk hz G ls hl
  have hx := X.1.1
  have hb := X.1.2.1
  have hl : lv_has ls 1 [(0, .ref (eq E 500))] := hl
  unfold fX10_keepsAll at hf
  refine lv_aload_n hx hb dX10_keepsAll_0 rfl (lv_at hl 0 rfl) ?_
  refine lv_iconst (v := (4 : Int32)) hx hb dX10_keepsAll_1 (by decide) ?_
  refine lv_iconst (v := (0 : Int32)) hx hb dX10_keepsAll_2 (by decide) ?_
  obtain ⟨s2, h1, hf⟩ := br_s hf
  refine cVWv (As := [.int (4 : Int32), .int (0 : Int32)]) (rest := []) X G kc_X10_443 (tX10_carriesAll l E st _ hL  (4 : Int32) (0 : Int32) h1) (rcv X G (hL 500 rfl) (cO10 rfl) rfl) rfl rfl (rmk_le (by omega) (by decide)) rfl hl.1 rfl (Nat.le_of_ble_eq_true rfl) dX10_keepsAll_3 ⟨Nat.zero_le _, Nat.zero_le _⟩ (fun H locs G => ?_)
  exact rtWv X hlk G hr (so_i hf) dX10_keepsAll_6
def fX10_laysBack (st : St) : Option St := br (fX10_carriesAll (4 : Int32) (1 : Int32) st) (fun s2 => some s2)
set_option maxRecDepth 100000 in
theorem tX10_laysBack (l : Launch) (E : Ev) (st : St) (sz : Nat) (hL : ∀ k, fxM k = true → k ∈ eL E)  {res : St} (hf : fX10_laysBack   st = some res) : Met l yX10_laysBack (.code yX10_laysBack cX10_laysBack 1 none :: uW) (rmk 2) (va_Pc [.ref (eq E 500)] (Pre E st sz)) (QWv E res sz) 0 0 (Af E sz) := by
  refine Met_in (by decide) (Nat.le_of_ble_eq_true rfl) ?_
  intro p e s m below meth c X hr hlk hz G ls hl
  have hx := X.1.1
  have hb := X.1.2.1
  have hl : lv_has ls 1 [(0, .ref (eq E 500))] := hl
  unfold fX10_laysBack at hf
  refine lv_aload_n hx hb dX10_laysBack_0 rfl (lv_at hl 0 rfl) ?_
  refine lv_iconst (v := (4 : Int32)) hx hb dX10_laysBack_1 (by decide) ?_
  refine lv_iconst (v := (1 : Int32)) hx hb dX10_laysBack_2 (by decide) ?_
  obtain ⟨s2, h1, hf⟩ := br_s hf
  refine cVWv (As := [.int (4 : Int32), .int (1 : Int32)]) (rest := []) X G kc_X10_443 (tX10_carriesAll l E st _ hL  (4 : Int32) (1 : Int32) h1) (rcv X G (hL 500 rfl) (cO10 rfl) rfl) rfl rfl (rmk_le (by omega) (by decide)) rfl hl.1 rfl (Nat.le_of_ble_eq_true rfl) dX10_laysBack_3 ⟨Nat.zero_le _, Nat.zero_le _⟩ (fun H locs G => ?_)
  exact rtWv X hlk G hr (so_i hf) dX10_laysBack_6
def fX10_ahead_B35 (p1 : Int32) (p2 : Int32) (p3 : Int32) (z0 : Int32) (st : St) : Option (Int32 × St) := if (st.1 500 28) = 0 then (some ((-2 : Int32), st)) else (if z0 = 0 then (some ((-2 : Int32), st)) else (br (fX10_in (Int32.toInt64 p2) (0 : Int64) (100 : Int64)) (fun x4 => if x4 = 0 then (some ((-2 : Int32), st)) else (br (fX10_keepsAll st) (fun s7 => br (fX10_goFor p2 s7) (fun s9 => if p3 = 0 then (gd (ix p1 8) (nm (s9.1 503 p1.toNatClampNeg) (fun x12 => br (fX10_laysBack s9) (fun s14 => some (x12, s14))))) else (if p3 = (1 : Int32) then (gd (ix p1 3) (nm (s9.1 511 p1.toNatClampNeg) (fun x13 => br (fX10_laysBack s9) (fun s15 => some (x13, s15))))) else (br (fX10_bits (s9.1 502 7)) (fun x14 => br (fX10_laysBack s9) (fun s16 => some (x14, s16)))))))))))
set_option maxRecDepth 100000 in
theorem wX10_ahead_B35 {p : Program} {l : Launch} {e : Env} {s : State} {m : MethodId} {args : Array Value} {below : List Frame} {meth : Method} {c : Code} {E : Ev} (hL : ∀ k, fxM k = true → k ∈ eL E) {p1 : Int32} {p2 : Int32} {p3 : Int32} {sz : Nat} {res : (Int32 × St)} (X : CX p s m args c E RX10 cX10_ahead 6 (Af E sz)) (hr : meth.sig.returnType = (some .int)) (hlk : meth.locks = false) : ∀ (z0 : Int32) (st : St) (H : Heap) (locs : List Loc), fX10_ahead_B35 p1 p2 p3  z0 st = some res → Gd E st (Af E sz) s H locs → ∀ ls : Array Slot, lv_has ls 6 [(0, .ref (eq E 500)), (1, .int p1), (2, .int p2), (3, .int p3)] → W p l e (rmk 8) s m args below meth c H locs 0 0 (MQ below (QWi E res.2 sz res.1) args s 0 0 (Af E sz)) (F0 m 35 ls [.int z0]) := by
  have hx := X.1.1
  have hb := X.1.2.1
  intro z0 st H locs hf G ls hl
  unfold fX10_ahead_B35 at hf
  refine lv_istore (lv' := [(4, .int z0), (0, .ref (eq E 500)), (1, .int p1), (2, .int p2), (3, .int p3)]) hx hb dX10_ahead_35 hl (by decide) rfl (fun ls hl => ?_)
  refine lv_aload_n hx hb dX10_ahead_37 rfl (lv_at hl 1 rfl) ?_
  refine gf10 X G (hL 500 rfl) rfl 28 (by decide) rfl kf_X10_327 iwX10 dX10_ahead_38 ?_
  refine lv_if_eq (tgt := 61) hx hb dX10_ahead_41 (by decide) (fun c1 => ?_) (fun c1 => ?_)
  · have hf := it_t hf c1
    refine lv_bipush (v := (-2 : Int32)) hx hb dX10_ahead_61 (by decide) ?_
    exact rtWi X hlk G hr (so_i hf) dX10_ahead_63
  · have hf := it_f hf c1
    refine lv_iload hx hb dX10_ahead_44 (lv_at hl 0 rfl) ?_
    refine lv_if_eq (tgt := 61) hx hb dX10_ahead_46 (by decide) (fun c2 => ?_) (fun c2 => ?_)
    · have hf := it_t hf c2
      refine lv_bipush (v := (-2 : Int32)) hx hb dX10_ahead_61 (by decide) ?_
      exact rtWi X hlk G hr (so_i hf) dX10_ahead_63
    · have hf := it_f hf c2
      refine lv_iload_n hx hb dX10_ahead_49 rfl (lv_at hl 3 rfl) ?_
      refine lv_i2l hx hb dX10_ahead_50 rfl ?_
      refine lv_lconst (v := (0 : Int64)) hx hb dX10_ahead_51 (by decide) ?_
      refine lv_ldc2 (v := (100 : Int64)) hx hb X.1.2.2.2.1 (X.1.2.2.2.2 _ kk_X10_446) dX10_ahead_52 ?_
      obtain ⟨x4, h3, hf⟩ := br_s hf
      refine cSRi (As := [.long (Int32.toInt64 p2), .long (0 : Int64), .long (100 : Int64)]) (rest := []) X G kc_X10_152 (tX10_in l E st _  (Int32.toInt64 p2) (0 : Int64) (100 : Int64) h3) rfl rfl (rmk_le (by omega) (by decide)) rfl hl.1 rfl (Nat.le_of_ble_eq_true rfl) dX10_ahead_55 ⟨Nat.zero_le _, Nat.zero_le _⟩ ?_
      refine lv_if_ne (tgt := 64) hx hb dX10_ahead_58 (by decide) (fun c5 => ?_) (fun c5 => ?_)
      · have hf := it_f hf c5
        refine lv_aload_n hx hb dX10_ahead_64 rfl (lv_at hl 1 rfl) ?_
        obtain ⟨s7, h6, hf⟩ := br_s hf
        refine cVWv (As := []) (rest := []) X G kc_X10_448 (tX10_keepsAll l E st _ hL   h6) (rcv X G (hL 500 rfl) (cO10 rfl) rfl) rfl rfl (rmk_le (by omega) (by decide)) rfl hl.1 rfl (Nat.le_of_ble_eq_true rfl) dX10_ahead_65 ⟨Nat.zero_le _, Nat.zero_le _⟩ (fun H locs G => ?_)
        refine lv_aload_n hx hb dX10_ahead_68 rfl (lv_at hl 1 rfl) ?_
        refine lv_iload_n hx hb dX10_ahead_69 rfl (lv_at hl 3 rfl) ?_
        obtain ⟨s9, h8, hf⟩ := br_s hf
        refine cVWv (As := [.int p2]) (rest := []) X G kc_X10_451 (tX10_goFor l E s7 _ hL  p2 h8) (rcv X G (hL 500 rfl) (cO10 rfl) rfl) rfl rfl (rmk_le (by omega) (by decide)) rfl hl.1 rfl (Nat.le_of_ble_eq_true rfl) dX10_ahead_70 ⟨Nat.zero_le _, Nat.zero_le _⟩ (fun H locs G => ?_)
        refine lv_iload_n hx hb dX10_ahead_73 rfl (lv_at hl 4 rfl) ?_
        refine lv_if_ne (tgt := 86) hx hb dX10_ahead_74 (by decide) (fun c10 => ?_) (fun c10 => ?_)
        · have hf := it_f hf c10
          refine lv_iload_n hx hb dX10_ahead_86 rfl (lv_at hl 4 rfl) ?_
          refine lv_iconst (v := (1 : Int32)) hx hb dX10_ahead_87 (by decide) ?_
          refine lv_icmp_ne (tgt := 100) hx hb dX10_ahead_88 (by decide) (fun c11 => ?_) (fun c11 => ?_)
          · have hf := it_f hf c11
            refine lv_aload_n hx hb dX10_ahead_100 rfl (lv_at hl 1 rfl) ?_
            refine gf10 X G (hL 500 rfl) rfl 1 (by decide) rfl kf_X10_9 iwX10 dX10_ahead_101 ?_
            refine lv_bipush (v := (7 : Int32)) hx hb dX10_ahead_104 (by decide) ?_
            refine ia_ldc (k := 502) (n := 12) X G (hL 502 rfl) rfl (by decide) 7 (by decide) dX10_ahead_106 ?_
            obtain ⟨x14, h13, hf⟩ := br_s hf
            refine cSRi (As := [.int (s9.1 502 7)]) (rest := []) X G kc_X10_380 (tX10_bits l E s9 _  (s9.1 502 7) h13) rfl rfl (rmk_le (by omega) (by decide)) rfl hl.1 rfl (Nat.le_of_ble_eq_true rfl) dX10_ahead_107 ⟨Nat.zero_le _, Nat.zero_le _⟩ ?_
            refine lv_istore (lv' := [(5, .int x14), (4, .int z0), (0, .ref (eq E 500)), (1, .int p1), (2, .int p2), (3, .int p3)]) hx hb dX10_ahead_110 hl (by decide) rfl (fun ls hl => ?_)
            refine lv_aload_n hx hb dX10_ahead_112 rfl (lv_at hl 2 rfl) ?_
            obtain ⟨s16, h15, hf⟩ := br_s hf
            refine cVWv (As := []) (rest := []) X G kc_X10_454 (tX10_laysBack l E s9 _ hL   h15) (rcv X G (hL 500 rfl) (cO10 rfl) rfl) rfl rfl (rmk_le (by omega) (by decide)) rfl hl.1 rfl (Nat.le_of_ble_eq_true rfl) dX10_ahead_113 ⟨Nat.zero_le _, Nat.zero_le _⟩ (fun H locs G => ?_)
            refine lv_iload hx hb dX10_ahead_116 (lv_at hl 0 rfl) ?_
            exact rtWi X hlk G hr (so_i hf) dX10_ahead_118
          · have hf := it_t hf c11
            refine lv_aload_n hx hb dX10_ahead_91 rfl (lv_at hl 1 rfl) ?_
            refine gf10 X G (hL 500 rfl) rfl 10 (by decide) rfl kf_X10_37 iwX10 dX10_ahead_92 ?_
            refine lv_iload_n hx hb dX10_ahead_95 rfl (lv_at hl 2 rfl) ?_
            obtain ⟨h12, hf⟩ := gd_s hf
            refine ia_ld (k := 511) (n := 3) X G (hL 511 rfl) rfl (by decide) (ix_in h12) dX10_ahead_96 ?_
            refine lv_goto (tgt := 110) hx hb dX10_ahead_97 (by decide) ?_
            refine lv_topi (fun x13 ex13 => ?_)
            have hf := nm_s hf x13 ex13
            refine lv_istore (lv' := [(5, .int x13), (4, .int z0), (0, .ref (eq E 500)), (1, .int p1), (2, .int p2), (3, .int p3)]) hx hb dX10_ahead_110 hl (by decide) rfl (fun ls hl => ?_)
            refine lv_aload_n hx hb dX10_ahead_112 rfl (lv_at hl 2 rfl) ?_
            obtain ⟨s15, h14, hf⟩ := br_s hf
            refine cVWv (As := []) (rest := []) X G kc_X10_454 (tX10_laysBack l E s9 _ hL   h14) (rcv X G (hL 500 rfl) (cO10 rfl) rfl) rfl rfl (rmk_le (by omega) (by decide)) rfl hl.1 rfl (Nat.le_of_ble_eq_true rfl) dX10_ahead_113 ⟨Nat.zero_le _, Nat.zero_le _⟩ (fun H locs G => ?_)
            refine lv_iload hx hb dX10_ahead_116 (lv_at hl 0 rfl) ?_
            exact rtWi X hlk G hr (so_i hf) dX10_ahead_118
        · have hf := it_t hf c10
          refine lv_aload_n hx hb dX10_ahead_77 rfl (lv_at hl 1 rfl) ?_
          refine gf10 X G (hL 500 rfl) rfl 2 (by decide) rfl kf_X10_13 iwX10 dX10_ahead_78 ?_
          refine lv_iload_n hx hb dX10_ahead_81 rfl (lv_at hl 2 rfl) ?_
          obtain ⟨h11, hf⟩ := gd_s hf
          refine ia_ld (k := 503) (n := 8) X G (hL 503 rfl) rfl (by decide) (ix_in h11) dX10_ahead_82 ?_
          refine lv_goto (tgt := 110) hx hb dX10_ahead_83 (by decide) ?_
          refine lv_topi (fun x12 ex12 => ?_)
          have hf := nm_s hf x12 ex12
          refine lv_istore (lv' := [(5, .int x12), (4, .int z0), (0, .ref (eq E 500)), (1, .int p1), (2, .int p2), (3, .int p3)]) hx hb dX10_ahead_110 hl (by decide) rfl (fun ls hl => ?_)
          refine lv_aload_n hx hb dX10_ahead_112 rfl (lv_at hl 2 rfl) ?_
          obtain ⟨s14, h13, hf⟩ := br_s hf
          refine cVWv (As := []) (rest := []) X G kc_X10_454 (tX10_laysBack l E s9 _ hL   h13) (rcv X G (hL 500 rfl) (cO10 rfl) rfl) rfl rfl (rmk_le (by omega) (by decide)) rfl hl.1 rfl (Nat.le_of_ble_eq_true rfl) dX10_ahead_113 ⟨Nat.zero_le _, Nat.zero_le _⟩ (fun H locs G => ?_)
          refine lv_iload hx hb dX10_ahead_116 (lv_at hl 0 rfl) ?_
          exact rtWi X hlk G hr (so_i hf) dX10_ahead_118
      · have hf := it_t hf c5
        refine lv_bipush (v := (-2 : Int32)) hx hb dX10_ahead_61 (by decide) ?_
        exact rtWi X hlk G hr (so_i hf) dX10_ahead_63
def fX10_ahead_B30 (p1 : Int32) (p2 : Int32) (p3 : Int32) (st : St) : Option (Int32 × St) := fX10_ahead_B35 p1 p2 p3 (1 : Int32) st
set_option maxRecDepth 100000 in
theorem wX10_ahead_B30 {p : Program} {l : Launch} {e : Env} {s : State} {m : MethodId} {args : Array Value} {below : List Frame} {meth : Method} {c : Code} {E : Ev} (hL : ∀ k, fxM k = true → k ∈ eL E) {p1 : Int32} {p2 : Int32} {p3 : Int32} {sz : Nat} {res : (Int32 × St)} (X : CX p s m args c E RX10 cX10_ahead 6 (Af E sz)) (hr : meth.sig.returnType = (some .int)) (hlk : meth.locks = false) : ∀  (st : St) (H : Heap) (locs : List Loc), fX10_ahead_B30 p1 p2 p3   st = some res → Gd E st (Af E sz) s H locs → ∀ ls : Array Slot, lv_has ls 6 [(0, .ref (eq E 500)), (1, .int p1), (2, .int p2), (3, .int p3)] → W p l e (rmk 8) s m args below meth c H locs 0 0 (MQ below (QWi E res.2 sz res.1) args s 0 0 (Af E sz)) (F0 m 30 ls []) := by
  have hx := X.1.1
  have hb := X.1.2.1
  intro  st H locs hf G ls hl
  unfold fX10_ahead_B30 at hf
  refine lv_iconst (v := (1 : Int32)) hx hb dX10_ahead_30 (by decide) ?_
  refine lv_goto (tgt := 35) hx hb dX10_ahead_31 (by decide) ?_
  exact wX10_ahead_B35 hL X hr hlk (1 : Int32) st _ _ hf G _ (lv_sub hl [0, 1, 2, 3] rfl)
def fX10_ahead_B25 (p1 : Int32) (p2 : Int32) (p3 : Int32) (st : St) : Option (Int32 × St) := if p3 = (2 : Int32) then (fX10_ahead_B30 p1 p2 p3 st) else (fX10_ahead_B35 p1 p2 p3 (0 : Int32) st)
set_option maxRecDepth 100000 in
theorem wX10_ahead_B25 {p : Program} {l : Launch} {e : Env} {s : State} {m : MethodId} {args : Array Value} {below : List Frame} {meth : Method} {c : Code} {E : Ev} (hL : ∀ k, fxM k = true → k ∈ eL E) {p1 : Int32} {p2 : Int32} {p3 : Int32} {sz : Nat} {res : (Int32 × St)} (X : CX p s m args c E RX10 cX10_ahead 6 (Af E sz)) (hr : meth.sig.returnType = (some .int)) (hlk : meth.locks = false) : ∀  (st : St) (H : Heap) (locs : List Loc), fX10_ahead_B25 p1 p2 p3   st = some res → Gd E st (Af E sz) s H locs → ∀ ls : Array Slot, lv_has ls 6 [(0, .ref (eq E 500)), (1, .int p1), (2, .int p2), (3, .int p3)] → W p l e (rmk 8) s m args below meth c H locs 0 0 (MQ below (QWi E res.2 sz res.1) args s 0 0 (Af E sz)) (F0 m 25 ls []) := by
  have hx := X.1.1
  have hb := X.1.2.1
  intro  st H locs hf G ls hl
  unfold fX10_ahead_B25 at hf
  refine lv_iload_n hx hb dX10_ahead_25 rfl (lv_at hl 3 rfl) ?_
  refine lv_iconst (v := (2 : Int32)) hx hb dX10_ahead_26 (by decide) ?_
  refine lv_icmp_ne (tgt := 34) hx hb dX10_ahead_27 (by decide) (fun c1 => ?_) (fun c1 => ?_)
  · have hf := it_f hf c1
    refine lv_iconst (v := (0 : Int32)) hx hb dX10_ahead_34 (by decide) ?_
    exact wX10_ahead_B35 hL X hr hlk (0 : Int32) st _ _ hf G _ (lv_sub hl [0, 1, 2, 3] rfl)
  · have hf := it_t hf c1
    exact wX10_ahead_B30 hL X hr hlk st _ _ hf G _ (lv_sub hl [0, 1, 2, 3] rfl)
def fX10_ahead_B12 (p1 : Int32) (p2 : Int32) (p3 : Int32) (st : St) : Option (Int32 × St) := if p3 = (1 : Int32) then (br (fX10_isOfficer st p1) (fun x3 => if x3 = 0 then (fX10_ahead_B25 p1 p2 p3 st) else (fX10_ahead_B30 p1 p2 p3 st))) else (fX10_ahead_B25 p1 p2 p3 st)
set_option maxRecDepth 100000 in
theorem wX10_ahead_B12 {p : Program} {l : Launch} {e : Env} {s : State} {m : MethodId} {args : Array Value} {below : List Frame} {meth : Method} {c : Code} {E : Ev} (hL : ∀ k, fxM k = true → k ∈ eL E) {p1 : Int32} {p2 : Int32} {p3 : Int32} {sz : Nat} {res : (Int32 × St)} (X : CX p s m args c E RX10 cX10_ahead 6 (Af E sz)) (hr : meth.sig.returnType = (some .int)) (hlk : meth.locks = false) : ∀  (st : St) (H : Heap) (locs : List Loc), fX10_ahead_B12 p1 p2 p3   st = some res → Gd E st (Af E sz) s H locs → ∀ ls : Array Slot, lv_has ls 6 [(0, .ref (eq E 500)), (1, .int p1), (2, .int p2), (3, .int p3)] → W p l e (rmk 8) s m args below meth c H locs 0 0 (MQ below (QWi E res.2 sz res.1) args s 0 0 (Af E sz)) (F0 m 12 ls []) := by
  have hx := X.1.1
  have hb := X.1.2.1
  intro  st H locs hf G ls hl
  unfold fX10_ahead_B12 at hf
  refine lv_iload_n hx hb dX10_ahead_12 rfl (lv_at hl 3 rfl) ?_
  refine lv_iconst (v := (1 : Int32)) hx hb dX10_ahead_13 (by decide) ?_
  refine lv_icmp_ne (tgt := 25) hx hb dX10_ahead_14 (by decide) (fun c1 => ?_) (fun c1 => ?_)
  · have hf := it_f hf c1
    exact wX10_ahead_B25 hL X hr hlk st _ _ hf G _ (lv_sub hl [0, 1, 2, 3] rfl)
  · have hf := it_t hf c1
    refine lv_aload_n hx hb dX10_ahead_17 rfl (lv_at hl 0 rfl) ?_
    refine lv_iload_n hx hb dX10_ahead_18 rfl (lv_at hl 1 rfl) ?_
    obtain ⟨x3, h2, hf⟩ := br_s hf
    refine cVRi (As := [.int p1]) (rest := []) X G kc_X10_374 (tX10_isOfficer l E st _ hL  p1 h2) (rcv X G (hL 500 rfl) (cO10 rfl) rfl) rfl rfl (rmk_le (by omega) (by decide)) rfl hl.1 rfl (Nat.le_of_ble_eq_true rfl) dX10_ahead_19 ⟨Nat.zero_le _, Nat.zero_le _⟩ ?_
    refine lv_if_ne (tgt := 30) hx hb dX10_ahead_22 (by decide) (fun c4 => ?_) (fun c4 => ?_)
    · have hf := it_f hf c4
      exact wX10_ahead_B30 hL X hr hlk st _ _ hf G _ (lv_sub hl [0, 1, 2, 3] rfl)
    · have hf := it_t hf c4
      exact wX10_ahead_B25 hL X hr hlk st _ _ hf G _ (lv_sub hl [0, 1, 2, 3] rfl)
def fX10_ahead (p1 : Int32) (p2 : Int32) (p3 : Int32) (st : St) : Option (Int32 × St) := if p3 = 0 then (br (fX10_isHouse st p1) (fun x3 => if x3 = 0 then (fX10_ahead_B12 p1 p2 p3 st) else (fX10_ahead_B30 p1 p2 p3 st))) else (fX10_ahead_B12 p1 p2 p3 st)
set_option maxRecDepth 100000 in
theorem tX10_ahead (l : Launch) (E : Ev) (st : St) (sz : Nat) (hL : ∀ k, fxM k = true → k ∈ eL E) (p1 : Int32) (p2 : Int32) (p3 : Int32) {res : (Int32 × St)} (hf : fX10_ahead  p1 p2 p3 st = some res) : Met l yX10_ahead (.code yX10_ahead cX10_ahead 6 (some .int) :: uW) (rmk 8) (va_Pc [.ref (eq E 500), .int p1, .int p2, .int p3] (Pre E st sz)) (QWi E res.2 sz res.1) 0 0 (Af E sz) := by
  refine Met_in (by decide) (Nat.le_of_ble_eq_true rfl) ?_
  intro p e s m below meth c X hr hlk hz G ls hl
  have hx := X.1.1
  have hb := X.1.2.1
  have hl : lv_has ls 6 [(0, .ref (eq E 500)), (1, .int p1), (2, .int p2), (3, .int p3)] := hl
  unfold fX10_ahead at hf
  refine lv_iload_n hx hb dX10_ahead_0 rfl (lv_at hl 3 rfl) ?_
  refine lv_if_ne (tgt := 12) hx hb dX10_ahead_1 (by decide) (fun c1 => ?_) (fun c1 => ?_)
  · have hf := it_f hf c1
    exact wX10_ahead_B12 hL X hr hlk st _ _ hf G _ (lv_sub hl [0, 1, 2, 3] rfl)
  · have hf := it_t hf c1
    refine lv_aload_n hx hb dX10_ahead_4 rfl (lv_at hl 0 rfl) ?_
    refine lv_iload_n hx hb dX10_ahead_5 rfl (lv_at hl 1 rfl) ?_
    obtain ⟨x3, h2, hf⟩ := br_s hf
    refine cVRi (As := [.int p1]) (rest := []) X G kc_X10_367 (tX10_isHouse l E st _ hL  p1 h2) (rcv X G (hL 500 rfl) (cO10 rfl) rfl) rfl rfl (rmk_le (by omega) (by decide)) rfl hl.1 rfl (Nat.le_of_ble_eq_true rfl) dX10_ahead_6 ⟨Nat.zero_le _, Nat.zero_le _⟩ ?_
    refine lv_if_ne (tgt := 30) hx hb dX10_ahead_9 (by decide) (fun c4 => ?_) (fun c4 => ?_)
    · have hf := it_f hf c4
      exact wX10_ahead_B30 hL X hr hlk st _ _ hf G _ (lv_sub hl [0, 1, 2, 3] rfl)
    · have hf := it_t hf c4
      exact wX10_ahead_B12 hL X hr hlk st _ _ hf G _ (lv_sub hl [0, 1, 2, 3] rfl)
def fX10_freezes_L27 (p1 : Int32) : Nat → Int32 → Int32 → St → Option (Int32 × St)
  | 0, _, _, _ => none
  | n + 1, y2, y3, st => if (200 : Int32) ≤ y3 then (br (fX10_laysBack st) (fun s3 => some (y2, s3))) else (if y2 = (-2 : Int32) then (bw (fX10_goes st) (fun x5 s4 => br (fX10_isFrozen s4 p1) (fun x7 => if x7 = 0 then (nm (y3 + (1 : Int32)) (fun x9 => (fX10_freezes_L27 p1 n) (-2 : Int32) x9 s4)) else (nm ((s4.1 502 6) - (1 : Int32)) (fun x10 => nm (y3 + (1 : Int32)) (fun x11 => (fX10_freezes_L27 p1 n) x10 x11 s4)))))) else (br (fX10_laysBack st) (fun s4 => some (y2, s4))))
set_option maxRecDepth 100000 in
theorem wX10_freezes_L27 {p : Program} {l : Launch} {e : Env} {s : State} {m : MethodId} {args : Array Value} {below : List Frame} {meth : Method} {c : Code} {E : Ev} (hL : ∀ k, fxM k = true → k ∈ eL E) {p1 : Int32} {sz : Nat} {res : (Int32 × St)} (X : CX p s m args c E RX10 cX10_freezes 4 (Af E sz)) (hr : meth.sig.returnType = (some .int)) (hlk : meth.locks = false) : ∀ (n : Nat) (y2 : Int32) (y3 : Int32) (st : St) (H : Heap) (locs : List Loc), fX10_freezes_L27 p1  n y2 y3 st = some res → Gd E st (Af E sz) s H locs → ∀ ls : Array Slot, lv_has ls 4 [(0, .ref (eq E 500)), (1, .int p1), (2, .int y2), (3, .int y3)] → W p l e (rmk 7) s m args below meth c H locs 0 0 (MQ below (QWi E res.2 sz res.1) args s 0 0 (Af E sz)) (F0 m 27 ls []) := by
  have hx := X.1.1
  have hb := X.1.2.1
  intro n
  induction n with
  | zero =>
    intro y2 y3 st H locs hf G ls hl
    cases (show (none : Option (Int32 × St)) = some res from hf)
  | succ n ih =>
    intro y2 y3 st H locs hf G ls hl
    rw [fX10_freezes_L27] at hf
    refine lv_iload_n hx hb dX10_freezes_27 rfl (lv_at hl 3 rfl) ?_
    refine lv_sipush (v := (200 : Int32)) hx hb dX10_freezes_28 (by decide) ?_
    refine lv_icmp_ge (tgt := 74) hx hb dX10_freezes_31 (by decide) (fun c1 => ?_) (fun c1 => ?_)
    · have hf := it_t hf c1
      refine lv_aload_n hx hb dX10_freezes_74 rfl (lv_at hl 0 rfl) ?_
      obtain ⟨s3, h2, hf⟩ := br_s hf
      refine cVWv (As := []) (rest := []) X G kc_X10_454 (tX10_laysBack l E st _ hL   h2) (rcv X G (hL 500 rfl) (cO10 rfl) rfl) rfl rfl (rmk_le (by omega) (by decide)) rfl hl.1 rfl (Nat.le_of_ble_eq_true rfl) dX10_freezes_75 ⟨Nat.zero_le _, Nat.zero_le _⟩ (fun H locs G => ?_)
      refine lv_iload_n hx hb dX10_freezes_78 rfl (lv_at hl 2 rfl) ?_
      exact rtWi X hlk G hr (so_i hf) dX10_freezes_79
    · have hf := it_f hf c1
      refine lv_iload_n hx hb dX10_freezes_34 rfl (lv_at hl 2 rfl) ?_
      refine lv_bipush (v := (-2 : Int32)) hx hb dX10_freezes_35 (by decide) ?_
      refine lv_icmp_ne (tgt := 74) hx hb dX10_freezes_37 (by decide) (fun c2 => ?_) (fun c2 => ?_)
      · have hf := it_f hf c2
        refine lv_aload_n hx hb dX10_freezes_74 rfl (lv_at hl 0 rfl) ?_
        obtain ⟨s4, h3, hf⟩ := br_s hf
        refine cVWv (As := []) (rest := []) X G kc_X10_454 (tX10_laysBack l E st _ hL   h3) (rcv X G (hL 500 rfl) (cO10 rfl) rfl) rfl rfl (rmk_le (by omega) (by decide)) rfl hl.1 rfl (Nat.le_of_ble_eq_true rfl) dX10_freezes_75 ⟨Nat.zero_le _, Nat.zero_le _⟩ (fun H locs G => ?_)
        refine lv_iload_n hx hb dX10_freezes_78 rfl (lv_at hl 2 rfl) ?_
        exact rtWi X hlk G hr (so_i hf) dX10_freezes_79
      · have hf := it_t hf c2
        refine lv_aload_n hx hb dX10_freezes_40 rfl (lv_at hl 0 rfl) ?_
        obtain ⟨x5, s4, h3, hf⟩ := bw_s hf
        refine cVWi (As := []) (rest := []) X G kc_X10_411 (tX10_goes l E st _ hL   h3) (rcv X G (hL 500 rfl) (cO10 rfl) rfl) rfl rfl (rmk_le (by omega) (by decide)) rfl hl.1 rfl (Nat.le_of_ble_eq_true rfl) dX10_freezes_41 ⟨Nat.zero_le _, Nat.zero_le _⟩ (fun H locs G => ?_)
        refine lv_pop hx hb dX10_freezes_44 rfl ?_
        refine lv_aload_n hx hb dX10_freezes_45 rfl (lv_at hl 0 rfl) ?_
        refine lv_iload_n hx hb dX10_freezes_46 rfl (lv_at hl 1 rfl) ?_
        obtain ⟨x7, h6, hf⟩ := br_s hf
        refine cVRi (As := [.int p1]) (rest := []) X G kc_X10_371 (tX10_isFrozen l E s4 _ hL  p1 h6) (rcv X G (hL 500 rfl) (cO10 rfl) rfl) rfl rfl (rmk_le (by omega) (by decide)) rfl hl.1 rfl (Nat.le_of_ble_eq_true rfl) dX10_freezes_47 ⟨Nat.zero_le _, Nat.zero_le _⟩ ?_
        refine lv_if_eq (tgt := 65) hx hb dX10_freezes_50 (by decide) (fun c8 => ?_) (fun c8 => ?_)
        · have hf := it_t hf c8
          refine lv_bipush (v := (-2 : Int32)) hx hb dX10_freezes_65 (by decide) ?_
          refine lv_istore_n (lv' := [(2, .int (-2 : Int32)), (0, .ref (eq E 500)), (1, .int p1), (3, .int y3)]) hx hb dX10_freezes_67 rfl hl (by decide) rfl (fun ls hl => ?_)
          obtain ⟨x9, ex9⟩ : ∃ y : Int32, y = (y3 + (1 : Int32)) := ⟨_, rfl⟩
          have hf := nm_s hf x9 ex9
          refine lv_iinc (k := 3) (v := x9) (lv' := [(3, .int x9), (2, .int (-2 : Int32)), (0, .ref (eq E 500)), (1, .int p1)]) hx hb dX10_freezes_68 hl rfl (by rw [ex9]; rfl) (by decide) rfl (fun ls hl => ?_)
          refine lv_goto (tgt := 27) hx hb dX10_freezes_71 (by decide) ?_
          exact ih (-2 : Int32) x9 s4 _ _ hf G _ (lv_sub hl [2, 3, 1, 0] rfl)
        · have hf := it_f hf c8
          refine lv_aload_n hx hb dX10_freezes_53 rfl (lv_at hl 0 rfl) ?_
          refine gf10 X G (hL 500 rfl) rfl 1 (by decide) rfl kf_X10_9 iwX10 dX10_freezes_54 ?_
          refine lv_bipush (v := (6 : Int32)) hx hb dX10_freezes_57 (by decide) ?_
          refine ia_ldc (k := 502) (n := 12) X G (hL 502 rfl) rfl (by decide) 6 (by decide) dX10_freezes_59 ?_
          refine lv_iconst (v := (1 : Int32)) hx hb dX10_freezes_60 (by decide) ?_
          refine lv_isub hx hb dX10_freezes_61 ?_
          refine lv_goto (tgt := 67) hx hb dX10_freezes_62 (by decide) ?_
          refine lv_topi (fun x10 ex10 => ?_)
          have hf := nm_s hf x10 ex10
          refine lv_istore_n (lv' := [(2, .int x10), (0, .ref (eq E 500)), (1, .int p1), (3, .int y3)]) hx hb dX10_freezes_67 rfl hl (by decide) rfl (fun ls hl => ?_)
          obtain ⟨x11, ex11⟩ : ∃ y : Int32, y = (y3 + (1 : Int32)) := ⟨_, rfl⟩
          have hf := nm_s hf x11 ex11
          refine lv_iinc (k := 3) (v := x11) (lv' := [(3, .int x11), (2, .int x10), (0, .ref (eq E 500)), (1, .int p1)]) hx hb dX10_freezes_68 hl rfl (by rw [ex11]; rfl) (by decide) rfl (fun ls hl => ?_)
          refine lv_goto (tgt := 27) hx hb dX10_freezes_71 (by decide) ?_
          exact ih x10 x11 s4 _ _ hf G _ (lv_sub hl [2, 3, 1, 0] rfl)
def fX10_freezes (p1 : Int32) (st : St) : Option (Int32 × St) := br (fX10_isHouse st p1) (fun x2 => if x2 = 0 then (some ((-1 : Int32), st)) else (br (fX10_isFrozen st p1) (fun x5 => if x5 = 0 then (br (fX10_keepsAll st) (fun s8 => fX10_freezes_L27 p1 10000 (-2 : Int32) (0 : Int32) s8)) else (some ((-1 : Int32), st)))))
set_option maxRecDepth 100000 in
theorem tX10_freezes (l : Launch) (E : Ev) (st : St) (sz : Nat) (hL : ∀ k, fxM k = true → k ∈ eL E) (p1 : Int32) {res : (Int32 × St)} (hf : fX10_freezes  p1 st = some res) : Met l yX10_freezes (.code yX10_freezes cX10_freezes 4 (some .int) :: uW) (rmk 7) (va_Pc [.ref (eq E 500), .int p1] (Pre E st sz)) (QWi E res.2 sz res.1) 0 0 (Af E sz) := by
  refine Met_in (by decide) (Nat.le_of_ble_eq_true rfl) ?_
  intro p e s m below meth c X hr hlk hz G ls hl
  have hx := X.1.1
  have hb := X.1.2.1
  have hl : lv_has ls 4 [(0, .ref (eq E 500)), (1, .int p1)] := hl
  unfold fX10_freezes at hf
  refine lv_aload_n hx hb dX10_freezes_0 rfl (lv_at hl 0 rfl) ?_
  refine lv_iload_n hx hb dX10_freezes_1 rfl (lv_at hl 1 rfl) ?_
  obtain ⟨x2, h1, hf⟩ := br_s hf
  refine cVRi (As := [.int p1]) (rest := []) X G kc_X10_367 (tX10_isHouse l E st _ hL  p1 h1) (rcv X G (hL 500 rfl) (cO10 rfl) rfl) rfl rfl (rmk_le (by omega) (by decide)) rfl hl.1 rfl (Nat.le_of_ble_eq_true rfl) dX10_freezes_2 ⟨Nat.zero_le _, Nat.zero_le _⟩ ?_
  refine lv_if_eq (tgt := 16) hx hb dX10_freezes_5 (by decide) (fun c3 => ?_) (fun c3 => ?_)
  · have hf := it_t hf c3
    refine lv_iconst (v := (-1 : Int32)) hx hb dX10_freezes_16 (by decide) ?_
    exact rtWi X hlk G hr (so_i hf) dX10_freezes_17
  · have hf := it_f hf c3
    refine lv_aload_n hx hb dX10_freezes_8 rfl (lv_at hl 0 rfl) ?_
    refine lv_iload_n hx hb dX10_freezes_9 rfl (lv_at hl 1 rfl) ?_
    obtain ⟨x5, h4, hf⟩ := br_s hf
    refine cVRi (As := [.int p1]) (rest := []) X G kc_X10_371 (tX10_isFrozen l E st _ hL  p1 h4) (rcv X G (hL 500 rfl) (cO10 rfl) rfl) rfl rfl (rmk_le (by omega) (by decide)) rfl hl.1 rfl (Nat.le_of_ble_eq_true rfl) dX10_freezes_10 ⟨Nat.zero_le _, Nat.zero_le _⟩ ?_
    refine lv_if_eq (tgt := 18) hx hb dX10_freezes_13 (by decide) (fun c6 => ?_) (fun c6 => ?_)
    · have hf := it_t hf c6
      refine lv_aload_n hx hb dX10_freezes_18 rfl (lv_at hl 0 rfl) ?_
      obtain ⟨s8, h7, hf⟩ := br_s hf
      refine cVWv (As := []) (rest := []) X G kc_X10_448 (tX10_keepsAll l E st _ hL   h7) (rcv X G (hL 500 rfl) (cO10 rfl) rfl) rfl rfl (rmk_le (by omega) (by decide)) rfl hl.1 rfl (Nat.le_of_ble_eq_true rfl) dX10_freezes_19 ⟨Nat.zero_le _, Nat.zero_le _⟩ (fun H locs G => ?_)
      refine lv_bipush (v := (-2 : Int32)) hx hb dX10_freezes_22 (by decide) ?_
      refine lv_istore_n (lv' := [(2, .int (-2 : Int32)), (0, .ref (eq E 500)), (1, .int p1)]) hx hb dX10_freezes_24 rfl hl (by decide) rfl (fun ls hl => ?_)
      refine lv_iconst (v := (0 : Int32)) hx hb dX10_freezes_25 (by decide) ?_
      refine lv_istore_n (lv' := [(3, .int (0 : Int32)), (2, .int (-2 : Int32)), (0, .ref (eq E 500)), (1, .int p1)]) hx hb dX10_freezes_26 rfl hl (by decide) rfl (fun ls hl => ?_)
      exact wX10_freezes_L27 hL X hr hlk 10000 (-2 : Int32) (0 : Int32) s8 _ _ hf G _ (lv_sub hl [2, 3, 1, 0] rfl)
    · have hf := it_f hf c6
      refine lv_iconst (v := (-1 : Int32)) hx hb dX10_freezes_16 (by decide) ?_
      exact rtWi X hlk G hr (so_i hf) dX10_freezes_17
def fX10_takenBy_B134 (p1 : Int32) (p2 : Int32) (p3 : Int32) (y5 : Int32) (y6 : Int32) (y7 : Int32) (st : St) : Option (Int32 × St) := nm (ui st 500 55 ((st.1 502 7) &&& (y5 ^^^ (-1 : Int32)))) (fun s2 => br (fX10_laysBack s2) (fun s4 => if y7 = 0 then (some ((-1 : Int32), s4)) else (some (y6, s4))))
set_option maxRecDepth 100000 in
theorem wX10_takenBy_B134 {p : Program} {l : Launch} {e : Env} {s : State} {m : MethodId} {args : Array Value} {below : List Frame} {meth : Method} {c : Code} {E : Ev} (hL : ∀ k, fxM k = true → k ∈ eL E) {p1 : Int32} {p2 : Int32} {p3 : Int32} {sz : Nat} {res : (Int32 × St)} (X : CX p s m args c E RX10 cX10_takenBy 10 (Af E sz)) (hr : meth.sig.returnType = (some .int)) (hlk : meth.locks = false) : ∀ (y5 : Int32) (y6 : Int32) (y7 : Int32) (st : St) (H : Heap) (locs : List Loc), fX10_takenBy_B134 p1 p2 p3  y5 y6 y7 st = some res → Gd E st (Af E sz) s H locs → ∀ ls : Array Slot, lv_has ls 10 [(0, .ref (eq E 500)), (5, .int y5), (6, .int y6), (7, .int y7)] → W p l e (rmk 3) s m args below meth c H locs 0 0 (MQ below (QWi E res.2 sz res.1) args s 0 0 (Af E sz)) (F0 m 134 ls []) := by
  have hx := X.1.1
  have hb := X.1.2.1
  intro y5 y6 y7 st H locs hf G ls hl
  unfold fX10_takenBy_B134 at hf
  refine lv_aload_n hx hb dX10_takenBy_134 rfl (lv_at hl 0 rfl) ?_
  refine lv_aload_n hx hb dX10_takenBy_135 rfl (lv_at hl 0 rfl) ?_
  refine gf10 X G (hL 500 rfl) rfl 1 (by decide) rfl kf_X10_9 iwX10 dX10_takenBy_136 ?_
  refine lv_bipush (v := (7 : Int32)) hx hb dX10_takenBy_139 (by decide) ?_
  refine ia_ldc (k := 502) (n := 12) X G (hL 502 rfl) rfl (by decide) 7 (by decide) dX10_takenBy_141 ?_
  refine lv_iload hx hb dX10_takenBy_142 (lv_at hl 1 rfl) ?_
  refine lv_iconst (v := (-1 : Int32)) hx hb dX10_takenBy_144 (by decide) ?_
  refine lv_ixor hx hb dX10_takenBy_145 ?_
  refine lv_iand hx hb dX10_takenBy_146 ?_
  refine pf10 X G (hL 500 rfl) rfl 55 (by decide) ps10_55 uio kf_X10_457 iwX10 rfl (ty := .int) (by decide +kernel) rfl rfl dX10_takenBy_147 (fun s2 es2 H locs G => ?_)
  have hf := nm_s hf s2 es2
  refine lv_aload_n hx hb dX10_takenBy_150 rfl (lv_at hl 0 rfl) ?_
  obtain ⟨s4, h3, hf⟩ := br_s hf
  refine cVWv (As := []) (rest := []) X G kc_X10_454 (tX10_laysBack l E s2 _ hL   h3) (rcv X G (hL 500 rfl) (cO10 rfl) rfl) rfl rfl (rmk_le (by omega) (by decide)) rfl hl.1 rfl (Nat.le_of_ble_eq_true rfl) dX10_takenBy_151 ⟨Nat.zero_le _, Nat.zero_le _⟩ (fun H locs G => ?_)
  refine lv_iload hx hb dX10_takenBy_154 (lv_at hl 3 rfl) ?_
  refine lv_if_eq (tgt := 164) hx hb dX10_takenBy_156 (by decide) (fun c5 => ?_) (fun c5 => ?_)
  · have hf := it_t hf c5
    refine lv_iconst (v := (-1 : Int32)) hx hb dX10_takenBy_164 (by decide) ?_
    exact rtWi X hlk G hr (so_i hf) dX10_takenBy_165
  · have hf := it_f hf c5
    refine lv_iload hx hb dX10_takenBy_159 (lv_at hl 2 rfl) ?_
    refine lv_goto (tgt := 165) hx hb dX10_takenBy_161 (by decide) ?_
    exact rtWi X hlk G hr (so_i hf) dX10_takenBy_165
def fX10_takenBy_B96 (p1 : Int32) (p2 : Int32) (p3 : Int32) (k47 : Int32 → Int32 → Int32 → Int32 → Int32 → St → Option (Int32 × St)) (y5 : Int32) (y6 : Int32) (y8 : Int32) (y9 : Int32) (z0 : Int32) (st : St) : Option (Int32 × St) := br (fX10_canCall st p1 y9) (fun x2 => if x2 = 0 then (nm (y8 + (1 : Int32)) (fun x4 => k47 z0 y5 y6 x2 x4 st)) else (bw (fX10_calls p1 y9 st) (fun x6 s5 => nm (y6 + x6) (fun x7 => br (fX10_burns s5) (fun s9 => nm (y8 + (1 : Int32)) (fun x10 => k47 z0 y5 x7 x2 x10 s9))))))
set_option maxRecDepth 100000 in
theorem wX10_takenBy_B96 {p : Program} {l : Launch} {e : Env} {s : State} {m : MethodId} {args : Array Value} {below : List Frame} {meth : Method} {c : Code} {E : Ev} (hL : ∀ k, fxM k = true → k ∈ eL E) {p1 : Int32} {p2 : Int32} {p3 : Int32} {sz : Nat} {res : (Int32 × St)} (X : CX p s m args c E RX10 cX10_takenBy 10 (Af E sz)) (hr : meth.sig.returnType = (some .int)) (hlk : meth.locks = false) {k47 : Int32 → Int32 → Int32 → Int32 → Int32 → St → Option (Int32 × St)} (hk47 : ∀ (y4 : Int32) (y5 : Int32) (y6 : Int32) (y7 : Int32) (y8 : Int32) (st : St) (H : Heap) (locs : List Loc), k47 y4 y5 y6 y7 y8 st = some res → Gd E st (Af E sz) s H locs → ∀ ls : Array Slot, lv_has ls 10 [(0, .ref (eq E 500)), (1, .int p1), (2, .int p2), (3, .int p3), (4, .int y4), (5, .int y5), (6, .int y6), (7, .int y7), (8, .int y8)] → W p l e (rmk 3) s m args below meth c H locs 0 0 (MQ below (QWi E res.2 sz res.1) args s 0 0 (Af E sz)) (F0 m 47 ls [])) : ∀ (y5 : Int32) (y6 : Int32) (y8 : Int32) (y9 : Int32) (z0 : Int32) (st : St) (H : Heap) (locs : List Loc), fX10_takenBy_B96 p1 p2 p3 k47 y5 y6 y8 y9 z0 st = some res → Gd E st (Af E sz) s H locs → ∀ ls : Array Slot, lv_has ls 10 [(0, .ref (eq E 500)), (1, .int p1), (2, .int p2), (3, .int p3), (5, .int y5), (6, .int y6), (8, .int y8), (9, .int y9)] → W p l e (rmk 3) s m args below meth c H locs 0 0 (MQ below (QWi E res.2 sz res.1) args s 0 0 (Af E sz)) (F0 m 96 ls [.int z0]) := by
  have hx := X.1.1
  have hb := X.1.2.1
  intro y5 y6 y8 y9 z0 st H locs hf G ls hl
  unfold fX10_takenBy_B96 at hf
  refine lv_istore (lv' := [(4, .int z0), (0, .ref (eq E 500)), (1, .int p1), (2, .int p2), (3, .int p3), (5, .int y5), (6, .int y6), (8, .int y8), (9, .int y9)]) hx hb dX10_takenBy_96 hl (by decide) rfl (fun ls hl => ?_)
  refine lv_aload_n hx hb dX10_takenBy_98 rfl (lv_at hl 1 rfl) ?_
  refine lv_iload_n hx hb dX10_takenBy_99 rfl (lv_at hl 2 rfl) ?_
  refine lv_iload hx hb dX10_takenBy_100 (lv_at hl 8 rfl) ?_
  obtain ⟨x2, h1, hf⟩ := br_s hf
  refine cVRi (As := [.int p1, .int y9]) (rest := []) X G kc_X10_389 (tX10_canCall l E st _ hL  p1 y9 h1) (rcv X G (hL 500 rfl) (cO10 rfl) rfl) rfl rfl (rmk_le (by omega) (by decide)) rfl hl.1 rfl (Nat.le_of_ble_eq_true rfl) dX10_takenBy_102 ⟨Nat.zero_le _, Nat.zero_le _⟩ ?_
  refine lv_istore (lv' := [(7, .int x2), (4, .int z0), (0, .ref (eq E 500)), (1, .int p1), (2, .int p2), (3, .int p3), (5, .int y5), (6, .int y6), (8, .int y8), (9, .int y9)]) hx hb dX10_takenBy_105 hl (by decide) rfl (fun ls hl => ?_)
  refine lv_iload hx hb dX10_takenBy_107 (lv_at hl 0 rfl) ?_
  refine lv_if_eq (tgt := 128) hx hb dX10_takenBy_109 (by decide) (fun c3 => ?_) (fun c3 => ?_)
  · have hf := it_t hf c3
    obtain ⟨x4, ex4⟩ : ∃ y : Int32, y = (y8 + (1 : Int32)) := ⟨_, rfl⟩
    have hf := nm_s hf x4 ex4
    refine lv_iinc (k := 8) (v := x4) (lv' := [(8, .int x4), (7, .int x2), (4, .int z0), (0, .ref (eq E 500)), (1, .int p1), (2, .int p2), (3, .int p3), (5, .int y5), (6, .int y6), (9, .int y9)]) hx hb dX10_takenBy_128 hl rfl (by rw [ex4]; rfl) (by decide) rfl (fun ls hl => ?_)
    refine lv_goto (tgt := 47) hx hb dX10_takenBy_131 (by decide) ?_
    exact hk47 z0 y5 y6 x2 x4 st _ _ hf G _ (lv_sub hl [3, 4, 5, 6, 2, 7, 8, 1, 0] rfl)
  · have hf := it_f hf c3
    refine lv_iload hx hb dX10_takenBy_112 (lv_at hl 7 rfl) ?_
    refine lv_aload_n hx hb dX10_takenBy_114 rfl (lv_at hl 2 rfl) ?_
    refine lv_iload_n hx hb dX10_takenBy_115 rfl (lv_at hl 3 rfl) ?_
    refine lv_iload hx hb dX10_takenBy_116 (lv_at hl 9 rfl) ?_
    obtain ⟨x6, s5, h4, hf⟩ := bw_s hf
    refine cVWi (As := [.int p1, .int y9]) (rest := [.int y6]) X G kc_X10_396 (tX10_calls l E st _ hL  p1 y9 h4) (rcv X G (hL 500 rfl) (cO10 rfl) rfl) rfl rfl (rmk_le (by omega) (by decide)) rfl hl.1 rfl (Nat.le_of_ble_eq_true rfl) dX10_takenBy_118 ⟨Nat.zero_le _, Nat.zero_le _⟩ (fun H locs G => ?_)
    refine lv_iadd hx hb dX10_takenBy_121 ?_
    refine lv_topi (fun x7 ex7 => ?_)
    have hf := nm_s hf x7 ex7
    refine lv_istore (lv' := [(6, .int x7), (7, .int x2), (4, .int z0), (0, .ref (eq E 500)), (1, .int p1), (2, .int p2), (3, .int p3), (5, .int y5), (8, .int y8), (9, .int y9)]) hx hb dX10_takenBy_122 hl (by decide) rfl (fun ls hl => ?_)
    refine lv_aload_n hx hb dX10_takenBy_124 rfl (lv_at hl 3 rfl) ?_
    obtain ⟨s9, h8, hf⟩ := br_s hf
    refine cVWv (As := []) (rest := []) X G kc_X10_408 (tX10_burns l E s5 _ hL   h8) (rcv X G (hL 500 rfl) (cO10 rfl) rfl) rfl rfl (rmk_le (by omega) (by decide)) rfl hl.1 rfl (Nat.le_of_ble_eq_true rfl) dX10_takenBy_125 ⟨Nat.zero_le _, Nat.zero_le _⟩ (fun H locs G => ?_)
    obtain ⟨x10, ex10⟩ : ∃ y : Int32, y = (y8 + (1 : Int32)) := ⟨_, rfl⟩
    have hf := nm_s hf x10 ex10
    refine lv_iinc (k := 8) (v := x10) (lv' := [(8, .int x10), (6, .int x7), (7, .int x2), (4, .int z0), (0, .ref (eq E 500)), (1, .int p1), (2, .int p2), (3, .int p3), (5, .int y5), (9, .int y9)]) hx hb dX10_takenBy_128 hl rfl (by rw [ex10]; rfl) (by decide) rfl (fun ls hl => ?_)
    refine lv_goto (tgt := 47) hx hb dX10_takenBy_131 (by decide) ?_
    exact hk47 z0 y5 x7 x2 x10 s9 _ _ hf G _ (lv_sub hl [4, 5, 6, 7, 3, 8, 1, 2, 0] rfl)
def fX10_takenBy_L47 (p1 : Int32) (p2 : Int32) (p3 : Int32) : Nat → Int32 → Int32 → Int32 → Int32 → Int32 → St → Option (Int32 × St)
  | 0, _, _, _, _, _, _ => none
  | n + 1, y4, y5, y6, y7, y8, st => if p2 ≤ y8 then (fX10_takenBy_B134 p1 p2 p3 y5 y6 y7 st) else (if y7 = 0 then (fX10_takenBy_B134 p1 p2 p3 y5 y6 y7 st) else (gd (nz y4) (gd (nz (st.1 502 3)) (nm (irm (p3 / y4) (st.1 502 3)) (fun x6 => gd (nz (st.1 502 3)) (if (y4 / (st.1 502 3)) ≤ 0 then (fX10_takenBy_B96 p1 p2 p3 (fX10_takenBy_L47 p1 p2 p3 n) y5 y6 y8 x6 (1 : Int32) st) else (gd (nz (st.1 502 3)) (fX10_takenBy_B96 p1 p2 p3 (fX10_takenBy_L47 p1 p2 p3 n) y5 y6 y8 x6 (y4 / (st.1 502 3)) st))))))))
set_option maxRecDepth 100000 in
theorem wX10_takenBy_L47 {p : Program} {l : Launch} {e : Env} {s : State} {m : MethodId} {args : Array Value} {below : List Frame} {meth : Method} {c : Code} {E : Ev} (hL : ∀ k, fxM k = true → k ∈ eL E) {p1 : Int32} {p2 : Int32} {p3 : Int32} {sz : Nat} {res : (Int32 × St)} (X : CX p s m args c E RX10 cX10_takenBy 10 (Af E sz)) (hr : meth.sig.returnType = (some .int)) (hlk : meth.locks = false) : ∀ (n : Nat) (y4 : Int32) (y5 : Int32) (y6 : Int32) (y7 : Int32) (y8 : Int32) (st : St) (H : Heap) (locs : List Loc), fX10_takenBy_L47 p1 p2 p3  n y4 y5 y6 y7 y8 st = some res → Gd E st (Af E sz) s H locs → ∀ ls : Array Slot, lv_has ls 10 [(0, .ref (eq E 500)), (1, .int p1), (2, .int p2), (3, .int p3), (4, .int y4), (5, .int y5), (6, .int y6), (7, .int y7), (8, .int y8)] → W p l e (rmk 3) s m args below meth c H locs 0 0 (MQ below (QWi E res.2 sz res.1) args s 0 0 (Af E sz)) (F0 m 47 ls []) := by
  have hx := X.1.1
  have hb := X.1.2.1
  intro n
  induction n with
  | zero =>
    intro y4 y5 y6 y7 y8 st H locs hf G ls hl
    cases (show (none : Option (Int32 × St)) = some res from hf)
  | succ n ih =>
    intro y4 y5 y6 y7 y8 st H locs hf G ls hl
    rw [fX10_takenBy_L47] at hf
    refine lv_iload hx hb dX10_takenBy_47 (lv_at hl 8 rfl) ?_
    refine lv_iload_n hx hb dX10_takenBy_49 rfl (lv_at hl 2 rfl) ?_
    refine lv_icmp_ge (tgt := 134) hx hb dX10_takenBy_50 (by decide) (fun c1 => ?_) (fun c1 => ?_)
    · have hf := it_t hf c1
      exact wX10_takenBy_B134 hL X hr hlk y5 y6 y7 st _ _ hf G _ (lv_sub hl [0, 5, 6, 7] rfl)
    · have hf := it_f hf c1
      refine lv_iload hx hb dX10_takenBy_53 (lv_at hl 7 rfl) ?_
      refine lv_if_eq (tgt := 134) hx hb dX10_takenBy_55 (by decide) (fun c2 => ?_) (fun c2 => ?_)
      · have hf := it_t hf c2
        exact wX10_takenBy_B134 hL X hr hlk y5 y6 y7 st _ _ hf G _ (lv_sub hl [0, 5, 6, 7] rfl)
      · have hf := it_f hf c2
        refine lv_iload_n hx hb dX10_takenBy_58 rfl (lv_at hl 3 rfl) ?_
        refine lv_iload hx hb dX10_takenBy_59 (lv_at hl 4 rfl) ?_
        obtain ⟨h3, hf⟩ := gd_s hf
        refine lv_idiv hx hb dX10_takenBy_61 (nz_n h3) ?_
        refine lv_aload_n hx hb dX10_takenBy_62 rfl (lv_at hl 0 rfl) ?_
        refine gf10 X G (hL 500 rfl) rfl 1 (by decide) rfl kf_X10_9 iwX10 dX10_takenBy_63 ?_
        refine lv_iconst (v := (3 : Int32)) hx hb dX10_takenBy_66 (by decide) ?_
        refine ia_ldc (k := 502) (n := 12) X G (hL 502 rfl) rfl (by decide) 3 (by decide) dX10_takenBy_67 ?_
        obtain ⟨h5, hf⟩ := gd_s hf
        refine lv_irem hx hb dX10_takenBy_68 (nz_n h5) ?_
        refine lv_topi (fun x6 ex6 => ?_)
        have hf := nm_s hf x6 ex6
        refine lv_istore (lv' := [(9, .int x6), (0, .ref (eq E 500)), (1, .int p1), (2, .int p2), (3, .int p3), (4, .int y4), (5, .int y5), (6, .int y6), (7, .int y7), (8, .int y8)]) hx hb dX10_takenBy_69 hl (by decide) rfl (fun ls hl => ?_)
        refine lv_iload hx hb dX10_takenBy_71 (lv_at hl 5 rfl) ?_
        refine lv_aload_n hx hb dX10_takenBy_73 rfl (lv_at hl 1 rfl) ?_
        refine gf10 X G (hL 500 rfl) rfl 1 (by decide) rfl kf_X10_9 iwX10 dX10_takenBy_74 ?_
        refine lv_iconst (v := (3 : Int32)) hx hb dX10_takenBy_77 (by decide) ?_
        refine ia_ldc (k := 502) (n := 12) X G (hL 502 rfl) rfl (by decide) 3 (by decide) dX10_takenBy_78 ?_
        obtain ⟨h8, hf⟩ := gd_s hf
        refine lv_idiv hx hb dX10_takenBy_79 (nz_n h8) ?_
        refine lv_if_le (tgt := 95) hx hb dX10_takenBy_80 (by decide) (fun c9 => ?_) (fun c9 => ?_)
        · have hf := it_t hf c9
          refine lv_iconst (v := (1 : Int32)) hx hb dX10_takenBy_95 (by decide) ?_
          exact wX10_takenBy_B96 hL X hr hlk ih y5 y6 y8 x6 (1 : Int32) st _ _ hf G _ (lv_sub hl [1, 2, 3, 4, 6, 7, 9, 0] rfl)
        · have hf := it_f hf c9
          refine lv_iload hx hb dX10_takenBy_83 (lv_at hl 5 rfl) ?_
          refine lv_aload_n hx hb dX10_takenBy_85 rfl (lv_at hl 1 rfl) ?_
          refine gf10 X G (hL 500 rfl) rfl 1 (by decide) rfl kf_X10_9 iwX10 dX10_takenBy_86 ?_
          refine lv_iconst (v := (3 : Int32)) hx hb dX10_takenBy_89 (by decide) ?_
          refine ia_ldc (k := 502) (n := 12) X G (hL 502 rfl) rfl (by decide) 3 (by decide) dX10_takenBy_90 ?_
          obtain ⟨h11, hf⟩ := gd_s hf
          refine lv_idiv hx hb dX10_takenBy_91 (nz_n h11) ?_
          refine lv_goto (tgt := 96) hx hb dX10_takenBy_92 (by decide) ?_
          exact wX10_takenBy_B96 hL X hr hlk ih y5 y6 y8 x6 (y4 / (st.1 502 3)) st _ _ hf G _ (lv_sub hl [1, 2, 3, 4, 6, 7, 9, 0] rfl)
def fX10_takenBy_L6 (p1 : Int32) (p2 : Int32) (p3 : Int32) : Nat → Int32 → Int32 → St → Option (Int32 × St)
  | 0, _, _, _ => none
  | n + 1, y4, y5, st => if p2 ≤ y5 then (nm (st.1 502 7) (fun x3 => fX10_takenBy_L47 p1 p2 p3 10000 y4 x3 (0 : Int32) (1 : Int32) (0 : Int32) st)) else (nm (y4 * (st.1 502 3)) (fun x3 => nm (y5 + (1 : Int32)) (fun x4 => (fX10_takenBy_L6 p1 p2 p3 n) x3 x4 st)))
set_option maxRecDepth 100000 in
theorem wX10_takenBy_L6 {p : Program} {l : Launch} {e : Env} {s : State} {m : MethodId} {args : Array Value} {below : List Frame} {meth : Method} {c : Code} {E : Ev} (hL : ∀ k, fxM k = true → k ∈ eL E) {p1 : Int32} {p2 : Int32} {p3 : Int32} {sz : Nat} {res : (Int32 × St)} (X : CX p s m args c E RX10 cX10_takenBy 10 (Af E sz)) (hr : meth.sig.returnType = (some .int)) (hlk : meth.locks = false) : ∀ (n : Nat) (y4 : Int32) (y5 : Int32) (st : St) (H : Heap) (locs : List Loc), fX10_takenBy_L6 p1 p2 p3  n y4 y5 st = some res → Gd E st (Af E sz) s H locs → ∀ ls : Array Slot, lv_has ls 10 [(0, .ref (eq E 500)), (1, .int p1), (2, .int p2), (3, .int p3), (4, .int y4), (5, .int y5)] → W p l e (rmk 3) s m args below meth c H locs 0 0 (MQ below (QWi E res.2 sz res.1) args s 0 0 (Af E sz)) (F0 m 6 ls []) := by
  have hx := X.1.1
  have hb := X.1.2.1
  intro n
  induction n with
  | zero =>
    intro y4 y5 st H locs hf G ls hl
    cases (show (none : Option (Int32 × St)) = some res from hf)
  | succ n ih =>
    intro y4 y5 st H locs hf G ls hl
    rw [fX10_takenBy_L6] at hf
    refine lv_iload hx hb dX10_takenBy_6 (lv_at hl 5 rfl) ?_
    refine lv_iload_n hx hb dX10_takenBy_8 rfl (lv_at hl 2 rfl) ?_
    refine lv_icmp_ge (tgt := 29) hx hb dX10_takenBy_9 (by decide) (fun c1 => ?_) (fun c1 => ?_)
    · have hf := it_t hf c1
      refine lv_aload_n hx hb dX10_takenBy_29 rfl (lv_at hl 0 rfl) ?_
      refine gf10 X G (hL 500 rfl) rfl 1 (by decide) rfl kf_X10_9 iwX10 dX10_takenBy_30 ?_
      refine lv_bipush (v := (7 : Int32)) hx hb dX10_takenBy_33 (by decide) ?_
      refine ia_ldc (k := 502) (n := 12) X G (hL 502 rfl) rfl (by decide) 7 (by decide) dX10_takenBy_35 ?_
      refine lv_topi (fun x3 ex3 => ?_)
      have hf := nm_s hf x3 ex3
      refine lv_istore (lv' := [(5, .int x3), (0, .ref (eq E 500)), (1, .int p1), (2, .int p2), (3, .int p3), (4, .int y4)]) hx hb dX10_takenBy_36 hl (by decide) rfl (fun ls hl => ?_)
      refine lv_iconst (v := (0 : Int32)) hx hb dX10_takenBy_38 (by decide) ?_
      refine lv_istore (lv' := [(6, .int (0 : Int32)), (5, .int x3), (0, .ref (eq E 500)), (1, .int p1), (2, .int p2), (3, .int p3), (4, .int y4)]) hx hb dX10_takenBy_39 hl (by decide) rfl (fun ls hl => ?_)
      refine lv_iconst (v := (1 : Int32)) hx hb dX10_takenBy_41 (by decide) ?_
      refine lv_istore (lv' := [(7, .int (1 : Int32)), (6, .int (0 : Int32)), (5, .int x3), (0, .ref (eq E 500)), (1, .int p1), (2, .int p2), (3, .int p3), (4, .int y4)]) hx hb dX10_takenBy_42 hl (by decide) rfl (fun ls hl => ?_)
      refine lv_iconst (v := (0 : Int32)) hx hb dX10_takenBy_44 (by decide) ?_
      refine lv_istore (lv' := [(8, .int (0 : Int32)), (7, .int (1 : Int32)), (6, .int (0 : Int32)), (5, .int x3), (0, .ref (eq E 500)), (1, .int p1), (2, .int p2), (3, .int p3), (4, .int y4)]) hx hb dX10_takenBy_45 hl (by decide) rfl (fun ls hl => ?_)
      exact wX10_takenBy_L47 hL X hr hlk 10000 y4 x3 (0 : Int32) (1 : Int32) (0 : Int32) st _ _ hf G _ (lv_sub hl [4, 5, 6, 7, 8, 3, 2, 1, 0] rfl)
    · have hf := it_f hf c1
      refine lv_iload hx hb dX10_takenBy_12 (lv_at hl 4 rfl) ?_
      refine lv_aload_n hx hb dX10_takenBy_14 rfl (lv_at hl 0 rfl) ?_
      refine gf10 X G (hL 500 rfl) rfl 1 (by decide) rfl kf_X10_9 iwX10 dX10_takenBy_15 ?_
      refine lv_iconst (v := (3 : Int32)) hx hb dX10_takenBy_18 (by decide) ?_
      refine ia_ldc (k := 502) (n := 12) X G (hL 502 rfl) rfl (by decide) 3 (by decide) dX10_takenBy_19 ?_
      refine lv_imul hx hb dX10_takenBy_20 ?_
      refine lv_topi (fun x3 ex3 => ?_)
      have hf := nm_s hf x3 ex3
      refine lv_istore (lv' := [(4, .int x3), (0, .ref (eq E 500)), (1, .int p1), (2, .int p2), (3, .int p3), (5, .int y5)]) hx hb dX10_takenBy_21 hl (by decide) rfl (fun ls hl => ?_)
      obtain ⟨x4, ex4⟩ : ∃ y : Int32, y = (y5 + (1 : Int32)) := ⟨_, rfl⟩
      have hf := nm_s hf x4 ex4
      refine lv_iinc (k := 5) (v := x4) (lv' := [(5, .int x4), (4, .int x3), (0, .ref (eq E 500)), (1, .int p1), (2, .int p2), (3, .int p3)]) hx hb dX10_takenBy_23 hl rfl (by rw [ex4]; rfl) (by decide) rfl (fun ls hl => ?_)
      refine lv_goto (tgt := 6) hx hb dX10_takenBy_26 (by decide) ?_
      exact ih x3 x4 st _ _ hf G _ (lv_sub hl [2, 3, 4, 5, 1, 0] rfl)
def fX10_takenBy (p1 : Int32) (p2 : Int32) (p3 : Int32) (st : St) : Option (Int32 × St) := fX10_takenBy_L6 p1 p2 p3 10000 (1 : Int32) (1 : Int32) st
set_option maxRecDepth 100000 in
theorem tX10_takenBy (l : Launch) (E : Ev) (st : St) (sz : Nat) (hL : ∀ k, fxM k = true → k ∈ eL E) (p1 : Int32) (p2 : Int32) (p3 : Int32) {res : (Int32 × St)} (hf : fX10_takenBy  p1 p2 p3 st = some res) : Met l yX10_takenBy (.code yX10_takenBy cX10_takenBy 10 (some .int) :: uW) (rmk 3) (va_Pc [.ref (eq E 500), .int p1, .int p2, .int p3] (Pre E st sz)) (QWi E res.2 sz res.1) 0 0 (Af E sz) := by
  refine Met_in (by decide) (Nat.le_of_ble_eq_true rfl) ?_
  intro p e s m below meth c X hr hlk hz G ls hl
  have hx := X.1.1
  have hb := X.1.2.1
  have hl : lv_has ls 10 [(0, .ref (eq E 500)), (1, .int p1), (2, .int p2), (3, .int p3)] := hl
  unfold fX10_takenBy at hf
  refine lv_iconst (v := (1 : Int32)) hx hb dX10_takenBy_0 (by decide) ?_
  refine lv_istore (lv' := [(4, .int (1 : Int32)), (0, .ref (eq E 500)), (1, .int p1), (2, .int p2), (3, .int p3)]) hx hb dX10_takenBy_1 hl (by decide) rfl (fun ls hl => ?_)
  refine lv_iconst (v := (1 : Int32)) hx hb dX10_takenBy_3 (by decide) ?_
  refine lv_istore (lv' := [(5, .int (1 : Int32)), (4, .int (1 : Int32)), (0, .ref (eq E 500)), (1, .int p1), (2, .int p2), (3, .int p3)]) hx hb dX10_takenBy_4 hl (by decide) rfl (fun ls hl => ?_)
  exact wX10_takenBy_L6 hL X hr hlk 10000 (1 : Int32) (1 : Int32) st _ _ hf G _ (lv_sub hl [2, 3, 4, 5, 1, 0] rfl)
def fX10_rowsOf_L4 (p1 : Int32) (st : St) : Nat → Int32 → Int32 → Option Int32
  | 0, _, _ => none
  | n + 1, y2, y3 => if p1 ≤ y3 then (some y2) else (nm (y2 * (st.1 502 3)) (fun x3 => nm (y3 + (1 : Int32)) (fun x4 => (fX10_rowsOf_L4 p1 st n) x3 x4)))
set_option maxRecDepth 100000 in
theorem wX10_rowsOf_L4 {p : Program} {l : Launch} {e : Env} {s : State} {m : MethodId} {args : Array Value} {below : List Frame} {meth : Method} {c : Code} {E : Ev} (hL : ∀ k, fxM k = true → k ∈ eL E) {p1 : Int32} {st : St} {sz : Nat} {res : Int32} (X : CX p s m args c E RX10 cX10_rowsOf 4 (Af E sz)) (hr : meth.sig.returnType = (some .int)) (hlk : meth.locks = false) (G : Gd E st (Af E sz) s s.heap []) : ∀ (n : Nat) (y2 : Int32) (y3 : Int32), fX10_rowsOf_L4 p1 st  n y2 y3 = some res → ∀ ls : Array Slot, lv_has ls 4 [(0, .ref (eq E 500)), (1, .int p1), (2, .int y2), (3, .int y3)] → W p l e (rmk 0) s m args below meth c s.heap [] 0 0 (MQ below (QRi res) args s 0 0 (NoF)) (F0 m 4 ls []) := by
  have hx := X.1.1
  have hb := X.1.2.1
  intro n
  induction n with
  | zero =>
    intro y2 y3 hf ls hl
    cases (show (none : Option Int32) = some res from hf)
  | succ n ih =>
    intro y2 y3 hf ls hl
    rw [fX10_rowsOf_L4] at hf
    refine lv_iload_n hx hb dX10_rowsOf_4 rfl (lv_at hl 3 rfl) ?_
    refine lv_iload_n hx hb dX10_rowsOf_5 rfl (lv_at hl 1 rfl) ?_
    refine lv_icmp_ge (tgt := 24) hx hb dX10_rowsOf_6 (by decide) (fun c1 => ?_) (fun c1 => ?_)
    · have hf := it_t hf c1
      refine lv_iload_n hx hb dX10_rowsOf_24 rfl (lv_at hl 2 rfl) ?_
      exact rtRi X hlk hr (so_i hf) dX10_rowsOf_25
    · have hf := it_f hf c1
      refine lv_iload_n hx hb dX10_rowsOf_9 rfl (lv_at hl 2 rfl) ?_
      refine lv_aload_n hx hb dX10_rowsOf_10 rfl (lv_at hl 0 rfl) ?_
      refine gf10 X G (hL 500 rfl) rfl 1 (by decide) rfl kf_X10_9 iwX10 dX10_rowsOf_11 ?_
      refine lv_iconst (v := (3 : Int32)) hx hb dX10_rowsOf_14 (by decide) ?_
      refine ia_ldc (k := 502) (n := 12) X G (hL 502 rfl) rfl (by decide) 3 (by decide) dX10_rowsOf_15 ?_
      refine lv_imul hx hb dX10_rowsOf_16 ?_
      refine lv_topi (fun x3 ex3 => ?_)
      have hf := nm_s hf x3 ex3
      refine lv_istore_n (lv' := [(2, .int x3), (0, .ref (eq E 500)), (1, .int p1), (3, .int y3)]) hx hb dX10_rowsOf_17 rfl hl (by decide) rfl (fun ls hl => ?_)
      obtain ⟨x4, ex4⟩ : ∃ y : Int32, y = (y3 + (1 : Int32)) := ⟨_, rfl⟩
      have hf := nm_s hf x4 ex4
      refine lv_iinc (k := 3) (v := x4) (lv' := [(3, .int x4), (2, .int x3), (0, .ref (eq E 500)), (1, .int p1)]) hx hb dX10_rowsOf_18 hl rfl (by rw [ex4]; rfl) (by decide) rfl (fun ls hl => ?_)
      refine lv_goto (tgt := 4) hx hb dX10_rowsOf_21 (by decide) ?_
      exact ih x3 x4 hf _ (lv_sub hl [2, 3, 1, 0] rfl)
def fX10_rowsOf (st : St) (p1 : Int32) : Option Int32 := fX10_rowsOf_L4 p1 st 10000 (1 : Int32) (0 : Int32)
set_option maxRecDepth 100000 in
theorem tX10_rowsOf (l : Launch) (E : Ev) (st : St) (sz : Nat) (hL : ∀ k, fxM k = true → k ∈ eL E) (p1 : Int32) {res : Int32} (hf : fX10_rowsOf st p1 = some res) : Met l yX10_rowsOf (.code yX10_rowsOf cX10_rowsOf 4 (some .int) :: uW) (rmk 0) (va_Pc [.ref (eq E 500), .int p1] (Pre E st sz)) (QRi res) 0 0 (NoF) := by
  refine Met_in (by decide) (Nat.le_of_ble_eq_true rfl) ?_
  intro p e s m below meth c X hr hlk hz G ls hl
  have hx := X.1.1
  have hb := X.1.2.1
  have hl : lv_has ls 4 [(0, .ref (eq E 500)), (1, .int p1)] := hl
  unfold fX10_rowsOf at hf
  refine lv_iconst (v := (1 : Int32)) hx hb dX10_rowsOf_0 (by decide) ?_
  refine lv_istore_n (lv' := [(2, .int (1 : Int32)), (0, .ref (eq E 500)), (1, .int p1)]) hx hb dX10_rowsOf_1 rfl hl (by decide) rfl (fun ls hl => ?_)
  refine lv_iconst (v := (0 : Int32)) hx hb dX10_rowsOf_2 (by decide) ?_
  refine lv_istore_n (lv' := [(3, .int (0 : Int32)), (2, .int (1 : Int32)), (0, .ref (eq E 500)), (1, .int p1)]) hx hb dX10_rowsOf_3 rfl hl (by decide) rfl (fun ls hl => ?_)
  exact wX10_rowsOf_L4 hL X hr hlk G 10000 (1 : Int32) (0 : Int32) hf _ (lv_sub hl [2, 3, 1, 0] rfl)
def fX10_round_L130 (p1 : Int32) (p2 : Int32) (p3 : Int32) : Nat → Int32 → Int32 → St → Option (Int32 × St)
  | 0, _, _, _ => none
  | n + 1, y6, y7, st => if y7 ≤ p3 then (if p2 ≤ p3 then (some ((-2 : Int32), st)) else (gd (nz (st.1 502 3)) (some ((irm y6 (st.1 502 3)), st)))) else (gd (nz (st.1 502 3)) (nm (y6 / (st.1 502 3)) (fun x4 => nm (y7 + (-1 : Int32)) (fun x5 => (fX10_round_L130 p1 p2 p3 n) x4 x5 st))))
set_option maxRecDepth 100000 in
theorem wX10_round_L130 {p : Program} {l : Launch} {e : Env} {s : State} {m : MethodId} {args : Array Value} {below : List Frame} {meth : Method} {c : Code} {E : Ev} (hL : ∀ k, fxM k = true → k ∈ eL E) {p1 : Int32} {p2 : Int32} {p3 : Int32} {sz : Nat} {res : (Int32 × St)} (X : CX p s m args c E RX10 cX10_round 8 (Af E sz)) (hr : meth.sig.returnType = (some .int)) (hlk : meth.locks = false) : ∀ (n : Nat) (y6 : Int32) (y7 : Int32) (st : St) (H : Heap) (locs : List Loc), fX10_round_L130 p1 p2 p3  n y6 y7 st = some res → Gd E st (Af E sz) s H locs → ∀ ls : Array Slot, lv_has ls 8 [(0, .ref (eq E 500)), (2, .int p2), (3, .int p3), (6, .int y6), (7, .int y7)] → W p l e (rmk 4) s m args below meth c H locs 0 0 (MQ below (QWi E res.2 sz res.1) args s 0 0 (Af E sz)) (F0 m 130 ls []) := by
  have hx := X.1.1
  have hb := X.1.2.1
  intro n
  induction n with
  | zero =>
    intro y6 y7 st H locs hf G ls hl
    cases (show (none : Option (Int32 × St)) = some res from hf)
  | succ n ih =>
    intro y6 y7 st H locs hf G ls hl
    rw [fX10_round_L130] at hf
    refine lv_iload hx hb dX10_round_130 (lv_at hl 4 rfl) ?_
    refine lv_iload_n hx hb dX10_round_132 rfl (lv_at hl 2 rfl) ?_
    refine lv_icmp_le (tgt := 153) hx hb dX10_round_133 (by decide) (fun c1 => ?_) (fun c1 => ?_)
    · have hf := it_t hf c1
      refine lv_iload_n hx hb dX10_round_153 rfl (lv_at hl 2 rfl) ?_
      refine lv_iload_n hx hb dX10_round_154 rfl (lv_at hl 1 rfl) ?_
      refine lv_icmp_ge (tgt := 170) hx hb dX10_round_155 (by decide) (fun c2 => ?_) (fun c2 => ?_)
      · have hf := it_t hf c2
        refine lv_bipush (v := (-2 : Int32)) hx hb dX10_round_170 (by decide) ?_
        exact rtWi X hlk G hr (so_i hf) dX10_round_172
      · have hf := it_f hf c2
        refine lv_iload hx hb dX10_round_158 (lv_at hl 3 rfl) ?_
        refine lv_aload_n hx hb dX10_round_160 rfl (lv_at hl 0 rfl) ?_
        refine gf10 X G (hL 500 rfl) rfl 1 (by decide) rfl kf_X10_9 iwX10 dX10_round_161 ?_
        refine lv_iconst (v := (3 : Int32)) hx hb dX10_round_164 (by decide) ?_
        refine ia_ldc (k := 502) (n := 12) X G (hL 502 rfl) rfl (by decide) 3 (by decide) dX10_round_165 ?_
        obtain ⟨h4, hf⟩ := gd_s hf
        refine lv_irem hx hb dX10_round_166 (nz_n h4) ?_
        refine lv_goto (tgt := 172) hx hb dX10_round_167 (by decide) ?_
        exact rtWi X hlk G hr (so_i hf) dX10_round_172
    · have hf := it_f hf c1
      refine lv_iload hx hb dX10_round_136 (lv_at hl 3 rfl) ?_
      refine lv_aload_n hx hb dX10_round_138 rfl (lv_at hl 0 rfl) ?_
      refine gf10 X G (hL 500 rfl) rfl 1 (by decide) rfl kf_X10_9 iwX10 dX10_round_139 ?_
      refine lv_iconst (v := (3 : Int32)) hx hb dX10_round_142 (by decide) ?_
      refine ia_ldc (k := 502) (n := 12) X G (hL 502 rfl) rfl (by decide) 3 (by decide) dX10_round_143 ?_
      obtain ⟨h3, hf⟩ := gd_s hf
      refine lv_idiv hx hb dX10_round_144 (nz_n h3) ?_
      refine lv_topi (fun x4 ex4 => ?_)
      have hf := nm_s hf x4 ex4
      refine lv_istore (lv' := [(6, .int x4), (0, .ref (eq E 500)), (2, .int p2), (3, .int p3), (7, .int y7)]) hx hb dX10_round_145 hl (by decide) rfl (fun ls hl => ?_)
      obtain ⟨x5, ex5⟩ : ∃ y : Int32, y = (y7 + (-1 : Int32)) := ⟨_, rfl⟩
      have hf := nm_s hf x5 ex5
      refine lv_iinc (k := 4) (v := x5) (lv' := [(7, .int x5), (6, .int x4), (0, .ref (eq E 500)), (2, .int p2), (3, .int p3)]) hx hb dX10_round_147 hl rfl (by rw [ex5]; rfl) (by decide) rfl (fun ls hl => ?_)
      refine lv_goto (tgt := 130) hx hb dX10_round_150 (by decide) ?_
      exact ih x4 x5 st _ _ hf G _ (lv_sub hl [2, 3, 4, 1, 0] rfl)
def fX10_round_L52 (p1 : Int32) (p2 : Int32) (p3 : Int32) : Nat → Int32 → Int32 → Int32 → St → Option (Int32 × St)
  | 0, _, _, _, _ => none
  | n + 1, y4, y5, y6, st => br (fX10_rowsOf st p2) (fun x2 => if x2 ≤ y6 then (if y4 = (-2 : Int32) then (some (y5, st)) else (if p3 = (-1 : Int32) then (some (y5, st)) else (nm (p2 - (1 : Int32)) (fun x6 => fX10_round_L130 p1 p2 p3 10000 y4 x6 st)))) else (bw (fX10_takenBy p1 p2 y6 st) (fun x6 s5 => if x6 ≤ y5 then (nm (y6 + (1 : Int32)) (fun x8 => (fX10_round_L52 p1 p2 p3 n) y4 y5 x8 s5)) else (if x6 = (-1 : Int32) then (nm (y6 + (1 : Int32)) (fun x9 => (fX10_round_L52 p1 p2 p3 n) y4 y5 x9 s5)) else (if (s5.1 500 55) = 0 then (nm (y6 + (1 : Int32)) (fun x10 => (fX10_round_L52 p1 p2 p3 n) y6 x6 x10 s5)) else (nm (y6 + (1 : Int32)) (fun x10 => (fX10_round_L52 p1 p2 p3 n) y4 y5 x10 s5)))))))
set_option maxRecDepth 100000 in
theorem wX10_round_L52 {p : Program} {l : Launch} {e : Env} {s : State} {m : MethodId} {args : Array Value} {below : List Frame} {meth : Method} {c : Code} {E : Ev} (hL : ∀ k, fxM k = true → k ∈ eL E) {p1 : Int32} {p2 : Int32} {p3 : Int32} {sz : Nat} {res : (Int32 × St)} (X : CX p s m args c E RX10 cX10_round 8 (Af E sz)) (hr : meth.sig.returnType = (some .int)) (hlk : meth.locks = false) : ∀ (n : Nat) (y4 : Int32) (y5 : Int32) (y6 : Int32) (st : St) (H : Heap) (locs : List Loc), fX10_round_L52 p1 p2 p3  n y4 y5 y6 st = some res → Gd E st (Af E sz) s H locs → ∀ ls : Array Slot, lv_has ls 8 [(0, .ref (eq E 500)), (1, .int p1), (2, .int p2), (3, .int p3), (4, .int y4), (5, .int y5), (6, .int y6)] → W p l e (rmk 4) s m args below meth c H locs 0 0 (MQ below (QWi E res.2 sz res.1) args s 0 0 (Af E sz)) (F0 m 52 ls []) := by
  have hx := X.1.1
  have hb := X.1.2.1
  intro n
  induction n with
  | zero =>
    intro y4 y5 y6 st H locs hf G ls hl
    cases (show (none : Option (Int32 × St)) = some res from hf)
  | succ n ih =>
    intro y4 y5 y6 st H locs hf G ls hl
    rw [fX10_round_L52] at hf
    refine lv_iload hx hb dX10_round_52 (lv_at hl 6 rfl) ?_
    refine lv_aload_n hx hb dX10_round_54 rfl (lv_at hl 0 rfl) ?_
    refine lv_iload_n hx hb dX10_round_55 rfl (lv_at hl 2 rfl) ?_
    obtain ⟨x2, h1, hf⟩ := br_s hf
    refine cVRi (As := [.int p2]) (rest := [.int y6]) X G kc_X10_464 (tX10_rowsOf l E st _ hL  p2 h1) (rcv X G (hL 500 rfl) (cO10 rfl) rfl) rfl rfl (rmk_le (by omega) (by decide)) rfl hl.1 rfl (Nat.le_of_ble_eq_true rfl) dX10_round_56 ⟨Nat.zero_le _, Nat.zero_le _⟩ ?_
    refine lv_icmp_ge (tgt := 106) hx hb dX10_round_59 (by decide) (fun c3 => ?_) (fun c3 => ?_)
    · have hf := it_t hf c3
      refine lv_iload hx hb dX10_round_106 (lv_at hl 4 rfl) ?_
      refine lv_bipush (v := (-2 : Int32)) hx hb dX10_round_108 (by decide) ?_
      refine lv_icmp_eq (tgt := 118) hx hb dX10_round_110 (by decide) (fun c4 => ?_) (fun c4 => ?_)
      · have hf := it_t hf c4
        refine lv_iload hx hb dX10_round_118 (lv_at hl 5 rfl) ?_
        exact rtWi X hlk G hr (so_i hf) dX10_round_120
      · have hf := it_f hf c4
        refine lv_iload_n hx hb dX10_round_113 rfl (lv_at hl 3 rfl) ?_
        refine lv_iconst (v := (-1 : Int32)) hx hb dX10_round_114 (by decide) ?_
        refine lv_icmp_ne (tgt := 121) hx hb dX10_round_115 (by decide) (fun c5 => ?_) (fun c5 => ?_)
        · have hf := it_f hf c5
          refine lv_iload hx hb dX10_round_121 (lv_at hl 4 rfl) ?_
          refine lv_istore (lv' := [(6, .int y4), (0, .ref (eq E 500)), (1, .int p1), (2, .int p2), (3, .int p3), (4, .int y4), (5, .int y5)]) hx hb dX10_round_123 hl (by decide) rfl (fun ls hl => ?_)
          refine lv_iload_n hx hb dX10_round_125 rfl (lv_at hl 3 rfl) ?_
          refine lv_iconst (v := (1 : Int32)) hx hb dX10_round_126 (by decide) ?_
          refine lv_isub hx hb dX10_round_127 ?_
          refine lv_topi (fun x6 ex6 => ?_)
          have hf := nm_s hf x6 ex6
          refine lv_istore (lv' := [(7, .int x6), (6, .int y4), (0, .ref (eq E 500)), (1, .int p1), (2, .int p2), (3, .int p3), (4, .int y4), (5, .int y5)]) hx hb dX10_round_128 hl (by decide) rfl (fun ls hl => ?_)
          exact wX10_round_L130 hL X hr hlk 10000 y4 x6 st _ _ hf G _ (lv_sub hl [2, 4, 5, 1, 0] rfl)
        · have hf := it_t hf c5
          refine lv_iload hx hb dX10_round_118 (lv_at hl 5 rfl) ?_
          exact rtWi X hlk G hr (so_i hf) dX10_round_120
    · have hf := it_f hf c3
      refine lv_aload_n hx hb dX10_round_62 rfl (lv_at hl 0 rfl) ?_
      refine lv_iload_n hx hb dX10_round_63 rfl (lv_at hl 1 rfl) ?_
      refine lv_iload_n hx hb dX10_round_64 rfl (lv_at hl 2 rfl) ?_
      refine lv_iload hx hb dX10_round_65 (lv_at hl 6 rfl) ?_
      obtain ⟨x6, s5, h4, hf⟩ := bw_s hf
      refine cVWi (As := [.int p1, .int p2, .int y6]) (rest := []) X G kc_X10_467 (tX10_takenBy l E st _ hL  p1 p2 y6 h4) (rcv X G (hL 500 rfl) (cO10 rfl) rfl) rfl rfl (rmk_le (by omega) (by decide)) rfl hl.1 rfl (Nat.le_of_ble_eq_true rfl) dX10_round_67 ⟨Nat.zero_le _, Nat.zero_le _⟩ (fun H locs G => ?_)
      refine lv_istore (lv' := [(7, .int x6), (0, .ref (eq E 500)), (1, .int p1), (2, .int p2), (3, .int p3), (4, .int y4), (5, .int y5), (6, .int y6)]) hx hb dX10_round_70 hl (by decide) rfl (fun ls hl => ?_)
      refine lv_iload hx hb dX10_round_72 (lv_at hl 0 rfl) ?_
      refine lv_iload hx hb dX10_round_74 (lv_at hl 6 rfl) ?_
      refine lv_icmp_le (tgt := 100) hx hb dX10_round_76 (by decide) (fun c7 => ?_) (fun c7 => ?_)
      · have hf := it_t hf c7
        obtain ⟨x8, ex8⟩ : ∃ y : Int32, y = (y6 + (1 : Int32)) := ⟨_, rfl⟩
        have hf := nm_s hf x8 ex8
        refine lv_iinc (k := 7) (v := x8) (lv' := [(6, .int x8), (7, .int x6), (0, .ref (eq E 500)), (1, .int p1), (2, .int p2), (3, .int p3), (4, .int y4), (5, .int y5)]) hx hb dX10_round_100 hl rfl (by rw [ex8]; rfl) (by decide) rfl (fun ls hl => ?_)
        refine lv_goto (tgt := 52) hx hb dX10_round_103 (by decide) ?_
        exact ih y4 y5 x8 s5 _ _ hf G _ (lv_sub hl [2, 3, 4, 5, 6, 7, 0] rfl)
      · have hf := it_f hf c7
        refine lv_iload hx hb dX10_round_79 (lv_at hl 0 rfl) ?_
        refine lv_iconst (v := (-1 : Int32)) hx hb dX10_round_81 (by decide) ?_
        refine lv_icmp_eq (tgt := 100) hx hb dX10_round_82 (by decide) (fun c8 => ?_) (fun c8 => ?_)
        · have hf := it_t hf c8
          obtain ⟨x9, ex9⟩ : ∃ y : Int32, y = (y6 + (1 : Int32)) := ⟨_, rfl⟩
          have hf := nm_s hf x9 ex9
          refine lv_iinc (k := 7) (v := x9) (lv' := [(6, .int x9), (7, .int x6), (0, .ref (eq E 500)), (1, .int p1), (2, .int p2), (3, .int p3), (4, .int y4), (5, .int y5)]) hx hb dX10_round_100 hl rfl (by rw [ex9]; rfl) (by decide) rfl (fun ls hl => ?_)
          refine lv_goto (tgt := 52) hx hb dX10_round_103 (by decide) ?_
          exact ih y4 y5 x9 s5 _ _ hf G _ (lv_sub hl [2, 3, 4, 5, 6, 7, 0] rfl)
        · have hf := it_f hf c8
          refine lv_aload_n hx hb dX10_round_85 rfl (lv_at hl 1 rfl) ?_
          refine gf10 X G (hL 500 rfl) rfl 55 (by decide) rfl kf_X10_457 iwX10 dX10_round_86 ?_
          refine lv_if_ne (tgt := 100) hx hb dX10_round_89 (by decide) (fun c9 => ?_) (fun c9 => ?_)
          · have hf := it_f hf c9
            obtain ⟨x10, ex10⟩ : ∃ y : Int32, y = (y6 + (1 : Int32)) := ⟨_, rfl⟩
            have hf := nm_s hf x10 ex10
            refine lv_iinc (k := 7) (v := x10) (lv' := [(6, .int x10), (7, .int x6), (0, .ref (eq E 500)), (1, .int p1), (2, .int p2), (3, .int p3), (4, .int y4), (5, .int y5)]) hx hb dX10_round_100 hl rfl (by rw [ex10]; rfl) (by decide) rfl (fun ls hl => ?_)
            refine lv_goto (tgt := 52) hx hb dX10_round_103 (by decide) ?_
            exact ih y4 y5 x10 s5 _ _ hf G _ (lv_sub hl [2, 3, 4, 5, 6, 7, 0] rfl)
          · have hf := it_t hf c9
            refine lv_iload hx hb dX10_round_92 (lv_at hl 7 rfl) ?_
            refine lv_istore (lv' := [(4, .int y6), (7, .int x6), (0, .ref (eq E 500)), (1, .int p1), (2, .int p2), (3, .int p3), (5, .int y5), (6, .int y6)]) hx hb dX10_round_94 hl (by decide) rfl (fun ls hl => ?_)
            refine lv_iload hx hb dX10_round_96 (lv_at hl 1 rfl) ?_
            refine lv_istore (lv' := [(5, .int x6), (4, .int y6), (7, .int x6), (0, .ref (eq E 500)), (1, .int p1), (2, .int p2), (3, .int p3), (6, .int y6)]) hx hb dX10_round_98 hl (by decide) rfl (fun ls hl => ?_)
            obtain ⟨x10, ex10⟩ : ∃ y : Int32, y = (y6 + (1 : Int32)) := ⟨_, rfl⟩
            have hf := nm_s hf x10 ex10
            refine lv_iinc (k := 7) (v := x10) (lv' := [(6, .int x10), (5, .int x6), (4, .int y6), (7, .int x6), (0, .ref (eq E 500)), (1, .int p1), (2, .int p2), (3, .int p3)]) hx hb dX10_round_100 hl rfl (by rw [ex10]; rfl) (by decide) rfl (fun ls hl => ?_)
            refine lv_goto (tgt := 52) hx hb dX10_round_103 (by decide) ?_
            exact ih y6 x6 x10 s5 _ _ hf G _ (lv_sub hl [4, 5, 6, 7, 2, 1, 0] rfl)
def fX10_round (p1 : Int32) (p2 : Int32) (p3 : Int32) (st : St) : Option (Int32 × St) := br (fX10_isOfficer st p1) (fun x2 => if x2 = 0 then (some ((-3 : Int32), st)) else (br (fX10_in (Int32.toInt64 p2) (1 : Int64) (4 : Int64)) (fun x5 => if x5 = 0 then (some ((-3 : Int32), st)) else (br (fX10_in (Int32.toInt64 p3) (-1 : Int64) (3 : Int64)) (fun x8 => if x8 = 0 then (some ((-3 : Int32), st)) else (br (fX10_keepsAll st) (fun s11 => fX10_round_L52 p1 p2 p3 10000 (-2 : Int32) (-2 : Int32) (0 : Int32) s11)))))))
set_option maxRecDepth 100000 in
theorem tX10_round (l : Launch) (E : Ev) (st : St) (sz : Nat) (hL : ∀ k, fxM k = true → k ∈ eL E) (p1 : Int32) (p2 : Int32) (p3 : Int32) {res : (Int32 × St)} (hf : fX10_round  p1 p2 p3 st = some res) : Met l yX10_round (.code yX10_round cX10_round 8 (some .int) :: uW) (rmk 4) (va_Pc [.ref (eq E 500), .int p1, .int p2, .int p3] (Pre E st sz)) (QWi E res.2 sz res.1) 0 0 (Af E sz) := by
  refine Met_in (by decide) (Nat.le_of_ble_eq_true rfl) ?_
  intro p e s m below meth c X hr hlk hz G ls hl
  have hx := X.1.1
  have hb := X.1.2.1
  have hl : lv_has ls 8 [(0, .ref (eq E 500)), (1, .int p1), (2, .int p2), (3, .int p3)] := hl
  unfold fX10_round at hf
  refine lv_aload_n hx hb dX10_round_0 rfl (lv_at hl 0 rfl) ?_
  refine lv_iload_n hx hb dX10_round_1 rfl (lv_at hl 1 rfl) ?_
  obtain ⟨x2, h1, hf⟩ := br_s hf
  refine cVRi (As := [.int p1]) (rest := []) X G kc_X10_374 (tX10_isOfficer l E st _ hL  p1 h1) (rcv X G (hL 500 rfl) (cO10 rfl) rfl) rfl rfl (rmk_le (by omega) (by decide)) rfl hl.1 rfl (Nat.le_of_ble_eq_true rfl) dX10_round_2 ⟨Nat.zero_le _, Nat.zero_le _⟩ ?_
  refine lv_if_eq (tgt := 34) hx hb dX10_round_5 (by decide) (fun c3 => ?_) (fun c3 => ?_)
  · have hf := it_t hf c3
    refine lv_bipush (v := (-3 : Int32)) hx hb dX10_round_34 (by decide) ?_
    exact rtWi X hlk G hr (so_i hf) dX10_round_36
  · have hf := it_f hf c3
    refine lv_iload_n hx hb dX10_round_8 rfl (lv_at hl 2 rfl) ?_
    refine lv_i2l hx hb dX10_round_9 rfl ?_
    refine lv_lconst (v := (1 : Int64)) hx hb dX10_round_10 (by decide) ?_
    refine lv_ldc2 (v := (4 : Int64)) hx hb X.1.2.2.2.1 (X.1.2.2.2.2 _ kk_X10_460) dX10_round_11 ?_
    obtain ⟨x5, h4, hf⟩ := br_s hf
    refine cSRi (As := [.long (Int32.toInt64 p2), .long (1 : Int64), .long (4 : Int64)]) (rest := []) X G kc_X10_152 (tX10_in l E st _  (Int32.toInt64 p2) (1 : Int64) (4 : Int64) h4) rfl rfl (rmk_le (by omega) (by decide)) rfl hl.1 rfl (Nat.le_of_ble_eq_true rfl) dX10_round_14 ⟨Nat.zero_le _, Nat.zero_le _⟩ ?_
    refine lv_if_eq (tgt := 34) hx hb dX10_round_17 (by decide) (fun c6 => ?_) (fun c6 => ?_)
    · have hf := it_t hf c6
      refine lv_bipush (v := (-3 : Int32)) hx hb dX10_round_34 (by decide) ?_
      exact rtWi X hlk G hr (so_i hf) dX10_round_36
    · have hf := it_f hf c6
      refine lv_iload_n hx hb dX10_round_20 rfl (lv_at hl 3 rfl) ?_
      refine lv_i2l hx hb dX10_round_21 rfl ?_
      refine lv_ldc2 (v := (-1 : Int64)) hx hb X.1.2.2.2.1 (X.1.2.2.2.2 _ kk_X10_353) dX10_round_22 ?_
      refine lv_ldc2 (v := (3 : Int64)) hx hb X.1.2.2.2.1 (X.1.2.2.2.2 _ kk_X10_462) dX10_round_25 ?_
      obtain ⟨x8, h7, hf⟩ := br_s hf
      refine cSRi (As := [.long (Int32.toInt64 p3), .long (-1 : Int64), .long (3 : Int64)]) (rest := []) X G kc_X10_152 (tX10_in l E st _  (Int32.toInt64 p3) (-1 : Int64) (3 : Int64) h7) rfl rfl (rmk_le (by omega) (by decide)) rfl hl.1 rfl (Nat.le_of_ble_eq_true rfl) dX10_round_28 ⟨Nat.zero_le _, Nat.zero_le _⟩ ?_
      refine lv_if_ne (tgt := 37) hx hb dX10_round_31 (by decide) (fun c9 => ?_) (fun c9 => ?_)
      · have hf := it_f hf c9
        refine lv_bipush (v := (-2 : Int32)) hx hb dX10_round_37 (by decide) ?_
        refine lv_istore (lv' := [(4, .int (-2 : Int32)), (0, .ref (eq E 500)), (1, .int p1), (2, .int p2), (3, .int p3)]) hx hb dX10_round_39 hl (by decide) rfl (fun ls hl => ?_)
        refine lv_bipush (v := (-2 : Int32)) hx hb dX10_round_41 (by decide) ?_
        refine lv_istore (lv' := [(5, .int (-2 : Int32)), (4, .int (-2 : Int32)), (0, .ref (eq E 500)), (1, .int p1), (2, .int p2), (3, .int p3)]) hx hb dX10_round_43 hl (by decide) rfl (fun ls hl => ?_)
        refine lv_aload_n hx hb dX10_round_45 rfl (lv_at hl 2 rfl) ?_
        obtain ⟨s11, h10, hf⟩ := br_s hf
        refine cVWv (As := []) (rest := []) X G kc_X10_448 (tX10_keepsAll l E st _ hL   h10) (rcv X G (hL 500 rfl) (cO10 rfl) rfl) rfl rfl (rmk_le (by omega) (by decide)) rfl hl.1 rfl (Nat.le_of_ble_eq_true rfl) dX10_round_46 ⟨Nat.zero_le _, Nat.zero_le _⟩ (fun H locs G => ?_)
        refine lv_iconst (v := (0 : Int32)) hx hb dX10_round_49 (by decide) ?_
        refine lv_istore (lv' := [(6, .int (0 : Int32)), (5, .int (-2 : Int32)), (4, .int (-2 : Int32)), (0, .ref (eq E 500)), (1, .int p1), (2, .int p2), (3, .int p3)]) hx hb dX10_round_50 hl (by decide) rfl (fun ls hl => ?_)
        exact wX10_round_L52 hL X hr hlk 10000 (-2 : Int32) (-2 : Int32) (0 : Int32) s11 _ _ hf G _ (lv_sub hl [3, 4, 5, 6, 2, 1, 0] rfl)
      · have hf := it_t hf c9
        refine lv_bipush (v := (-3 : Int32)) hx hb dX10_round_34 (by decide) ?_
        exact rtWi X hlk G hr (so_i hf) dX10_round_36
def fX10_span_B94 (p1 : Int32) (p2 : Int32) (p3 : Int32) (k47 : Int32 → Int32 → Int32 → St → Option (Int32 × St)) (y5 : Int32) (y6 : Int32) (y7 : Int32) (z0 : Int32) (st : St) : Option (Int32 × St) := if y7 ≤ y5 then (nm (y6 + (1 : Int32)) (fun x2 => k47 z0 y5 x2 st)) else (nm (y6 + (1 : Int32)) (fun x2 => k47 z0 y7 x2 st))
set_option maxRecDepth 100000 in
theorem wX10_span_B94 {p : Program} {l : Launch} {e : Env} {s : State} {m : MethodId} {args : Array Value} {below : List Frame} {meth : Method} {c : Code} {E : Ev} (hL : ∀ k, fxM k = true → k ∈ eL E) {p1 : Int32} {p2 : Int32} {p3 : Int32} {sz : Nat} {res : (Int32 × St)} (X : CX p s m args c E RX10 cX10_span 8 (Af E sz)) (hr : meth.sig.returnType = (some .int)) (hlk : meth.locks = false) {k47 : Int32 → Int32 → Int32 → St → Option (Int32 × St)} (hk47 : ∀ (y4 : Int32) (y5 : Int32) (y6 : Int32) (st : St) (H : Heap) (locs : List Loc), k47 y4 y5 y6 st = some res → Gd E st (Af E sz) s H locs → ∀ ls : Array Slot, lv_has ls 8 [(0, .ref (eq E 500)), (1, .int p1), (2, .int p2), (3, .int p3), (4, .int y4), (5, .int y5), (6, .int y6)] → W p l e (rmk 4) s m args below meth c H locs 0 0 (MQ below (QWi E res.2 sz res.1) args s 0 0 (Af E sz)) (F0 m 47 ls [])) : ∀ (y5 : Int32) (y6 : Int32) (y7 : Int32) (z0 : Int32) (st : St) (H : Heap) (locs : List Loc), fX10_span_B94 p1 p2 p3 k47 y5 y6 y7 z0 st = some res → Gd E st (Af E sz) s H locs → ∀ ls : Array Slot, lv_has ls 8 [(0, .ref (eq E 500)), (1, .int p1), (2, .int p2), (3, .int p3), (5, .int y5), (6, .int y6), (7, .int y7)] → W p l e (rmk 4) s m args below meth c H locs 0 0 (MQ below (QWi E res.2 sz res.1) args s 0 0 (Af E sz)) (F0 m 94 ls [.int z0]) := by
  have hx := X.1.1
  have hb := X.1.2.1
  intro y5 y6 y7 z0 st H locs hf G ls hl
  unfold fX10_span_B94 at hf
  refine lv_istore (lv' := [(4, .int z0), (0, .ref (eq E 500)), (1, .int p1), (2, .int p2), (3, .int p3), (5, .int y5), (6, .int y6), (7, .int y7)]) hx hb dX10_span_94 hl (by decide) rfl (fun ls hl => ?_)
  refine lv_iload hx hb dX10_span_96 (lv_at hl 7 rfl) ?_
  refine lv_iload hx hb dX10_span_98 (lv_at hl 5 rfl) ?_
  refine lv_icmp_le (tgt := 108) hx hb dX10_span_100 (by decide) (fun c1 => ?_) (fun c1 => ?_)
  · have hf := it_t hf c1
    refine lv_iload hx hb dX10_span_108 (lv_at hl 5 rfl) ?_
    refine lv_istore (lv' := [(5, .int y5), (4, .int z0), (0, .ref (eq E 500)), (1, .int p1), (2, .int p2), (3, .int p3), (6, .int y6), (7, .int y7)]) hx hb dX10_span_110 hl (by decide) rfl (fun ls hl => ?_)
    obtain ⟨x2, ex2⟩ : ∃ y : Int32, y = (y6 + (1 : Int32)) := ⟨_, rfl⟩
    have hf := nm_s hf x2 ex2
    refine lv_iinc (k := 6) (v := x2) (lv' := [(6, .int x2), (5, .int y5), (4, .int z0), (0, .ref (eq E 500)), (1, .int p1), (2, .int p2), (3, .int p3), (7, .int y7)]) hx hb dX10_span_112 hl rfl (by rw [ex2]; rfl) (by decide) rfl (fun ls hl => ?_)
    refine lv_goto (tgt := 47) hx hb dX10_span_115 (by decide) ?_
    exact hk47 z0 y5 x2 st _ _ hf G _ (lv_sub hl [3, 4, 5, 6, 2, 1, 0] rfl)
  · have hf := it_f hf c1
    refine lv_iload hx hb dX10_span_103 (lv_at hl 7 rfl) ?_
    refine lv_goto (tgt := 110) hx hb dX10_span_105 (by decide) ?_
    refine lv_istore (lv' := [(5, .int y7), (4, .int z0), (0, .ref (eq E 500)), (1, .int p1), (2, .int p2), (3, .int p3), (6, .int y6), (7, .int y7)]) hx hb dX10_span_110 hl (by decide) rfl (fun ls hl => ?_)
    obtain ⟨x2, ex2⟩ : ∃ y : Int32, y = (y6 + (1 : Int32)) := ⟨_, rfl⟩
    have hf := nm_s hf x2 ex2
    refine lv_iinc (k := 6) (v := x2) (lv' := [(6, .int x2), (5, .int y7), (4, .int z0), (0, .ref (eq E 500)), (1, .int p1), (2, .int p2), (3, .int p3), (7, .int y7)]) hx hb dX10_span_112 hl rfl (by rw [ex2]; rfl) (by decide) rfl (fun ls hl => ?_)
    refine lv_goto (tgt := 47) hx hb dX10_span_115 (by decide) ?_
    exact hk47 z0 y7 x2 st _ _ hf G _ (lv_sub hl [3, 4, 5, 6, 2, 1, 0] rfl)
def fX10_span_B87 (p1 : Int32) (p2 : Int32) (p3 : Int32) (k47 : Int32 → Int32 → Int32 → St → Option (Int32 × St)) (y5 : Int32) (y6 : Int32) (y7 : Int32) (st : St) : Option (Int32 × St) := fX10_span_B94 p1 p2 p3 k47 y5 y6 y7 y7 st
set_option maxRecDepth 100000 in
theorem wX10_span_B87 {p : Program} {l : Launch} {e : Env} {s : State} {m : MethodId} {args : Array Value} {below : List Frame} {meth : Method} {c : Code} {E : Ev} (hL : ∀ k, fxM k = true → k ∈ eL E) {p1 : Int32} {p2 : Int32} {p3 : Int32} {sz : Nat} {res : (Int32 × St)} (X : CX p s m args c E RX10 cX10_span 8 (Af E sz)) (hr : meth.sig.returnType = (some .int)) (hlk : meth.locks = false) {k47 : Int32 → Int32 → Int32 → St → Option (Int32 × St)} (hk47 : ∀ (y4 : Int32) (y5 : Int32) (y6 : Int32) (st : St) (H : Heap) (locs : List Loc), k47 y4 y5 y6 st = some res → Gd E st (Af E sz) s H locs → ∀ ls : Array Slot, lv_has ls 8 [(0, .ref (eq E 500)), (1, .int p1), (2, .int p2), (3, .int p3), (4, .int y4), (5, .int y5), (6, .int y6)] → W p l e (rmk 4) s m args below meth c H locs 0 0 (MQ below (QWi E res.2 sz res.1) args s 0 0 (Af E sz)) (F0 m 47 ls [])) : ∀ (y5 : Int32) (y6 : Int32) (y7 : Int32) (st : St) (H : Heap) (locs : List Loc), fX10_span_B87 p1 p2 p3 k47 y5 y6 y7 st = some res → Gd E st (Af E sz) s H locs → ∀ ls : Array Slot, lv_has ls 8 [(0, .ref (eq E 500)), (1, .int p1), (2, .int p2), (3, .int p3), (5, .int y5), (6, .int y6), (7, .int y7)] → W p l e (rmk 4) s m args below meth c H locs 0 0 (MQ below (QWi E res.2 sz res.1) args s 0 0 (Af E sz)) (F0 m 87 ls []) := by
  have hx := X.1.1
  have hb := X.1.2.1
  intro y5 y6 y7 st H locs hf G ls hl
  unfold fX10_span_B87 at hf
  refine lv_iload hx hb dX10_span_87 (lv_at hl 6 rfl) ?_
  refine lv_goto (tgt := 94) hx hb dX10_span_89 (by decide) ?_
  exact wX10_span_B94 hL X hr hlk hk47 y5 y6 y7 y7 st _ _ hf G _ (lv_sub hl [0, 1, 2, 3, 4, 5, 6] rfl)
def fX10_span_L47 (p1 : Int32) (p2 : Int32) (p3 : Int32) : Nat → Int32 → Int32 → Int32 → St → Option (Int32 × St)
  | 0, _, _, _, _ => none
  | n + 1, y4, y5, y6, st => br (fX10_rowsOf st p2) (fun x2 => if x2 ≤ y6 then (if p3 = 0 then (some (y4, st)) else (some (y5, st))) else (bw (fX10_takenBy p1 p2 y6 st) (fun x6 s5 => if x6 = (-1 : Int32) then (nm (y6 + (1 : Int32)) (fun x8 => (fX10_span_L47 p1 p2 p3 n) y4 y5 x8 s5)) else (if y4 = (-2 : Int32) then (fX10_span_B87 p1 p2 p3 (fX10_span_L47 p1 p2 p3 n) y5 y6 x6 s5) else (if y4 ≤ x6 then (fX10_span_B94 p1 p2 p3 (fX10_span_L47 p1 p2 p3 n) y5 y6 x6 y4 s5) else (fX10_span_B87 p1 p2 p3 (fX10_span_L47 p1 p2 p3 n) y5 y6 x6 s5))))))
set_option maxRecDepth 100000 in
theorem wX10_span_L47 {p : Program} {l : Launch} {e : Env} {s : State} {m : MethodId} {args : Array Value} {below : List Frame} {meth : Method} {c : Code} {E : Ev} (hL : ∀ k, fxM k = true → k ∈ eL E) {p1 : Int32} {p2 : Int32} {p3 : Int32} {sz : Nat} {res : (Int32 × St)} (X : CX p s m args c E RX10 cX10_span 8 (Af E sz)) (hr : meth.sig.returnType = (some .int)) (hlk : meth.locks = false) : ∀ (n : Nat) (y4 : Int32) (y5 : Int32) (y6 : Int32) (st : St) (H : Heap) (locs : List Loc), fX10_span_L47 p1 p2 p3  n y4 y5 y6 st = some res → Gd E st (Af E sz) s H locs → ∀ ls : Array Slot, lv_has ls 8 [(0, .ref (eq E 500)), (1, .int p1), (2, .int p2), (3, .int p3), (4, .int y4), (5, .int y5), (6, .int y6)] → W p l e (rmk 4) s m args below meth c H locs 0 0 (MQ below (QWi E res.2 sz res.1) args s 0 0 (Af E sz)) (F0 m 47 ls []) := by
  have hx := X.1.1
  have hb := X.1.2.1
  intro n
  induction n with
  | zero =>
    intro y4 y5 y6 st H locs hf G ls hl
    cases (show (none : Option (Int32 × St)) = some res from hf)
  | succ n ih =>
    intro y4 y5 y6 st H locs hf G ls hl
    rw [fX10_span_L47] at hf
    refine lv_iload hx hb dX10_span_47 (lv_at hl 6 rfl) ?_
    refine lv_aload_n hx hb dX10_span_49 rfl (lv_at hl 0 rfl) ?_
    refine lv_iload_n hx hb dX10_span_50 rfl (lv_at hl 2 rfl) ?_
    obtain ⟨x2, h1, hf⟩ := br_s hf
    refine cVRi (As := [.int p2]) (rest := [.int y6]) X G kc_X10_464 (tX10_rowsOf l E st _ hL  p2 h1) (rcv X G (hL 500 rfl) (cO10 rfl) rfl) rfl rfl (rmk_le (by omega) (by decide)) rfl hl.1 rfl (Nat.le_of_ble_eq_true rfl) dX10_span_51 ⟨Nat.zero_le _, Nat.zero_le _⟩ ?_
    refine lv_icmp_ge (tgt := 118) hx hb dX10_span_54 (by decide) (fun c3 => ?_) (fun c3 => ?_)
    · have hf := it_t hf c3
      refine lv_iload_n hx hb dX10_span_118 rfl (lv_at hl 3 rfl) ?_
      refine lv_if_ne (tgt := 127) hx hb dX10_span_119 (by decide) (fun c4 => ?_) (fun c4 => ?_)
      · have hf := it_f hf c4
        refine lv_iload hx hb dX10_span_127 (lv_at hl 5 rfl) ?_
        exact rtWi X hlk G hr (so_i hf) dX10_span_129
      · have hf := it_t hf c4
        refine lv_iload hx hb dX10_span_122 (lv_at hl 4 rfl) ?_
        refine lv_goto (tgt := 129) hx hb dX10_span_124 (by decide) ?_
        exact rtWi X hlk G hr (so_i hf) dX10_span_129
    · have hf := it_f hf c3
      refine lv_aload_n hx hb dX10_span_57 rfl (lv_at hl 0 rfl) ?_
      refine lv_iload_n hx hb dX10_span_58 rfl (lv_at hl 1 rfl) ?_
      refine lv_iload_n hx hb dX10_span_59 rfl (lv_at hl 2 rfl) ?_
      refine lv_iload hx hb dX10_span_60 (lv_at hl 6 rfl) ?_
      obtain ⟨x6, s5, h4, hf⟩ := bw_s hf
      refine cVWi (As := [.int p1, .int p2, .int y6]) (rest := []) X G kc_X10_467 (tX10_takenBy l E st _ hL  p1 p2 y6 h4) (rcv X G (hL 500 rfl) (cO10 rfl) rfl) rfl rfl (rmk_le (by omega) (by decide)) rfl hl.1 rfl (Nat.le_of_ble_eq_true rfl) dX10_span_62 ⟨Nat.zero_le _, Nat.zero_le _⟩ (fun H locs G => ?_)
      refine lv_istore (lv' := [(7, .int x6), (0, .ref (eq E 500)), (1, .int p1), (2, .int p2), (3, .int p3), (4, .int y4), (5, .int y5), (6, .int y6)]) hx hb dX10_span_65 hl (by decide) rfl (fun ls hl => ?_)
      refine lv_iload hx hb dX10_span_67 (lv_at hl 0 rfl) ?_
      refine lv_iconst (v := (-1 : Int32)) hx hb dX10_span_69 (by decide) ?_
      refine lv_icmp_eq (tgt := 112) hx hb dX10_span_70 (by decide) (fun c7 => ?_) (fun c7 => ?_)
      · have hf := it_t hf c7
        obtain ⟨x8, ex8⟩ : ∃ y : Int32, y = (y6 + (1 : Int32)) := ⟨_, rfl⟩
        have hf := nm_s hf x8 ex8
        refine lv_iinc (k := 7) (v := x8) (lv' := [(6, .int x8), (7, .int x6), (0, .ref (eq E 500)), (1, .int p1), (2, .int p2), (3, .int p3), (4, .int y4), (5, .int y5)]) hx hb dX10_span_112 hl rfl (by rw [ex8]; rfl) (by decide) rfl (fun ls hl => ?_)
        refine lv_goto (tgt := 47) hx hb dX10_span_115 (by decide) ?_
        exact ih y4 y5 x8 s5 _ _ hf G _ (lv_sub hl [2, 3, 4, 5, 6, 7, 0] rfl)
      · have hf := it_f hf c7
        refine lv_iload hx hb dX10_span_73 (lv_at hl 5 rfl) ?_
        refine lv_bipush (v := (-2 : Int32)) hx hb dX10_span_75 (by decide) ?_
        refine lv_icmp_eq (tgt := 87) hx hb dX10_span_77 (by decide) (fun c8 => ?_) (fun c8 => ?_)
        · have hf := it_t hf c8
          exact wX10_span_B87 hL X hr hlk ih y5 y6 x6 s5 _ _ hf G _ (lv_sub hl [1, 2, 3, 4, 6, 7, 0] rfl)
        · have hf := it_f hf c8
          refine lv_iload hx hb dX10_span_80 (lv_at hl 0 rfl) ?_
          refine lv_iload hx hb dX10_span_82 (lv_at hl 5 rfl) ?_
          refine lv_icmp_ge (tgt := 92) hx hb dX10_span_84 (by decide) (fun c9 => ?_) (fun c9 => ?_)
          · have hf := it_t hf c9
            refine lv_iload hx hb dX10_span_92 (lv_at hl 5 rfl) ?_
            exact wX10_span_B94 hL X hr hlk ih y5 y6 x6 y4 s5 _ _ hf G _ (lv_sub hl [1, 2, 3, 4, 6, 7, 0] rfl)
          · have hf := it_f hf c9
            exact wX10_span_B87 hL X hr hlk ih y5 y6 x6 s5 _ _ hf G _ (lv_sub hl [1, 2, 3, 4, 6, 7, 0] rfl)
def fX10_span (p1 : Int32) (p2 : Int32) (p3 : Int32) (st : St) : Option (Int32 × St) := br (fX10_isOfficer st p1) (fun x2 => if x2 = 0 then (some ((-1 : Int32), st)) else (br (fX10_in (Int32.toInt64 p2) (1 : Int64) (4 : Int64)) (fun x5 => if x5 = 0 then (some ((-1 : Int32), st)) else (br (fX10_in (Int32.toInt64 p3) (0 : Int64) (1 : Int64)) (fun x8 => if x8 = 0 then (some ((-1 : Int32), st)) else (br (fX10_keepsAll st) (fun s11 => fX10_span_L47 p1 p2 p3 10000 (-2 : Int32) (-2 : Int32) (0 : Int32) s11)))))))
set_option maxRecDepth 100000 in
theorem tX10_span (l : Launch) (E : Ev) (st : St) (sz : Nat) (hL : ∀ k, fxM k = true → k ∈ eL E) (p1 : Int32) (p2 : Int32) (p3 : Int32) {res : (Int32 × St)} (hf : fX10_span  p1 p2 p3 st = some res) : Met l yX10_span (.code yX10_span cX10_span 8 (some .int) :: uW) (rmk 4) (va_Pc [.ref (eq E 500), .int p1, .int p2, .int p3] (Pre E st sz)) (QWi E res.2 sz res.1) 0 0 (Af E sz) := by
  refine Met_in (by decide) (Nat.le_of_ble_eq_true rfl) ?_
  intro p e s m below meth c X hr hlk hz G ls hl
  have hx := X.1.1
  have hb := X.1.2.1
  have hl : lv_has ls 8 [(0, .ref (eq E 500)), (1, .int p1), (2, .int p2), (3, .int p3)] := hl
  unfold fX10_span at hf
  refine lv_aload_n hx hb dX10_span_0 rfl (lv_at hl 0 rfl) ?_
  refine lv_iload_n hx hb dX10_span_1 rfl (lv_at hl 1 rfl) ?_
  obtain ⟨x2, h1, hf⟩ := br_s hf
  refine cVRi (As := [.int p1]) (rest := []) X G kc_X10_374 (tX10_isOfficer l E st _ hL  p1 h1) (rcv X G (hL 500 rfl) (cO10 rfl) rfl) rfl rfl (rmk_le (by omega) (by decide)) rfl hl.1 rfl (Nat.le_of_ble_eq_true rfl) dX10_span_2 ⟨Nat.zero_le _, Nat.zero_le _⟩ ?_
  refine lv_if_eq (tgt := 30) hx hb dX10_span_5 (by decide) (fun c3 => ?_) (fun c3 => ?_)
  · have hf := it_t hf c3
    refine lv_iconst (v := (-1 : Int32)) hx hb dX10_span_30 (by decide) ?_
    exact rtWi X hlk G hr (so_i hf) dX10_span_31
  · have hf := it_f hf c3
    refine lv_iload_n hx hb dX10_span_8 rfl (lv_at hl 2 rfl) ?_
    refine lv_i2l hx hb dX10_span_9 rfl ?_
    refine lv_lconst (v := (1 : Int64)) hx hb dX10_span_10 (by decide) ?_
    refine lv_ldc2 (v := (4 : Int64)) hx hb X.1.2.2.2.1 (X.1.2.2.2.2 _ kk_X10_460) dX10_span_11 ?_
    obtain ⟨x5, h4, hf⟩ := br_s hf
    refine cSRi (As := [.long (Int32.toInt64 p2), .long (1 : Int64), .long (4 : Int64)]) (rest := []) X G kc_X10_152 (tX10_in l E st _  (Int32.toInt64 p2) (1 : Int64) (4 : Int64) h4) rfl rfl (rmk_le (by omega) (by decide)) rfl hl.1 rfl (Nat.le_of_ble_eq_true rfl) dX10_span_14 ⟨Nat.zero_le _, Nat.zero_le _⟩ ?_
    refine lv_if_eq (tgt := 30) hx hb dX10_span_17 (by decide) (fun c6 => ?_) (fun c6 => ?_)
    · have hf := it_t hf c6
      refine lv_iconst (v := (-1 : Int32)) hx hb dX10_span_30 (by decide) ?_
      exact rtWi X hlk G hr (so_i hf) dX10_span_31
    · have hf := it_f hf c6
      refine lv_iload_n hx hb dX10_span_20 rfl (lv_at hl 3 rfl) ?_
      refine lv_i2l hx hb dX10_span_21 rfl ?_
      refine lv_lconst (v := (0 : Int64)) hx hb dX10_span_22 (by decide) ?_
      refine lv_lconst (v := (1 : Int64)) hx hb dX10_span_23 (by decide) ?_
      obtain ⟨x8, h7, hf⟩ := br_s hf
      refine cSRi (As := [.long (Int32.toInt64 p3), .long (0 : Int64), .long (1 : Int64)]) (rest := []) X G kc_X10_152 (tX10_in l E st _  (Int32.toInt64 p3) (0 : Int64) (1 : Int64) h7) rfl rfl (rmk_le (by omega) (by decide)) rfl hl.1 rfl (Nat.le_of_ble_eq_true rfl) dX10_span_24 ⟨Nat.zero_le _, Nat.zero_le _⟩ ?_
      refine lv_if_ne (tgt := 32) hx hb dX10_span_27 (by decide) (fun c9 => ?_) (fun c9 => ?_)
      · have hf := it_f hf c9
        refine lv_bipush (v := (-2 : Int32)) hx hb dX10_span_32 (by decide) ?_
        refine lv_istore (lv' := [(4, .int (-2 : Int32)), (0, .ref (eq E 500)), (1, .int p1), (2, .int p2), (3, .int p3)]) hx hb dX10_span_34 hl (by decide) rfl (fun ls hl => ?_)
        refine lv_bipush (v := (-2 : Int32)) hx hb dX10_span_36 (by decide) ?_
        refine lv_istore (lv' := [(5, .int (-2 : Int32)), (4, .int (-2 : Int32)), (0, .ref (eq E 500)), (1, .int p1), (2, .int p2), (3, .int p3)]) hx hb dX10_span_38 hl (by decide) rfl (fun ls hl => ?_)
        refine lv_aload_n hx hb dX10_span_40 rfl (lv_at hl 2 rfl) ?_
        obtain ⟨s11, h10, hf⟩ := br_s hf
        refine cVWv (As := []) (rest := []) X G kc_X10_448 (tX10_keepsAll l E st _ hL   h10) (rcv X G (hL 500 rfl) (cO10 rfl) rfl) rfl rfl (rmk_le (by omega) (by decide)) rfl hl.1 rfl (Nat.le_of_ble_eq_true rfl) dX10_span_41 ⟨Nat.zero_le _, Nat.zero_le _⟩ (fun H locs G => ?_)
        refine lv_iconst (v := (0 : Int32)) hx hb dX10_span_44 (by decide) ?_
        refine lv_istore (lv' := [(6, .int (0 : Int32)), (5, .int (-2 : Int32)), (4, .int (-2 : Int32)), (0, .ref (eq E 500)), (1, .int p1), (2, .int p2), (3, .int p3)]) hx hb dX10_span_45 hl (by decide) rfl (fun ls hl => ?_)
        exact wX10_span_L47 hL X hr hlk 10000 (-2 : Int32) (-2 : Int32) (0 : Int32) s11 _ _ hf G _ (lv_sub hl [3, 4, 5, 6, 2, 1, 0] rfl)
      · have hf := it_t hf c9
        refine lv_iconst (v := (-1 : Int32)) hx hb dX10_span_30 (by decide) ?_
        exact rtWi X hlk G hr (so_i hf) dX10_span_31
