theorem dX5_init_0 : decode cX5_init 0 = .ok (.aload_n 0, 1) := by decide +kernel
theorem dX5_init_1 : decode cX5_init 1 = .ok (.invokespecial 3, 3) := by decide +kernel
theorem dX5_init_4 : decode cX5_init 4 = .ok (.aload_n 0, 1) := by decide +kernel
theorem dX5_init_5 : decode cX5_init 5 = .ok (.new 9, 3) := by decide +kernel
theorem dX5_init_8 : decode cX5_init 8 = .ok (.dup, 1) := by decide +kernel
theorem dX5_init_9 : decode cX5_init 9 = .ok (.bipush 15, 2) := by decide +kernel
theorem dX5_init_11 : decode cX5_init 11 = .ok (.invokespecial 11, 3) := by decide +kernel
theorem dX5_init_14 : decode cX5_init 14 = .ok (.putfield 14, 3) := by decide +kernel
theorem dX5_init_17 : decode cX5_init 17 = .ok (.aload_n 0, 1) := by decide +kernel
theorem dX5_init_18 : decode cX5_init 18 = .ok (.new 9, 3) := by decide +kernel
theorem dX5_init_21 : decode cX5_init 21 = .ok (.dup, 1) := by decide +kernel
theorem dX5_init_22 : decode cX5_init 22 = .ok (.bipush 15, 2) := by decide +kernel
theorem dX5_init_24 : decode cX5_init 24 = .ok (.invokespecial 11, 3) := by decide +kernel
theorem dX5_init_27 : decode cX5_init 27 = .ok (.putfield 20, 3) := by decide +kernel
theorem dX5_init_30 : decode cX5_init 30 = .ok (.return_, 1) := by decide +kernel
theorem dX5_bridged_0 : decode cX5_bridged 0 = .ok (.aload_n 0, 1) := by decide +kernel
theorem dX5_bridged_1 : decode cX5_bridged 1 = .ok (.aload_n 1, 1) := by decide +kernel
theorem dX5_bridged_2 : decode cX5_bridged 2 = .ok (.iload_n 2, 1) := by decide +kernel
theorem dX5_bridged_3 : decode cX5_bridged 3 = .ok (.invokevirtual 23, 3) := by decide +kernel
theorem dX5_bridged_6 : decode cX5_bridged 6 = .ok (.aload_n 0, 1) := by decide +kernel
theorem dX5_bridged_7 : decode cX5_bridged 7 = .ok (.aload_n 1, 1) := by decide +kernel
theorem dX5_bridged_8 : decode cX5_bridged 8 = .ok (.iload_n 3, 1) := by decide +kernel
theorem dX5_bridged_9 : decode cX5_bridged 9 = .ok (.invokevirtual 27, 3) := by decide +kernel
theorem dX5_bridged_12 : decode cX5_bridged 12 = .ok (.return_, 1) := by decide +kernel
theorem dX5_layPath_0 : decode cX5_layPath 0 = .ok (.aload_n 0, 1) := by decide +kernel
theorem dX5_layPath_1 : decode cX5_layPath 1 = .ok (.getfield 14, 3) := by decide +kernel
theorem dX5_layPath_4 : decode cX5_layPath 4 = .ok (.iconst 0, 1) := by decide +kernel
theorem dX5_layPath_5 : decode cX5_layPath 5 = .ok (.invokevirtual 84, 3) := by decide +kernel
theorem dX5_layPath_8 : decode cX5_layPath 8 = .ok (.aload_n 0, 1) := by decide +kernel
theorem dX5_layPath_9 : decode cX5_layPath 9 = .ok (.getfield 20, 3) := by decide +kernel
theorem dX5_layPath_12 : decode cX5_layPath 12 = .ok (.iconst 0, 1) := by decide +kernel
theorem dX5_layPath_13 : decode cX5_layPath 13 = .ok (.invokevirtual 84, 3) := by decide +kernel
theorem dX5_layPath_16 : decode cX5_layPath 16 = .ok (.iload_n 2, 1) := by decide +kernel
theorem dX5_layPath_17 : decode cX5_layPath 17 = .ok (.istore_n 3, 1) := by decide +kernel
theorem dX5_layPath_18 : decode cX5_layPath 18 = .ok (.aload_n 1, 1) := by decide +kernel
theorem dX5_layPath_19 : decode cX5_layPath 19 = .ok (.iload_n 2, 1) := by decide +kernel
theorem dX5_layPath_20 : decode cX5_layPath 20 = .ok (.invokevirtual 41, 3) := by decide +kernel
theorem dX5_layPath_23 : decode cX5_layPath 23 = .ok (.getfield 87, 3) := by decide +kernel
theorem dX5_layPath_26 : decode cX5_layPath 26 = .ok (.istore 4, 2) := by decide +kernel
theorem dX5_layPath_28 : decode cX5_layPath 28 = .ok (.iload 4, 2) := by decide +kernel
theorem dX5_layPath_30 : decode cX5_layPath 30 = .ok (.ifCond .lt 57, 3) := by decide +kernel
theorem dX5_layPath_33 : decode cX5_layPath 33 = .ok (.aload_n 1, 1) := by decide +kernel
theorem dX5_layPath_34 : decode cX5_layPath 34 = .ok (.iload_n 3, 1) := by decide +kernel
theorem dX5_layPath_35 : decode cX5_layPath 35 = .ok (.invokevirtual 41, 3) := by decide +kernel
theorem dX5_layPath_38 : decode cX5_layPath 38 = .ok (.getfield 90, 3) := by decide +kernel
theorem dX5_layPath_41 : decode cX5_layPath 41 = .ok (.istore 5, 2) := by decide +kernel
theorem dX5_layPath_43 : decode cX5_layPath 43 = .ok (.aload_n 0, 1) := by decide +kernel
theorem dX5_layPath_44 : decode cX5_layPath 44 = .ok (.getfield 14, 3) := by decide +kernel
theorem dX5_layPath_47 : decode cX5_layPath 47 = .ok (.iconst 0, 1) := by decide +kernel
theorem dX5_layPath_48 : decode cX5_layPath 48 = .ok (.iload_n 3, 1) := by decide +kernel
theorem dX5_layPath_49 : decode cX5_layPath 49 = .ok (.invokevirtual 93, 3) := by decide +kernel
theorem dX5_layPath_52 : decode cX5_layPath 52 = .ok (.aload_n 0, 1) := by decide +kernel
theorem dX5_layPath_53 : decode cX5_layPath 53 = .ok (.getfield 20, 3) := by decide +kernel
theorem dX5_layPath_56 : decode cX5_layPath 56 = .ok (.iconst 0, 1) := by decide +kernel
theorem dX5_layPath_57 : decode cX5_layPath 57 = .ok (.aload_n 1, 1) := by decide +kernel
theorem dX5_layPath_58 : decode cX5_layPath 58 = .ok (.iload 5, 2) := by decide +kernel
theorem dX5_layPath_60 : decode cX5_layPath 60 = .ok (.invokevirtual 41, 3) := by decide +kernel
theorem dX5_layPath_63 : decode cX5_layPath 63 = .ok (.getfield 97, 3) := by decide +kernel
theorem dX5_layPath_66 : decode cX5_layPath 66 = .ok (.iload_n 3, 1) := by decide +kernel
theorem dX5_layPath_67 : decode cX5_layPath 67 = .ok (.if_icmp .ne 7, 3) := by decide +kernel
theorem dX5_layPath_70 : decode cX5_layPath 70 = .ok (.iconst 1, 1) := by decide +kernel
theorem dX5_layPath_71 : decode cX5_layPath 71 = .ok (.goto 4, 3) := by decide +kernel
theorem dX5_layPath_74 : decode cX5_layPath 74 = .ok (.iconst 2, 1) := by decide +kernel
theorem dX5_layPath_75 : decode cX5_layPath 75 = .ok (.invokevirtual 93, 3) := by decide +kernel
theorem dX5_layPath_78 : decode cX5_layPath 78 = .ok (.iload 5, 2) := by decide +kernel
theorem dX5_layPath_80 : decode cX5_layPath 80 = .ok (.istore_n 3, 1) := by decide +kernel
theorem dX5_layPath_81 : decode cX5_layPath 81 = .ok (.iinc 4 (-1), 3) := by decide +kernel
theorem dX5_layPath_84 : decode cX5_layPath 84 = .ok (.goto (-56), 3) := by decide +kernel
theorem dX5_layPath_87 : decode cX5_layPath 87 = .ok (.return_, 1) := by decide +kernel
theorem dX5_start_0 : decode cX5_start 0 = .ok (.aload_n 0, 1) := by decide +kernel
theorem dX5_start_1 : decode cX5_start 1 = .ok (.iconst 0, 1) := by decide +kernel
theorem dX5_start_2 : decode cX5_start 2 = .ok (.putfield 63, 3) := by decide +kernel
theorem dX5_start_5 : decode cX5_start 5 = .ok (.aload_n 0, 1) := by decide +kernel
theorem dX5_start_6 : decode cX5_start 6 = .ok (.iconst 0, 1) := by decide +kernel
theorem dX5_start_7 : decode cX5_start 7 = .ok (.putfield 55, 3) := by decide +kernel
theorem dX5_start_10 : decode cX5_start 10 = .ok (.aload_n 0, 1) := by decide +kernel
theorem dX5_start_11 : decode cX5_start 11 = .ok (.iconst (-1), 1) := by decide +kernel
theorem dX5_start_12 : decode cX5_start 12 = .ok (.putfield 100, 3) := by decide +kernel
theorem dX5_start_15 : decode cX5_start 15 = .ok (.aload_n 0, 1) := by decide +kernel
theorem dX5_start_16 : decode cX5_start 16 = .ok (.iconst (-1), 1) := by decide +kernel
theorem dX5_start_17 : decode cX5_start 17 = .ok (.putfield 103, 3) := by decide +kernel
theorem dX5_start_20 : decode cX5_start 20 = .ok (.aload_n 0, 1) := by decide +kernel
theorem dX5_start_21 : decode cX5_start 21 = .ok (.iconst (-1), 1) := by decide +kernel
theorem dX5_start_22 : decode cX5_start 22 = .ok (.putfield 106, 3) := by decide +kernel
theorem dX5_start_25 : decode cX5_start 25 = .ok (.return_, 1) := by decide +kernel
theorem dX5_searchPath_0 : decode cX5_searchPath 0 = .ok (.aload_n 0, 1) := by decide +kernel
theorem dX5_searchPath_1 : decode cX5_searchPath 1 = .ok (.invokevirtual 30, 3) := by decide +kernel
theorem dX5_searchPath_4 : decode cX5_searchPath 4 = .ok (.iconst 0, 1) := by decide +kernel
theorem dX5_searchPath_5 : decode cX5_searchPath 5 = .ok (.istore_n 3, 1) := by decide +kernel
theorem dX5_searchPath_6 : decode cX5_searchPath 6 = .ok (.iload_n 3, 1) := by decide +kernel
theorem dX5_searchPath_7 : decode cX5_searchPath 7 = .ok (.aload_n 0, 1) := by decide +kernel
theorem dX5_searchPath_8 : decode cX5_searchPath 8 = .ok (.getfield 14, 3) := by decide +kernel
theorem dX5_searchPath_11 : decode cX5_searchPath 11 = .ok (.invokevirtual 33, 3) := by decide +kernel
theorem dX5_searchPath_14 : decode cX5_searchPath 14 = .ok (.if_icmp .ge 126, 3) := by decide +kernel
theorem dX5_searchPath_17 : decode cX5_searchPath 17 = .ok (.aload_n 0, 1) := by decide +kernel
theorem dX5_searchPath_18 : decode cX5_searchPath 18 = .ok (.getfield 14, 3) := by decide +kernel
theorem dX5_searchPath_21 : decode cX5_searchPath 21 = .ok (.iload_n 3, 1) := by decide +kernel
theorem dX5_searchPath_22 : decode cX5_searchPath 22 = .ok (.iconst 0, 1) := by decide +kernel
theorem dX5_searchPath_23 : decode cX5_searchPath 23 = .ok (.invokevirtual 37, 3) := by decide +kernel
theorem dX5_searchPath_26 : decode cX5_searchPath 26 = .ok (.istore 4, 2) := by decide +kernel
theorem dX5_searchPath_28 : decode cX5_searchPath 28 = .ok (.aload_n 1, 1) := by decide +kernel
theorem dX5_searchPath_29 : decode cX5_searchPath 29 = .ok (.iload 4, 2) := by decide +kernel
theorem dX5_searchPath_31 : decode cX5_searchPath 31 = .ok (.invokevirtual 41, 3) := by decide +kernel
theorem dX5_searchPath_34 : decode cX5_searchPath 34 = .ok (.astore 5, 2) := by decide +kernel
theorem dX5_searchPath_36 : decode cX5_searchPath 36 = .ok (.iload_n 3, 1) := by decide +kernel
theorem dX5_searchPath_37 : decode cX5_searchPath 37 = .ok (.ifCond .ne 23, 3) := by decide +kernel
theorem dX5_searchPath_40 : decode cX5_searchPath 40 = .ok (.aload_n 0, 1) := by decide +kernel
theorem dX5_searchPath_41 : decode cX5_searchPath 41 = .ok (.aload_n 0, 1) := by decide +kernel
theorem dX5_searchPath_42 : decode cX5_searchPath 42 = .ok (.aload 5, 2) := by decide +kernel
theorem dX5_searchPath_44 : decode cX5_searchPath 44 = .ok (.getfield 66, 3) := by decide +kernel
theorem dX5_searchPath_47 : decode cX5_searchPath 47 = .ok (.getfield 73, 3) := by decide +kernel
theorem dX5_searchPath_50 : decode cX5_searchPath 50 = .ok (.iload_n 2, 1) := by decide +kernel
theorem dX5_searchPath_51 : decode cX5_searchPath 51 = .ok (.invokevirtual 51, 3) := by decide +kernel
theorem dX5_searchPath_54 : decode cX5_searchPath 54 = .ok (.putfield 55, 3) := by decide +kernel
theorem dX5_searchPath_57 : decode cX5_searchPath 57 = .ok (.goto 56, 3) := by decide +kernel
theorem dX5_searchPath_60 : decode cX5_searchPath 60 = .ok (.aload_n 1, 1) := by decide +kernel
theorem dX5_searchPath_61 : decode cX5_searchPath 61 = .ok (.aload 5, 2) := by decide +kernel
theorem dX5_searchPath_63 : decode cX5_searchPath 63 = .ok (.getfield 90, 3) := by decide +kernel
theorem dX5_searchPath_66 : decode cX5_searchPath 66 = .ok (.invokevirtual 41, 3) := by decide +kernel
theorem dX5_searchPath_69 : decode cX5_searchPath 69 = .ok (.getfield 66, 3) := by decide +kernel
theorem dX5_searchPath_72 : decode cX5_searchPath 72 = .ok (.astore 6, 2) := by decide +kernel
theorem dX5_searchPath_74 : decode cX5_searchPath 74 = .ok (.aload 6, 2) := by decide +kernel
theorem dX5_searchPath_76 : decode cX5_searchPath 76 = .ok (.aload_n 0, 1) := by decide +kernel
theorem dX5_searchPath_77 : decode cX5_searchPath 77 = .ok (.getfield 55, 3) := by decide +kernel
theorem dX5_searchPath_80 : decode cX5_searchPath 80 = .ok (.aload_n 0, 1) := by decide +kernel
theorem dX5_searchPath_81 : decode cX5_searchPath 81 = .ok (.getfield 20, 3) := by decide +kernel
theorem dX5_searchPath_84 : decode cX5_searchPath 84 = .ok (.iload_n 3, 1) := by decide +kernel
theorem dX5_searchPath_85 : decode cX5_searchPath 85 = .ok (.iconst 1, 1) := by decide +kernel
theorem dX5_searchPath_86 : decode cX5_searchPath 86 = .ok (.invokevirtual 37, 3) := by decide +kernel
theorem dX5_searchPath_89 : decode cX5_searchPath 89 = .ok (.invokevirtual 109, 3) := by decide +kernel
theorem dX5_searchPath_92 : decode cX5_searchPath 92 = .ok (.istore 7, 2) := by decide +kernel
theorem dX5_searchPath_94 : decode cX5_searchPath 94 = .ok (.aload_n 0, 1) := by decide +kernel
theorem dX5_searchPath_95 : decode cX5_searchPath 95 = .ok (.aload_n 0, 1) := by decide +kernel
theorem dX5_searchPath_96 : decode cX5_searchPath 96 = .ok (.aload 5, 2) := by decide +kernel
theorem dX5_searchPath_98 : decode cX5_searchPath 98 = .ok (.getfield 66, 3) := by decide +kernel
theorem dX5_searchPath_101 : decode cX5_searchPath 101 = .ok (.getfield 73, 3) := by decide +kernel
theorem dX5_searchPath_104 : decode cX5_searchPath 104 = .ok (.iload 7, 2) := by decide +kernel
theorem dX5_searchPath_106 : decode cX5_searchPath 106 = .ok (.iload_n 2, 1) := by decide +kernel
theorem dX5_searchPath_107 : decode cX5_searchPath 107 = .ok (.invokevirtual 112, 3) := by decide +kernel
theorem dX5_searchPath_110 : decode cX5_searchPath 110 = .ok (.putfield 55, 3) := by decide +kernel
theorem dX5_searchPath_113 : decode cX5_searchPath 113 = .ok (.aload_n 0, 1) := by decide +kernel
theorem dX5_searchPath_114 : decode cX5_searchPath 114 = .ok (.aload_n 1, 1) := by decide +kernel
theorem dX5_searchPath_115 : decode cX5_searchPath 115 = .ok (.iload 4, 2) := by decide +kernel
theorem dX5_searchPath_117 : decode cX5_searchPath 117 = .ok (.aload 5, 2) := by decide +kernel
theorem dX5_searchPath_119 : decode cX5_searchPath 119 = .ok (.getfield 66, 3) := by decide +kernel
theorem dX5_searchPath_122 : decode cX5_searchPath 122 = .ok (.aload_n 0, 1) := by decide +kernel
theorem dX5_searchPath_123 : decode cX5_searchPath 123 = .ok (.getfield 55, 3) := by decide +kernel
theorem dX5_searchPath_126 : decode cX5_searchPath 126 = .ok (.iconst 0, 1) := by decide +kernel
theorem dX5_searchPath_127 : decode cX5_searchPath 127 = .ok (.invokevirtual 109, 3) := by decide +kernel
theorem dX5_searchPath_130 : decode cX5_searchPath 130 = .ok (.iload_n 2, 1) := by decide +kernel
theorem dX5_searchPath_131 : decode cX5_searchPath 131 = .ok (.invokevirtual 59, 3) := by decide +kernel
theorem dX5_searchPath_134 : decode cX5_searchPath 134 = .ok (.iinc 3 1, 3) := by decide +kernel
theorem dX5_searchPath_137 : decode cX5_searchPath 137 = .ok (.goto (-131), 3) := by decide +kernel
theorem dX5_searchPath_140 : decode cX5_searchPath 140 = .ok (.return_, 1) := by decide +kernel
theorem dX5_halve_0 : decode cX5_halve 0 = .ok (.iconst 0, 1) := by decide +kernel
theorem dX5_halve_1 : decode cX5_halve 1 = .ok (.istore_n 3, 1) := by decide +kernel
theorem dX5_halve_2 : decode cX5_halve 2 = .ok (.aload_n 1, 1) := by decide +kernel
theorem dX5_halve_3 : decode cX5_halve 3 = .ok (.invokevirtual 33, 3) := by decide +kernel
theorem dX5_halve_6 : decode cX5_halve 6 = .ok (.istore 4, 2) := by decide +kernel
theorem dX5_halve_8 : decode cX5_halve 8 = .ok (.iload_n 3, 1) := by decide +kernel
theorem dX5_halve_9 : decode cX5_halve 9 = .ok (.iload 4, 2) := by decide +kernel
theorem dX5_halve_11 : decode cX5_halve 11 = .ok (.if_icmp .ge 49, 3) := by decide +kernel
theorem dX5_halve_14 : decode cX5_halve 14 = .ok (.iload_n 3, 1) := by decide +kernel
theorem dX5_halve_15 : decode cX5_halve 15 = .ok (.iload 4, 2) := by decide +kernel
theorem dX5_halve_17 : decode cX5_halve 17 = .ok (.iadd, 1) := by decide +kernel
theorem dX5_halve_18 : decode cX5_halve 18 = .ok (.iconst 2, 1) := by decide +kernel
theorem dX5_halve_19 : decode cX5_halve 19 = .ok (.idiv, 1) := by decide +kernel
theorem dX5_halve_20 : decode cX5_halve 20 = .ok (.istore 5, 2) := by decide +kernel
theorem dX5_halve_22 : decode cX5_halve 22 = .ok (.aload_n 0, 1) := by decide +kernel
theorem dX5_halve_23 : decode cX5_halve 23 = .ok (.dup, 1) := by decide +kernel
theorem dX5_halve_24 : decode cX5_halve 24 = .ok (.getfield 63, 3) := by decide +kernel
theorem dX5_halve_27 : decode cX5_halve 27 = .ok (.iconst 1, 1) := by decide +kernel
theorem dX5_halve_28 : decode cX5_halve 28 = .ok (.iadd, 1) := by decide +kernel
theorem dX5_halve_29 : decode cX5_halve 29 = .ok (.putfield 63, 3) := by decide +kernel
theorem dX5_halve_32 : decode cX5_halve 32 = .ok (.aload_n 1, 1) := by decide +kernel
theorem dX5_halve_33 : decode cX5_halve 33 = .ok (.iload 5, 2) := by decide +kernel
theorem dX5_halve_35 : decode cX5_halve 35 = .ok (.sipush 10000, 3) := by decide +kernel
theorem dX5_halve_38 : decode cX5_halve 38 = .ok (.invokevirtual 37, 3) := by decide +kernel
theorem dX5_halve_41 : decode cX5_halve 41 = .ok (.iload_n 2, 1) := by decide +kernel
theorem dX5_halve_42 : decode cX5_halve 42 = .ok (.if_icmp .lt 10, 3) := by decide +kernel
theorem dX5_halve_45 : decode cX5_halve 45 = .ok (.iload 5, 2) := by decide +kernel
theorem dX5_halve_47 : decode cX5_halve 47 = .ok (.istore 4, 2) := by decide +kernel
theorem dX5_halve_49 : decode cX5_halve 49 = .ok (.goto 8, 3) := by decide +kernel
theorem dX5_halve_52 : decode cX5_halve 52 = .ok (.iload 5, 2) := by decide +kernel
theorem dX5_halve_54 : decode cX5_halve 54 = .ok (.iconst 1, 1) := by decide +kernel
theorem dX5_halve_55 : decode cX5_halve 55 = .ok (.iadd, 1) := by decide +kernel
theorem dX5_halve_56 : decode cX5_halve 56 = .ok (.istore_n 3, 1) := by decide +kernel
theorem dX5_halve_57 : decode cX5_halve 57 = .ok (.goto (-49), 3) := by decide +kernel
theorem dX5_halve_60 : decode cX5_halve 60 = .ok (.iload_n 3, 1) := by decide +kernel
theorem dX5_halve_61 : decode cX5_halve 61 = .ok (.ireturn, 1) := by decide +kernel
theorem dX5_stepBack_0 : decode cX5_stepBack 0 = .ok (.iload_n 2, 1) := by decide +kernel
theorem dX5_stepBack_1 : decode cX5_stepBack 1 = .ok (.istore 4, 2) := by decide +kernel
theorem dX5_stepBack_3 : decode cX5_stepBack 3 = .ok (.iload 4, 2) := by decide +kernel
theorem dX5_stepBack_5 : decode cX5_stepBack 5 = .ok (.ifCond .le 35, 3) := by decide +kernel
theorem dX5_stepBack_8 : decode cX5_stepBack 8 = .ok (.aload_n 0, 1) := by decide +kernel
theorem dX5_stepBack_9 : decode cX5_stepBack 9 = .ok (.dup, 1) := by decide +kernel
theorem dX5_stepBack_10 : decode cX5_stepBack 10 = .ok (.getfield 63, 3) := by decide +kernel
theorem dX5_stepBack_13 : decode cX5_stepBack 13 = .ok (.iconst 1, 1) := by decide +kernel
theorem dX5_stepBack_14 : decode cX5_stepBack 14 = .ok (.iadd, 1) := by decide +kernel
theorem dX5_stepBack_15 : decode cX5_stepBack 15 = .ok (.putfield 63, 3) := by decide +kernel
theorem dX5_stepBack_18 : decode cX5_stepBack 18 = .ok (.aload_n 1, 1) := by decide +kernel
theorem dX5_stepBack_19 : decode cX5_stepBack 19 = .ok (.iload 4, 2) := by decide +kernel
theorem dX5_stepBack_21 : decode cX5_stepBack 21 = .ok (.iconst 1, 1) := by decide +kernel
theorem dX5_stepBack_22 : decode cX5_stepBack 22 = .ok (.isub, 1) := by decide +kernel
theorem dX5_stepBack_23 : decode cX5_stepBack 23 = .ok (.iconst (-1), 1) := by decide +kernel
theorem dX5_stepBack_24 : decode cX5_stepBack 24 = .ok (.invokevirtual 37, 3) := by decide +kernel
theorem dX5_stepBack_27 : decode cX5_stepBack 27 = .ok (.iload_n 3, 1) := by decide +kernel
theorem dX5_stepBack_28 : decode cX5_stepBack 28 = .ok (.if_icmp .ge 6, 3) := by decide +kernel
theorem dX5_stepBack_31 : decode cX5_stepBack 31 = .ok (.goto 9, 3) := by decide +kernel
theorem dX5_stepBack_34 : decode cX5_stepBack 34 = .ok (.iinc 4 (-1), 3) := by decide +kernel
theorem dX5_stepBack_37 : decode cX5_stepBack 37 = .ok (.goto (-34), 3) := by decide +kernel
theorem dX5_stepBack_40 : decode cX5_stepBack 40 = .ok (.iload 4, 2) := by decide +kernel
theorem dX5_stepBack_42 : decode cX5_stepBack 42 = .ok (.ireturn, 1) := by decide +kernel
theorem dX5_answerAt_0 : decode cX5_answerAt 0 = .ok (.aload_n 1, 1) := by decide +kernel
theorem dX5_answerAt_1 : decode cX5_answerAt 1 = .ok (.iload_n 2, 1) := by decide +kernel
theorem dX5_answerAt_2 : decode cX5_answerAt 2 = .ok (.invokevirtual 41, 3) := by decide +kernel
theorem dX5_answerAt_5 : decode cX5_answerAt 5 = .ok (.astore 5, 2) := by decide +kernel
theorem dX5_answerAt_7 : decode cX5_answerAt 7 = .ok (.aload 5, 2) := by decide +kernel
theorem dX5_answerAt_9 : decode cX5_answerAt 9 = .ok (.iload_n 3, 1) := by decide +kernel
theorem dX5_answerAt_10 : decode cX5_answerAt 10 = .ok (.invokevirtual 116, 3) := by decide +kernel
theorem dX5_answerAt_13 : decode cX5_answerAt 13 = .ok (.istore 6, 2) := by decide +kernel
theorem dX5_answerAt_15 : decode cX5_answerAt 15 = .ok (.aload_n 0, 1) := by decide +kernel
theorem dX5_answerAt_16 : decode cX5_answerAt 16 = .ok (.dup, 1) := by decide +kernel
theorem dX5_answerAt_17 : decode cX5_answerAt 17 = .ok (.getfield 63, 3) := by decide +kernel
theorem dX5_answerAt_20 : decode cX5_answerAt 20 = .ok (.iload 6, 2) := by decide +kernel
theorem dX5_answerAt_22 : decode cX5_answerAt 22 = .ok (.iload_n 3, 1) := by decide +kernel
theorem dX5_answerAt_23 : decode cX5_answerAt 23 = .ok (.isub, 1) := by decide +kernel
theorem dX5_answerAt_24 : decode cX5_answerAt 24 = .ok (.iadd, 1) := by decide +kernel
theorem dX5_answerAt_25 : decode cX5_answerAt 25 = .ok (.putfield 63, 3) := by decide +kernel
theorem dX5_answerAt_28 : decode cX5_answerAt 28 = .ok (.aload_n 0, 1) := by decide +kernel
theorem dX5_answerAt_29 : decode cX5_answerAt 29 = .ok (.dup, 1) := by decide +kernel
theorem dX5_answerAt_30 : decode cX5_answerAt 30 = .ok (.getfield 63, 3) := by decide +kernel
theorem dX5_answerAt_33 : decode cX5_answerAt 33 = .ok (.aload 5, 2) := by decide +kernel
theorem dX5_answerAt_35 : decode cX5_answerAt 35 = .ok (.getfield 120, 3) := by decide +kernel
theorem dX5_answerAt_38 : decode cX5_answerAt 38 = .ok (.invokevirtual 33, 3) := by decide +kernel
theorem dX5_answerAt_41 : decode cX5_answerAt 41 = .ok (.iadd, 1) := by decide +kernel
theorem dX5_answerAt_42 : decode cX5_answerAt 42 = .ok (.putfield 63, 3) := by decide +kernel
theorem dX5_answerAt_45 : decode cX5_answerAt 45 = .ok (.aload 5, 2) := by decide +kernel
theorem dX5_answerAt_47 : decode cX5_answerAt 47 = .ok (.iload 4, 2) := by decide +kernel
theorem dX5_answerAt_49 : decode cX5_answerAt 49 = .ok (.aload 5, 2) := by decide +kernel
theorem dX5_answerAt_51 : decode cX5_answerAt 51 = .ok (.getfield 46, 3) := by decide +kernel
theorem dX5_answerAt_54 : decode cX5_answerAt 54 = .ok (.iload 6, 2) := by decide +kernel
theorem dX5_answerAt_56 : decode cX5_answerAt 56 = .ok (.sipush 10000, 3) := by decide +kernel
theorem dX5_answerAt_59 : decode cX5_answerAt 59 = .ok (.invokevirtual 37, 3) := by decide +kernel
theorem dX5_answerAt_62 : decode cX5_answerAt 62 = .ok (.invokevirtual 123, 3) := by decide +kernel
theorem dX5_answerAt_65 : decode cX5_answerAt 65 = .ok (.istore 7, 2) := by decide +kernel
theorem dX5_answerAt_67 : decode cX5_answerAt 67 = .ok (.aload_n 0, 1) := by decide +kernel
theorem dX5_answerAt_68 : decode cX5_answerAt 68 = .ok (.iload 7, 2) := by decide +kernel
theorem dX5_answerAt_70 : decode cX5_answerAt 70 = .ok (.sipush 10000, 3) := by decide +kernel
theorem dX5_answerAt_73 : decode cX5_answerAt 73 = .ok (.if_icmp .ge 8, 3) := by decide +kernel
theorem dX5_answerAt_76 : decode cX5_answerAt 76 = .ok (.iload 7, 2) := by decide +kernel
theorem dX5_answerAt_78 : decode cX5_answerAt 78 = .ok (.goto 4, 3) := by decide +kernel
theorem dX5_answerAt_81 : decode cX5_answerAt 81 = .ok (.iconst (-1), 1) := by decide +kernel
theorem dX5_answerAt_82 : decode cX5_answerAt 82 = .ok (.putfield 100, 3) := by decide +kernel
theorem dX5_answerAt_85 : decode cX5_answerAt 85 = .ok (.aload_n 0, 1) := by decide +kernel
theorem dX5_answerAt_86 : decode cX5_answerAt 86 = .ok (.getfield 100, 3) := by decide +kernel
theorem dX5_answerAt_89 : decode cX5_answerAt 89 = .ok (.iconst (-1), 1) := by decide +kernel
theorem dX5_answerAt_90 : decode cX5_answerAt 90 = .ok (.if_icmp .eq 35, 3) := by decide +kernel
theorem dX5_answerAt_93 : decode cX5_answerAt 93 = .ok (.aload_n 0, 1) := by decide +kernel
theorem dX5_answerAt_94 : decode cX5_answerAt 94 = .ok (.getfield 103, 3) := by decide +kernel
theorem dX5_answerAt_97 : decode cX5_answerAt 97 = .ok (.iconst (-1), 1) := by decide +kernel
theorem dX5_answerAt_98 : decode cX5_answerAt 98 = .ok (.if_icmp .eq 14, 3) := by decide +kernel
theorem dX5_answerAt_101 : decode cX5_answerAt 101 = .ok (.aload_n 0, 1) := by decide +kernel
theorem dX5_answerAt_102 : decode cX5_answerAt 102 = .ok (.getfield 100, 3) := by decide +kernel
theorem dX5_answerAt_105 : decode cX5_answerAt 105 = .ok (.aload_n 0, 1) := by decide +kernel
theorem dX5_answerAt_106 : decode cX5_answerAt 106 = .ok (.getfield 103, 3) := by decide +kernel
theorem dX5_answerAt_109 : decode cX5_answerAt 109 = .ok (.if_icmp .ge 16, 3) := by decide +kernel
theorem dX5_answerAt_112 : decode cX5_answerAt 112 = .ok (.aload_n 0, 1) := by decide +kernel
theorem dX5_answerAt_113 : decode cX5_answerAt 113 = .ok (.aload_n 0, 1) := by decide +kernel
theorem dX5_answerAt_114 : decode cX5_answerAt 114 = .ok (.getfield 100, 3) := by decide +kernel
theorem dX5_answerAt_117 : decode cX5_answerAt 117 = .ok (.putfield 103, 3) := by decide +kernel
theorem dX5_answerAt_120 : decode cX5_answerAt 120 = .ok (.aload_n 0, 1) := by decide +kernel
theorem dX5_answerAt_121 : decode cX5_answerAt 121 = .ok (.iload_n 2, 1) := by decide +kernel
theorem dX5_answerAt_122 : decode cX5_answerAt 122 = .ok (.putfield 106, 3) := by decide +kernel
theorem dX5_answerAt_125 : decode cX5_answerAt 125 = .ok (.return_, 1) := by decide +kernel
