theorem dX6_init_0 : decode cX6_init 0 = .ok (.aload_n 0, 1) := by decide +kernel
theorem dX6_init_1 : decode cX6_init 1 = .ok (.invokespecial 1, 3) := by decide +kernel
theorem dX6_init_4 : decode cX6_init 4 = .ok (.aload_n 0, 1) := by decide +kernel
theorem dX6_init_5 : decode cX6_init 5 = .ok (.new 7, 3) := by decide +kernel
theorem dX6_init_8 : decode cX6_init 8 = .ok (.dup, 1) := by decide +kernel
theorem dX6_init_9 : decode cX6_init 9 = .ok (.invokespecial 9, 3) := by decide +kernel
theorem dX6_init_12 : decode cX6_init 12 = .ok (.putfield 10, 3) := by decide +kernel
theorem dX6_init_15 : decode cX6_init 15 = .ok (.aload_n 0, 1) := by decide +kernel
theorem dX6_init_16 : decode cX6_init 16 = .ok (.new 16, 3) := by decide +kernel
theorem dX6_init_19 : decode cX6_init 19 = .ok (.dup, 1) := by decide +kernel
theorem dX6_init_20 : decode cX6_init 20 = .ok (.invokespecial 18, 3) := by decide +kernel
theorem dX6_init_23 : decode cX6_init 23 = .ok (.putfield 19, 3) := by decide +kernel
theorem dX6_init_26 : decode cX6_init 26 = .ok (.aload_n 0, 1) := by decide +kernel
theorem dX6_init_27 : decode cX6_init 27 = .ok (.new 23, 3) := by decide +kernel
theorem dX6_init_30 : decode cX6_init 30 = .ok (.dup, 1) := by decide +kernel
theorem dX6_init_31 : decode cX6_init 31 = .ok (.invokespecial 25, 3) := by decide +kernel
theorem dX6_init_34 : decode cX6_init 34 = .ok (.putfield 26, 3) := by decide +kernel
theorem dX6_init_37 : decode cX6_init 37 = .ok (.return_, 1) := by decide +kernel
theorem dX6_addNode_0 : decode cX6_addNode 0 = .ok (.aload_n 0, 1) := by decide +kernel
theorem dX6_addNode_1 : decode cX6_addNode 1 = .ok (.iload_n 1, 1) := by decide +kernel
theorem dX6_addNode_2 : decode cX6_addNode 2 = .ok (.invokevirtual 30, 3) := by decide +kernel
theorem dX6_addNode_5 : decode cX6_addNode 5 = .ok (.aload_n 0, 1) := by decide +kernel
theorem dX6_addNode_6 : decode cX6_addNode 6 = .ok (.iload_n 2, 1) := by decide +kernel
theorem dX6_addNode_7 : decode cX6_addNode 7 = .ok (.iconst 1, 1) := by decide +kernel
theorem dX6_addNode_8 : decode cX6_addNode 8 = .ok (.if_icmp .eq 8, 3) := by decide +kernel
theorem dX6_addNode_11 : decode cX6_addNode 11 = .ok (.iload_n 2, 1) := by decide +kernel
theorem dX6_addNode_12 : decode cX6_addNode 12 = .ok (.iconst 2, 1) := by decide +kernel
theorem dX6_addNode_13 : decode cX6_addNode 13 = .ok (.if_icmp .ne 7, 3) := by decide +kernel
theorem dX6_addNode_16 : decode cX6_addNode 16 = .ok (.iconst 1, 1) := by decide +kernel
theorem dX6_addNode_17 : decode cX6_addNode 17 = .ok (.goto 4, 3) := by decide +kernel
theorem dX6_addNode_20 : decode cX6_addNode 20 = .ok (.iconst 0, 1) := by decide +kernel
theorem dX6_addNode_21 : decode cX6_addNode 21 = .ok (.invokevirtual 34, 3) := by decide +kernel
theorem dX6_addNode_24 : decode cX6_addNode 24 = .ok (.aload_n 0, 1) := by decide +kernel
theorem dX6_addNode_25 : decode cX6_addNode 25 = .ok (.getfield 10, 3) := by decide +kernel
theorem dX6_addNode_28 : decode cX6_addNode 28 = .ok (.getfield 38, 3) := by decide +kernel
theorem dX6_addNode_31 : decode cX6_addNode 31 = .ok (.bipush 15, 2) := by decide +kernel
theorem dX6_addNode_33 : decode cX6_addNode 33 = .ok (.if_icmp .eq 19, 3) := by decide +kernel
theorem dX6_addNode_36 : decode cX6_addNode 36 = .ok (.aload_n 0, 1) := by decide +kernel
theorem dX6_addNode_37 : decode cX6_addNode 37 = .ok (.getfield 10, 3) := by decide +kernel
theorem dX6_addNode_40 : decode cX6_addNode 40 = .ok (.iload_n 1, 1) := by decide +kernel
theorem dX6_addNode_41 : decode cX6_addNode 41 = .ok (.invokevirtual 42, 3) := by decide +kernel
theorem dX6_addNode_44 : decode cX6_addNode 44 = .ok (.iload_n 2, 1) := by decide +kernel
theorem dX6_addNode_45 : decode cX6_addNode 45 = .ok (.invokevirtual 46, 3) := by decide +kernel
theorem dX6_addNode_48 : decode cX6_addNode 48 = .ok (.iconst (-1), 1) := by decide +kernel
theorem dX6_addNode_49 : decode cX6_addNode 49 = .ok (.if_icmp .eq 13, 3) := by decide +kernel
theorem dX6_addNode_52 : decode cX6_addNode 52 = .ok (.new 52, 3) := by decide +kernel
theorem dX6_addNode_55 : decode cX6_addNode 55 = .ok (.dup, 1) := by decide +kernel
theorem dX6_addNode_56 : decode cX6_addNode 56 = .ok (.ldc 54, 2) := by decide +kernel
theorem dX6_addNode_58 : decode cX6_addNode 58 = .ok (.invokespecial 56, 3) := by decide +kernel
theorem dX6_addNode_61 : decode cX6_addNode 61 = .ok (.athrow, 1) := by decide +kernel
theorem dX6_addNode_62 : decode cX6_addNode 62 = .ok (.aload_n 0, 1) := by decide +kernel
theorem dX6_addNode_63 : decode cX6_addNode 63 = .ok (.getfield 26, 3) := by decide +kernel
theorem dX6_addNode_66 : decode cX6_addNode 66 = .ok (.aload_n 0, 1) := by decide +kernel
theorem dX6_addNode_67 : decode cX6_addNode 67 = .ok (.getfield 10, 3) := by decide +kernel
theorem dX6_addNode_70 : decode cX6_addNode 70 = .ok (.invokevirtual 59, 3) := by decide +kernel
theorem dX6_addNode_73 : decode cX6_addNode 73 = .ok (.aload_n 0, 1) := by decide +kernel
theorem dX6_addNode_74 : decode cX6_addNode 74 = .ok (.getfield 10, 3) := by decide +kernel
theorem dX6_addNode_77 : decode cX6_addNode 77 = .ok (.iload_n 1, 1) := by decide +kernel
theorem dX6_addNode_78 : decode cX6_addNode 78 = .ok (.iload_n 2, 1) := by decide +kernel
theorem dX6_addNode_79 : decode cX6_addNode 79 = .ok (.invokevirtual 63, 3) := by decide +kernel
theorem dX6_addNode_82 : decode cX6_addNode 82 = .ok (.ireturn, 1) := by decide +kernel
theorem dX6_add_0 : decode cX6_add 0 = .ok (.aload_n 0, 1) := by decide +kernel
theorem dX6_add_1 : decode cX6_add 1 = .ok (.iload_n 1, 1) := by decide +kernel
theorem dX6_add_2 : decode cX6_add 2 = .ok (.invokevirtual 30, 3) := by decide +kernel
theorem dX6_add_5 : decode cX6_add 5 = .ok (.aload_n 0, 1) := by decide +kernel
theorem dX6_add_6 : decode cX6_add 6 = .ok (.iload_n 2, 1) := by decide +kernel
theorem dX6_add_7 : decode cX6_add 7 = .ok (.invokevirtual 67, 3) := by decide +kernel
theorem dX6_add_10 : decode cX6_add 10 = .ok (.aload_n 0, 1) := by decide +kernel
theorem dX6_add_11 : decode cX6_add 11 = .ok (.getfield 10, 3) := by decide +kernel
theorem dX6_add_14 : decode cX6_add 14 = .ok (.iload_n 1, 1) := by decide +kernel
theorem dX6_add_15 : decode cX6_add 15 = .ok (.invokevirtual 42, 3) := by decide +kernel
theorem dX6_add_18 : decode cX6_add 18 = .ok (.astore_n 3, 1) := by decide +kernel
theorem dX6_add_19 : decode cX6_add 19 = .ok (.aload_n 3, 1) := by decide +kernel
theorem dX6_add_20 : decode cX6_add 20 = .ok (.iload_n 2, 1) := by decide +kernel
theorem dX6_add_21 : decode cX6_add 21 = .ok (.invokevirtual 70, 3) := by decide +kernel
theorem dX6_add_24 : decode cX6_add 24 = .ok (.ifCond .ne 20, 3) := by decide +kernel
theorem dX6_add_27 : decode cX6_add 27 = .ok (.aload_n 3, 1) := by decide +kernel
theorem dX6_add_28 : decode cX6_add 28 = .ok (.invokevirtual 74, 3) := by decide +kernel
theorem dX6_add_31 : decode cX6_add 31 = .ok (.ifCond .eq 13, 3) := by decide +kernel
theorem dX6_add_34 : decode cX6_add 34 = .ok (.new 52, 3) := by decide +kernel
theorem dX6_add_37 : decode cX6_add 37 = .ok (.dup, 1) := by decide +kernel
theorem dX6_add_38 : decode cX6_add 38 = .ok (.ldc 78, 2) := by decide +kernel
theorem dX6_add_40 : decode cX6_add 40 = .ok (.invokespecial 56, 3) := by decide +kernel
theorem dX6_add_43 : decode cX6_add 43 = .ok (.athrow, 1) := by decide +kernel
theorem dX6_add_44 : decode cX6_add 44 = .ok (.aload_n 0, 1) := by decide +kernel
theorem dX6_add_45 : decode cX6_add 45 = .ok (.getfield 26, 3) := by decide +kernel
theorem dX6_add_48 : decode cX6_add 48 = .ok (.aload_n 0, 1) := by decide +kernel
theorem dX6_add_49 : decode cX6_add 49 = .ok (.getfield 10, 3) := by decide +kernel
theorem dX6_add_52 : decode cX6_add 52 = .ok (.invokevirtual 59, 3) := by decide +kernel
theorem dX6_add_55 : decode cX6_add 55 = .ok (.aload_n 0, 1) := by decide +kernel
theorem dX6_add_56 : decode cX6_add 56 = .ok (.getfield 10, 3) := by decide +kernel
theorem dX6_add_59 : decode cX6_add 59 = .ok (.iload_n 1, 1) := by decide +kernel
theorem dX6_add_60 : decode cX6_add 60 = .ok (.iload_n 2, 1) := by decide +kernel
theorem dX6_add_61 : decode cX6_add 61 = .ok (.invokevirtual 80, 3) := by decide +kernel
theorem dX6_add_64 : decode cX6_add 64 = .ok (.ireturn, 1) := by decide +kernel
theorem dX6_remove_0 : decode cX6_remove 0 = .ok (.aload_n 0, 1) := by decide +kernel
theorem dX6_remove_1 : decode cX6_remove 1 = .ok (.iload_n 1, 1) := by decide +kernel
theorem dX6_remove_2 : decode cX6_remove 2 = .ok (.invokevirtual 30, 3) := by decide +kernel
theorem dX6_remove_5 : decode cX6_remove 5 = .ok (.aload_n 0, 1) := by decide +kernel
theorem dX6_remove_6 : decode cX6_remove 6 = .ok (.iload_n 2, 1) := by decide +kernel
theorem dX6_remove_7 : decode cX6_remove 7 = .ok (.invokevirtual 67, 3) := by decide +kernel
theorem dX6_remove_10 : decode cX6_remove 10 = .ok (.aload_n 0, 1) := by decide +kernel
theorem dX6_remove_11 : decode cX6_remove 11 = .ok (.getfield 26, 3) := by decide +kernel
theorem dX6_remove_14 : decode cX6_remove 14 = .ok (.aload_n 0, 1) := by decide +kernel
theorem dX6_remove_15 : decode cX6_remove 15 = .ok (.getfield 10, 3) := by decide +kernel
theorem dX6_remove_18 : decode cX6_remove 18 = .ok (.invokevirtual 59, 3) := by decide +kernel
theorem dX6_remove_21 : decode cX6_remove 21 = .ok (.aload_n 0, 1) := by decide +kernel
theorem dX6_remove_22 : decode cX6_remove 22 = .ok (.getfield 10, 3) := by decide +kernel
theorem dX6_remove_25 : decode cX6_remove 25 = .ok (.iload_n 1, 1) := by decide +kernel
theorem dX6_remove_26 : decode cX6_remove 26 = .ok (.iload_n 2, 1) := by decide +kernel
theorem dX6_remove_27 : decode cX6_remove 27 = .ok (.invokevirtual 84, 3) := by decide +kernel
theorem dX6_remove_30 : decode cX6_remove 30 = .ok (.ireturn, 1) := by decide +kernel
theorem dX6_addSeries_0 : decode cX6_addSeries 0 = .ok (.aload_n 0, 1) := by decide +kernel
theorem dX6_addSeries_1 : decode cX6_addSeries 1 = .ok (.iload_n 1, 1) := by decide +kernel
theorem dX6_addSeries_2 : decode cX6_addSeries 2 = .ok (.invokevirtual 30, 3) := by decide +kernel
theorem dX6_addSeries_5 : decode cX6_addSeries 5 = .ok (.aload_n 0, 1) := by decide +kernel
theorem dX6_addSeries_6 : decode cX6_addSeries 6 = .ok (.iload_n 2, 1) := by decide +kernel
theorem dX6_addSeries_7 : decode cX6_addSeries 7 = .ok (.invokevirtual 67, 3) := by decide +kernel
theorem dX6_addSeries_10 : decode cX6_addSeries 10 = .ok (.aload_n 0, 1) := by decide +kernel
theorem dX6_addSeries_11 : decode cX6_addSeries 11 = .ok (.iload_n 3, 1) := by decide +kernel
theorem dX6_addSeries_12 : decode cX6_addSeries 12 = .ok (.iconst 1, 1) := by decide +kernel
theorem dX6_addSeries_13 : decode cX6_addSeries 13 = .ok (.if_icmp .lt 14, 3) := by decide +kernel
theorem dX6_addSeries_16 : decode cX6_addSeries 16 = .ok (.iload_n 3, 1) := by decide +kernel
theorem dX6_addSeries_17 : decode cX6_addSeries 17 = .ok (.sipush 999, 3) := by decide +kernel
theorem dX6_addSeries_20 : decode cX6_addSeries 20 = .ok (.if_icmp .gt 7, 3) := by decide +kernel
theorem dX6_addSeries_23 : decode cX6_addSeries 23 = .ok (.iconst 1, 1) := by decide +kernel
theorem dX6_addSeries_24 : decode cX6_addSeries 24 = .ok (.goto 4, 3) := by decide +kernel
theorem dX6_addSeries_27 : decode cX6_addSeries 27 = .ok (.iconst 0, 1) := by decide +kernel
theorem dX6_addSeries_28 : decode cX6_addSeries 28 = .ok (.invokevirtual 34, 3) := by decide +kernel
theorem dX6_addSeries_31 : decode cX6_addSeries 31 = .ok (.aload_n 0, 1) := by decide +kernel
theorem dX6_addSeries_32 : decode cX6_addSeries 32 = .ok (.iload 4, 2) := by decide +kernel
theorem dX6_addSeries_34 : decode cX6_addSeries 34 = .ok (.iconst 1, 1) := by decide +kernel
theorem dX6_addSeries_35 : decode cX6_addSeries 35 = .ok (.if_icmp .lt 14, 3) := by decide +kernel
theorem dX6_addSeries_38 : decode cX6_addSeries 38 = .ok (.iload 4, 2) := by decide +kernel
theorem dX6_addSeries_40 : decode cX6_addSeries 40 = .ok (.bipush 24, 2) := by decide +kernel
theorem dX6_addSeries_42 : decode cX6_addSeries 42 = .ok (.if_icmp .gt 7, 3) := by decide +kernel
theorem dX6_addSeries_45 : decode cX6_addSeries 45 = .ok (.iconst 1, 1) := by decide +kernel
theorem dX6_addSeries_46 : decode cX6_addSeries 46 = .ok (.goto 4, 3) := by decide +kernel
theorem dX6_addSeries_49 : decode cX6_addSeries 49 = .ok (.iconst 0, 1) := by decide +kernel
theorem dX6_addSeries_50 : decode cX6_addSeries 50 = .ok (.invokevirtual 34, 3) := by decide +kernel
theorem dX6_addSeries_53 : decode cX6_addSeries 53 = .ok (.aload_n 0, 1) := by decide +kernel
theorem dX6_addSeries_54 : decode cX6_addSeries 54 = .ok (.getfield 26, 3) := by decide +kernel
theorem dX6_addSeries_57 : decode cX6_addSeries 57 = .ok (.aload_n 0, 1) := by decide +kernel
theorem dX6_addSeries_58 : decode cX6_addSeries 58 = .ok (.getfield 10, 3) := by decide +kernel
theorem dX6_addSeries_61 : decode cX6_addSeries 61 = .ok (.invokevirtual 59, 3) := by decide +kernel
theorem dX6_addSeries_64 : decode cX6_addSeries 64 = .ok (.iload_n 2, 1) := by decide +kernel
theorem dX6_addSeries_65 : decode cX6_addSeries 65 = .ok (.istore 5, 2) := by decide +kernel
theorem dX6_addSeries_67 : decode cX6_addSeries 67 = .ok (.iconst 0, 1) := by decide +kernel
theorem dX6_addSeries_68 : decode cX6_addSeries 68 = .ok (.istore 6, 2) := by decide +kernel
theorem dX6_addSeries_70 : decode cX6_addSeries 70 = .ok (.iconst 0, 1) := by decide +kernel
theorem dX6_addSeries_71 : decode cX6_addSeries 71 = .ok (.istore 7, 2) := by decide +kernel
theorem dX6_addSeries_73 : decode cX6_addSeries 73 = .ok (.iload 7, 2) := by decide +kernel
theorem dX6_addSeries_75 : decode cX6_addSeries 75 = .ok (.iload 4, 2) := by decide +kernel
theorem dX6_addSeries_77 : decode cX6_addSeries 77 = .ok (.if_icmp .ge 53, 3) := by decide +kernel
theorem dX6_addSeries_80 : decode cX6_addSeries 80 = .ok (.iload 5, 2) := by decide +kernel
theorem dX6_addSeries_82 : decode cX6_addSeries 82 = .ok (.sipush 10000, 3) := by decide +kernel
theorem dX6_addSeries_85 : decode cX6_addSeries 85 = .ok (.if_icmp .ge 45, 3) := by decide +kernel
theorem dX6_addSeries_88 : decode cX6_addSeries 88 = .ok (.aload_n 0, 1) := by decide +kernel
theorem dX6_addSeries_89 : decode cX6_addSeries 89 = .ok (.getfield 10, 3) := by decide +kernel
theorem dX6_addSeries_92 : decode cX6_addSeries 92 = .ok (.iload_n 1, 1) := by decide +kernel
theorem dX6_addSeries_93 : decode cX6_addSeries 93 = .ok (.invokevirtual 42, 3) := by decide +kernel
theorem dX6_addSeries_96 : decode cX6_addSeries 96 = .ok (.invokevirtual 74, 3) := by decide +kernel
theorem dX6_addSeries_99 : decode cX6_addSeries 99 = .ok (.ifCond .ne 31, 3) := by decide +kernel
theorem dX6_addSeries_102 : decode cX6_addSeries 102 = .ok (.aload_n 0, 1) := by decide +kernel
theorem dX6_addSeries_103 : decode cX6_addSeries 103 = .ok (.getfield 10, 3) := by decide +kernel
theorem dX6_addSeries_106 : decode cX6_addSeries 106 = .ok (.iload_n 1, 1) := by decide +kernel
theorem dX6_addSeries_107 : decode cX6_addSeries 107 = .ok (.iload 5, 2) := by decide +kernel
theorem dX6_addSeries_109 : decode cX6_addSeries 109 = .ok (.invokevirtual 80, 3) := by decide +kernel
theorem dX6_addSeries_112 : decode cX6_addSeries 112 = .ok (.ifCond .eq 6, 3) := by decide +kernel
theorem dX6_addSeries_115 : decode cX6_addSeries 115 = .ok (.iinc 6 1, 3) := by decide +kernel
theorem dX6_addSeries_118 : decode cX6_addSeries 118 = .ok (.iload 5, 2) := by decide +kernel
theorem dX6_addSeries_120 : decode cX6_addSeries 120 = .ok (.iload_n 3, 1) := by decide +kernel
theorem dX6_addSeries_121 : decode cX6_addSeries 121 = .ok (.iadd, 1) := by decide +kernel
theorem dX6_addSeries_122 : decode cX6_addSeries 122 = .ok (.istore 5, 2) := by decide +kernel
theorem dX6_addSeries_124 : decode cX6_addSeries 124 = .ok (.iinc 7 1, 3) := by decide +kernel
theorem dX6_addSeries_127 : decode cX6_addSeries 127 = .ok (.goto (-54), 3) := by decide +kernel
theorem dX6_addSeries_130 : decode cX6_addSeries 130 = .ok (.iload 6, 2) := by decide +kernel
theorem dX6_addSeries_132 : decode cX6_addSeries 132 = .ok (.ireturn, 1) := by decide +kernel
theorem dX6_setSizes_0 : decode cX6_setSizes 0 = .ok (.aload_n 0, 1) := by decide +kernel
theorem dX6_setSizes_1 : decode cX6_setSizes 1 = .ok (.iload_n 1, 1) := by decide +kernel
theorem dX6_setSizes_2 : decode cX6_setSizes 2 = .ok (.iconst 1, 1) := by decide +kernel
theorem dX6_setSizes_3 : decode cX6_setSizes 3 = .ok (.if_icmp .lt 13, 3) := by decide +kernel
theorem dX6_setSizes_6 : decode cX6_setSizes 6 = .ok (.iload_n 1, 1) := by decide +kernel
theorem dX6_setSizes_7 : decode cX6_setSizes 7 = .ok (.bipush 8, 2) := by decide +kernel
theorem dX6_setSizes_9 : decode cX6_setSizes 9 = .ok (.if_icmp .gt 7, 3) := by decide +kernel
theorem dX6_setSizes_12 : decode cX6_setSizes 12 = .ok (.iconst 1, 1) := by decide +kernel
theorem dX6_setSizes_13 : decode cX6_setSizes 13 = .ok (.goto 4, 3) := by decide +kernel
theorem dX6_setSizes_16 : decode cX6_setSizes 16 = .ok (.iconst 0, 1) := by decide +kernel
theorem dX6_setSizes_17 : decode cX6_setSizes 17 = .ok (.invokevirtual 34, 3) := by decide +kernel
theorem dX6_setSizes_20 : decode cX6_setSizes 20 = .ok (.aload_n 0, 1) := by decide +kernel
theorem dX6_setSizes_21 : decode cX6_setSizes 21 = .ok (.iload_n 2, 1) := by decide +kernel
theorem dX6_setSizes_22 : decode cX6_setSizes 22 = .ok (.iconst 2, 1) := by decide +kernel
theorem dX6_setSizes_23 : decode cX6_setSizes 23 = .ok (.if_icmp .lt 12, 3) := by decide +kernel
theorem dX6_setSizes_26 : decode cX6_setSizes 26 = .ok (.iload_n 2, 1) := by decide +kernel
theorem dX6_setSizes_27 : decode cX6_setSizes 27 = .ok (.iconst 5, 1) := by decide +kernel
theorem dX6_setSizes_28 : decode cX6_setSizes 28 = .ok (.if_icmp .gt 7, 3) := by decide +kernel
theorem dX6_setSizes_31 : decode cX6_setSizes 31 = .ok (.iconst 1, 1) := by decide +kernel
theorem dX6_setSizes_32 : decode cX6_setSizes 32 = .ok (.goto 4, 3) := by decide +kernel
theorem dX6_setSizes_35 : decode cX6_setSizes 35 = .ok (.iconst 0, 1) := by decide +kernel
theorem dX6_setSizes_36 : decode cX6_setSizes 36 = .ok (.invokevirtual 34, 3) := by decide +kernel
theorem dX6_setSizes_39 : decode cX6_setSizes 39 = .ok (.aload_n 0, 1) := by decide +kernel
theorem dX6_setSizes_40 : decode cX6_setSizes 40 = .ok (.getfield 26, 3) := by decide +kernel
theorem dX6_setSizes_43 : decode cX6_setSizes 43 = .ok (.aload_n 0, 1) := by decide +kernel
theorem dX6_setSizes_44 : decode cX6_setSizes 44 = .ok (.getfield 10, 3) := by decide +kernel
theorem dX6_setSizes_47 : decode cX6_setSizes 47 = .ok (.invokevirtual 59, 3) := by decide +kernel
theorem dX6_setSizes_50 : decode cX6_setSizes 50 = .ok (.bipush 10, 2) := by decide +kernel
theorem dX6_setSizes_52 : decode cX6_setSizes 52 = .ok (.aload_n 0, 1) := by decide +kernel
theorem dX6_setSizes_53 : decode cX6_setSizes 53 = .ok (.getfield 10, 3) := by decide +kernel
theorem dX6_setSizes_56 : decode cX6_setSizes 56 = .ok (.getfield 87, 3) := by decide +kernel
theorem dX6_setSizes_59 : decode cX6_setSizes 59 = .ok (.imul, 1) := by decide +kernel
theorem dX6_setSizes_60 : decode cX6_setSizes 60 = .ok (.aload_n 0, 1) := by decide +kernel
theorem dX6_setSizes_61 : decode cX6_setSizes 61 = .ok (.getfield 10, 3) := by decide +kernel
theorem dX6_setSizes_64 : decode cX6_setSizes 64 = .ok (.getfield 90, 3) := by decide +kernel
theorem dX6_setSizes_67 : decode cX6_setSizes 67 = .ok (.iadd, 1) := by decide +kernel
theorem dX6_setSizes_68 : decode cX6_setSizes 68 = .ok (.istore_n 3, 1) := by decide +kernel
theorem dX6_setSizes_69 : decode cX6_setSizes 69 = .ok (.aload_n 0, 1) := by decide +kernel
theorem dX6_setSizes_70 : decode cX6_setSizes 70 = .ok (.getfield 10, 3) := by decide +kernel
theorem dX6_setSizes_73 : decode cX6_setSizes 73 = .ok (.iload_n 1, 1) := by decide +kernel
theorem dX6_setSizes_74 : decode cX6_setSizes 74 = .ok (.putfield 87, 3) := by decide +kernel
theorem dX6_setSizes_77 : decode cX6_setSizes 77 = .ok (.aload_n 0, 1) := by decide +kernel
theorem dX6_setSizes_78 : decode cX6_setSizes 78 = .ok (.getfield 10, 3) := by decide +kernel
theorem dX6_setSizes_81 : decode cX6_setSizes 81 = .ok (.iload_n 2, 1) := by decide +kernel
theorem dX6_setSizes_82 : decode cX6_setSizes 82 = .ok (.putfield 90, 3) := by decide +kernel
theorem dX6_setSizes_85 : decode cX6_setSizes 85 = .ok (.iload_n 3, 1) := by decide +kernel
theorem dX6_setSizes_86 : decode cX6_setSizes 86 = .ok (.ireturn, 1) := by decide +kernel
theorem dX6_rebuild_0 : decode cX6_rebuild 0 = .ok (.aload_n 0, 1) := by decide +kernel
theorem dX6_rebuild_1 : decode cX6_rebuild 1 = .ok (.iload_n 1, 1) := by decide +kernel
theorem dX6_rebuild_2 : decode cX6_rebuild 2 = .ok (.invokevirtual 30, 3) := by decide +kernel
theorem dX6_rebuild_5 : decode cX6_rebuild 5 = .ok (.aload_n 0, 1) := by decide +kernel
theorem dX6_rebuild_6 : decode cX6_rebuild 6 = .ok (.getfield 26, 3) := by decide +kernel
theorem dX6_rebuild_9 : decode cX6_rebuild 9 = .ok (.aload_n 0, 1) := by decide +kernel
theorem dX6_rebuild_10 : decode cX6_rebuild 10 = .ok (.getfield 10, 3) := by decide +kernel
theorem dX6_rebuild_13 : decode cX6_rebuild 13 = .ok (.invokevirtual 59, 3) := by decide +kernel
theorem dX6_rebuild_16 : decode cX6_rebuild 16 = .ok (.aload_n 0, 1) := by decide +kernel
theorem dX6_rebuild_17 : decode cX6_rebuild 17 = .ok (.getfield 10, 3) := by decide +kernel
theorem dX6_rebuild_20 : decode cX6_rebuild 20 = .ok (.iload_n 1, 1) := by decide +kernel
theorem dX6_rebuild_21 : decode cX6_rebuild 21 = .ok (.invokevirtual 93, 3) := by decide +kernel
theorem dX6_rebuild_24 : decode cX6_rebuild 24 = .ok (.ireturn, 1) := by decide +kernel
theorem dX6_search_0 : decode cX6_search 0 = .ok (.aload_n 0, 1) := by decide +kernel
theorem dX6_search_1 : decode cX6_search 1 = .ok (.iload_n 1, 1) := by decide +kernel
theorem dX6_search_2 : decode cX6_search 2 = .ok (.iload_n 2, 1) := by decide +kernel
theorem dX6_search_3 : decode cX6_search 3 = .ok (.invokevirtual 103, 3) := by decide +kernel
theorem dX6_search_6 : decode cX6_search 6 = .ok (.astore_n 3, 1) := by decide +kernel
theorem dX6_search_7 : decode cX6_search 7 = .ok (.aload_n 0, 1) := by decide +kernel
theorem dX6_search_8 : decode cX6_search 8 = .ok (.getfield 26, 3) := by decide +kernel
theorem dX6_search_11 : decode cX6_search 11 = .ok (.aload_n 0, 1) := by decide +kernel
theorem dX6_search_12 : decode cX6_search 12 = .ok (.getfield 10, 3) := by decide +kernel
theorem dX6_search_15 : decode cX6_search 15 = .ok (.invokevirtual 59, 3) := by decide +kernel
theorem dX6_search_18 : decode cX6_search 18 = .ok (.aload_n 0, 1) := by decide +kernel
theorem dX6_search_19 : decode cX6_search 19 = .ok (.getfield 10, 3) := by decide +kernel
theorem dX6_search_22 : decode cX6_search 22 = .ok (.dup, 1) := by decide +kernel
theorem dX6_search_23 : decode cX6_search 23 = .ok (.getfield 107, 3) := by decide +kernel
theorem dX6_search_26 : decode cX6_search 26 = .ok (.iconst 1, 1) := by decide +kernel
theorem dX6_search_27 : decode cX6_search 27 = .ok (.iadd, 1) := by decide +kernel
theorem dX6_search_28 : decode cX6_search 28 = .ok (.putfield 107, 3) := by decide +kernel
theorem dX6_search_31 : decode cX6_search 31 = .ok (.aload_n 0, 1) := by decide +kernel
theorem dX6_search_32 : decode cX6_search 32 = .ok (.getfield 10, 3) := by decide +kernel
theorem dX6_search_35 : decode cX6_search 35 = .ok (.dup, 1) := by decide +kernel
theorem dX6_search_36 : decode cX6_search 36 = .ok (.getfield 110, 3) := by decide +kernel
theorem dX6_search_39 : decode cX6_search 39 = .ok (.aload_n 3, 1) := by decide +kernel
theorem dX6_search_40 : decode cX6_search 40 = .ok (.getfield 113, 3) := by decide +kernel
theorem dX6_search_43 : decode cX6_search 43 = .ok (.iadd, 1) := by decide +kernel
theorem dX6_search_44 : decode cX6_search 44 = .ok (.putfield 110, 3) := by decide +kernel
theorem dX6_search_47 : decode cX6_search 47 = .ok (.aload_n 3, 1) := by decide +kernel
theorem dX6_search_48 : decode cX6_search 48 = .ok (.getfield 116, 3) := by decide +kernel
theorem dX6_search_51 : decode cX6_search 51 = .ok (.ireturn, 1) := by decide +kernel
theorem dX6_walkTo_0 : decode cX6_walkTo 0 = .ok (.aload_n 0, 1) := by decide +kernel
theorem dX6_walkTo_1 : decode cX6_walkTo 1 = .ok (.iload_n 1, 1) := by decide +kernel
theorem dX6_walkTo_2 : decode cX6_walkTo 2 = .ok (.invokevirtual 30, 3) := by decide +kernel
theorem dX6_walkTo_5 : decode cX6_walkTo 5 = .ok (.aload_n 0, 1) := by decide +kernel
theorem dX6_walkTo_6 : decode cX6_walkTo 6 = .ok (.iload_n 2, 1) := by decide +kernel
theorem dX6_walkTo_7 : decode cX6_walkTo 7 = .ok (.invokevirtual 119, 3) := by decide +kernel
theorem dX6_walkTo_10 : decode cX6_walkTo 10 = .ok (.aload_n 0, 1) := by decide +kernel
theorem dX6_walkTo_11 : decode cX6_walkTo 11 = .ok (.getfield 19, 3) := by decide +kernel
theorem dX6_walkTo_14 : decode cX6_walkTo 14 = .ok (.aload_n 0, 1) := by decide +kernel
theorem dX6_walkTo_15 : decode cX6_walkTo 15 = .ok (.getfield 10, 3) := by decide +kernel
theorem dX6_walkTo_18 : decode cX6_walkTo 18 = .ok (.iload_n 1, 1) := by decide +kernel
theorem dX6_walkTo_19 : decode cX6_walkTo 19 = .ok (.iload_n 2, 1) := by decide +kernel
theorem dX6_walkTo_20 : decode cX6_walkTo 20 = .ok (.invokevirtual 139, 3) := by decide +kernel
theorem dX6_walkTo_23 : decode cX6_walkTo 23 = .ok (.aload_n 0, 1) := by decide +kernel
theorem dX6_walkTo_24 : decode cX6_walkTo 24 = .ok (.getfield 19, 3) := by decide +kernel
theorem dX6_walkTo_27 : decode cX6_walkTo 27 = .ok (.areturn, 1) := by decide +kernel
theorem dX6_nodes_0 : decode cX6_nodes 0 = .ok (.aload_n 0, 1) := by decide +kernel
theorem dX6_nodes_1 : decode cX6_nodes 1 = .ok (.getfield 10, 3) := by decide +kernel
theorem dX6_nodes_4 : decode cX6_nodes 4 = .ok (.getfield 38, 3) := by decide +kernel
theorem dX6_nodes_7 : decode cX6_nodes 7 = .ok (.ireturn, 1) := by decide +kernel
theorem dX6_node_0 : decode cX6_node 0 = .ok (.aload_n 0, 1) := by decide +kernel
theorem dX6_node_1 : decode cX6_node 1 = .ok (.iload_n 1, 1) := by decide +kernel
theorem dX6_node_2 : decode cX6_node 2 = .ok (.invokevirtual 30, 3) := by decide +kernel
theorem dX6_node_5 : decode cX6_node 5 = .ok (.aload_n 0, 1) := by decide +kernel
theorem dX6_node_6 : decode cX6_node 6 = .ok (.getfield 10, 3) := by decide +kernel
theorem dX6_node_9 : decode cX6_node 9 = .ok (.iload_n 1, 1) := by decide +kernel
theorem dX6_node_10 : decode cX6_node 10 = .ok (.invokevirtual 42, 3) := by decide +kernel
theorem dX6_node_13 : decode cX6_node 13 = .ok (.astore_n 3, 1) := by decide +kernel
theorem dX6_node_14 : decode cX6_node 14 = .ok (.iload_n 2, 1) := by decide +kernel
theorem dX6_node_15 : decode cX6_node 15 = .ok (.tableswitch 103 0 8 #[49, 54, 59, 64, 69, 74, 82, 87, 95], 49) := by decide +kernel
theorem dX6_node_64 : decode cX6_node 64 = .ok (.aload_n 3, 1) := by decide +kernel
theorem dX6_node_65 : decode cX6_node 65 = .ok (.getfield 142, 3) := by decide +kernel
theorem dX6_node_68 : decode cX6_node 68 = .ok (.ireturn, 1) := by decide +kernel
theorem dX6_node_69 : decode cX6_node 69 = .ok (.aload_n 3, 1) := by decide +kernel
theorem dX6_node_70 : decode cX6_node 70 = .ok (.getfield 145, 3) := by decide +kernel
theorem dX6_node_73 : decode cX6_node 73 = .ok (.ireturn, 1) := by decide +kernel
theorem dX6_node_74 : decode cX6_node 74 = .ok (.aload_n 3, 1) := by decide +kernel
theorem dX6_node_75 : decode cX6_node 75 = .ok (.getfield 148, 3) := by decide +kernel
theorem dX6_node_78 : decode cX6_node 78 = .ok (.ireturn, 1) := by decide +kernel
theorem dX6_node_79 : decode cX6_node 79 = .ok (.aload_n 3, 1) := by decide +kernel
theorem dX6_node_80 : decode cX6_node 80 = .ok (.getfield 151, 3) := by decide +kernel
theorem dX6_node_83 : decode cX6_node 83 = .ok (.ireturn, 1) := by decide +kernel
theorem dX6_node_84 : decode cX6_node 84 = .ok (.aload_n 3, 1) := by decide +kernel
theorem dX6_node_85 : decode cX6_node 85 = .ok (.invokevirtual 154, 3) := by decide +kernel
theorem dX6_node_88 : decode cX6_node 88 = .ok (.ireturn, 1) := by decide +kernel
theorem dX6_node_89 : decode cX6_node 89 = .ok (.aload_n 3, 1) := by decide +kernel
theorem dX6_node_90 : decode cX6_node 90 = .ok (.getfield 157, 3) := by decide +kernel
theorem dX6_node_93 : decode cX6_node 93 = .ok (.invokevirtual 161, 3) := by decide +kernel
theorem dX6_node_96 : decode cX6_node 96 = .ok (.ireturn, 1) := by decide +kernel
theorem dX6_node_97 : decode cX6_node 97 = .ok (.aload_n 3, 1) := by decide +kernel
theorem dX6_node_98 : decode cX6_node 98 = .ok (.getfield 165, 3) := by decide +kernel
theorem dX6_node_101 : decode cX6_node 101 = .ok (.ireturn, 1) := by decide +kernel
theorem dX6_node_102 : decode cX6_node 102 = .ok (.aload_n 3, 1) := by decide +kernel
theorem dX6_node_103 : decode cX6_node 103 = .ok (.getfield 168, 3) := by decide +kernel
theorem dX6_node_106 : decode cX6_node 106 = .ok (.invokevirtual 161, 3) := by decide +kernel
theorem dX6_node_109 : decode cX6_node 109 = .ok (.ireturn, 1) := by decide +kernel
theorem dX6_node_110 : decode cX6_node 110 = .ok (.aload_n 3, 1) := by decide +kernel
theorem dX6_node_111 : decode cX6_node 111 = .ok (.getfield 171, 3) := by decide +kernel
theorem dX6_node_114 : decode cX6_node 114 = .ok (.invokevirtual 175, 3) := by decide +kernel
theorem dX6_node_117 : decode cX6_node 117 = .ok (.ireturn, 1) := by decide +kernel
theorem dX6_node_118 : decode cX6_node 118 = .ok (.new 178, 3) := by decide +kernel
theorem dX6_node_121 : decode cX6_node 121 = .ok (.dup, 1) := by decide +kernel
theorem dX6_node_122 : decode cX6_node 122 = .ok (.ldc 180, 2) := by decide +kernel
theorem dX6_node_124 : decode cX6_node 124 = .ok (.invokespecial 182, 3) := by decide +kernel
theorem dX6_node_127 : decode cX6_node 127 = .ok (.athrow, 1) := by decide +kernel
theorem dX6_key_0 : decode cX6_key 0 = .ok (.aload_n 0, 1) := by decide +kernel
theorem dX6_key_1 : decode cX6_key 1 = .ok (.iload_n 1, 1) := by decide +kernel
theorem dX6_key_2 : decode cX6_key 2 = .ok (.invokevirtual 30, 3) := by decide +kernel
theorem dX6_key_5 : decode cX6_key 5 = .ok (.aload_n 0, 1) := by decide +kernel
theorem dX6_key_6 : decode cX6_key 6 = .ok (.iload_n 2, 1) := by decide +kernel
theorem dX6_key_7 : decode cX6_key 7 = .ok (.ifCond .lt 7, 3) := by decide +kernel
theorem dX6_key_10 : decode cX6_key 10 = .ok (.iconst 1, 1) := by decide +kernel
theorem dX6_key_11 : decode cX6_key 11 = .ok (.goto 4, 3) := by decide +kernel
theorem dX6_key_14 : decode cX6_key 14 = .ok (.iconst 0, 1) := by decide +kernel
theorem dX6_key_15 : decode cX6_key 15 = .ok (.invokevirtual 34, 3) := by decide +kernel
theorem dX6_key_18 : decode cX6_key 18 = .ok (.aload_n 0, 1) := by decide +kernel
theorem dX6_key_19 : decode cX6_key 19 = .ok (.getfield 10, 3) := by decide +kernel
theorem dX6_key_22 : decode cX6_key 22 = .ok (.iload_n 1, 1) := by decide +kernel
theorem dX6_key_23 : decode cX6_key 23 = .ok (.invokevirtual 42, 3) := by decide +kernel
theorem dX6_key_26 : decode cX6_key 26 = .ok (.iload_n 2, 1) := by decide +kernel
theorem dX6_key_27 : decode cX6_key 27 = .ok (.invokevirtual 183, 3) := by decide +kernel
theorem dX6_key_30 : decode cX6_key 30 = .ok (.ireturn, 1) := by decide +kernel
theorem dX6_baseKey_0 : decode cX6_baseKey 0 = .ok (.aload_n 0, 1) := by decide +kernel
theorem dX6_baseKey_1 : decode cX6_baseKey 1 = .ok (.iload_n 1, 1) := by decide +kernel
theorem dX6_baseKey_2 : decode cX6_baseKey 2 = .ok (.invokevirtual 30, 3) := by decide +kernel
theorem dX6_baseKey_5 : decode cX6_baseKey 5 = .ok (.aload_n 0, 1) := by decide +kernel
theorem dX6_baseKey_6 : decode cX6_baseKey 6 = .ok (.iload_n 2, 1) := by decide +kernel
theorem dX6_baseKey_7 : decode cX6_baseKey 7 = .ok (.ifCond .lt 7, 3) := by decide +kernel
theorem dX6_baseKey_10 : decode cX6_baseKey 10 = .ok (.iconst 1, 1) := by decide +kernel
theorem dX6_baseKey_11 : decode cX6_baseKey 11 = .ok (.goto 4, 3) := by decide +kernel
theorem dX6_baseKey_14 : decode cX6_baseKey 14 = .ok (.iconst 0, 1) := by decide +kernel
theorem dX6_baseKey_15 : decode cX6_baseKey 15 = .ok (.invokevirtual 34, 3) := by decide +kernel
theorem dX6_baseKey_18 : decode cX6_baseKey 18 = .ok (.aload_n 0, 1) := by decide +kernel
theorem dX6_baseKey_19 : decode cX6_baseKey 19 = .ok (.getfield 10, 3) := by decide +kernel
theorem dX6_baseKey_22 : decode cX6_baseKey 22 = .ok (.iload_n 1, 1) := by decide +kernel
theorem dX6_baseKey_23 : decode cX6_baseKey 23 = .ok (.invokevirtual 42, 3) := by decide +kernel
theorem dX6_baseKey_26 : decode cX6_baseKey 26 = .ok (.astore_n 3, 1) := by decide +kernel
theorem dX6_baseKey_27 : decode cX6_baseKey 27 = .ok (.aload_n 3, 1) := by decide +kernel
theorem dX6_baseKey_28 : decode cX6_baseKey 28 = .ok (.getfield 157, 3) := by decide +kernel
theorem dX6_baseKey_31 : decode cX6_baseKey 31 = .ok (.iload_n 2, 1) := by decide +kernel
theorem dX6_baseKey_32 : decode cX6_baseKey 32 = .ok (.iconst (-1), 1) := by decide +kernel
theorem dX6_baseKey_33 : decode cX6_baseKey 33 = .ok (.invokevirtual 186, 3) := by decide +kernel
theorem dX6_baseKey_36 : decode cX6_baseKey 36 = .ok (.istore 4, 2) := by decide +kernel
theorem dX6_baseKey_38 : decode cX6_baseKey 38 = .ok (.aload_n 3, 1) := by decide +kernel
theorem dX6_baseKey_39 : decode cX6_baseKey 39 = .ok (.iload_n 2, 1) := by decide +kernel
theorem dX6_baseKey_40 : decode cX6_baseKey 40 = .ok (.invokevirtual 188, 3) := by decide +kernel
theorem dX6_baseKey_43 : decode cX6_baseKey 43 = .ok (.ifCond .eq 12, 3) := by decide +kernel
theorem dX6_baseKey_46 : decode cX6_baseKey 46 = .ok (.iload 4, 2) := by decide +kernel
theorem dX6_baseKey_48 : decode cX6_baseKey 48 = .ok (.sipush 10000, 3) := by decide +kernel
theorem dX6_baseKey_51 : decode cX6_baseKey 51 = .ok (.iadd, 1) := by decide +kernel
theorem dX6_baseKey_52 : decode cX6_baseKey 52 = .ok (.goto 5, 3) := by decide +kernel
theorem dX6_baseKey_55 : decode cX6_baseKey 55 = .ok (.iload 4, 2) := by decide +kernel
theorem dX6_baseKey_57 : decode cX6_baseKey 57 = .ok (.ireturn, 1) := by decide +kernel
theorem dX6_bufferKey_0 : decode cX6_bufferKey 0 = .ok (.aload_n 0, 1) := by decide +kernel
theorem dX6_bufferKey_1 : decode cX6_bufferKey 1 = .ok (.iload_n 1, 1) := by decide +kernel
theorem dX6_bufferKey_2 : decode cX6_bufferKey 2 = .ok (.invokevirtual 30, 3) := by decide +kernel
theorem dX6_bufferKey_5 : decode cX6_bufferKey 5 = .ok (.aload_n 0, 1) := by decide +kernel
theorem dX6_bufferKey_6 : decode cX6_bufferKey 6 = .ok (.iload_n 2, 1) := by decide +kernel
theorem dX6_bufferKey_7 : decode cX6_bufferKey 7 = .ok (.ifCond .lt 7, 3) := by decide +kernel
theorem dX6_bufferKey_10 : decode cX6_bufferKey 10 = .ok (.iconst 1, 1) := by decide +kernel
theorem dX6_bufferKey_11 : decode cX6_bufferKey 11 = .ok (.goto 4, 3) := by decide +kernel
theorem dX6_bufferKey_14 : decode cX6_bufferKey 14 = .ok (.iconst 0, 1) := by decide +kernel
theorem dX6_bufferKey_15 : decode cX6_bufferKey 15 = .ok (.invokevirtual 34, 3) := by decide +kernel
theorem dX6_bufferKey_18 : decode cX6_bufferKey 18 = .ok (.aload_n 0, 1) := by decide +kernel
theorem dX6_bufferKey_19 : decode cX6_bufferKey 19 = .ok (.getfield 10, 3) := by decide +kernel
theorem dX6_bufferKey_22 : decode cX6_bufferKey 22 = .ok (.iload_n 1, 1) := by decide +kernel
theorem dX6_bufferKey_23 : decode cX6_bufferKey 23 = .ok (.invokevirtual 42, 3) := by decide +kernel
theorem dX6_bufferKey_26 : decode cX6_bufferKey 26 = .ok (.getfield 168, 3) := by decide +kernel
theorem dX6_bufferKey_29 : decode cX6_bufferKey 29 = .ok (.iload_n 2, 1) := by decide +kernel
theorem dX6_bufferKey_30 : decode cX6_bufferKey 30 = .ok (.iconst (-1), 1) := by decide +kernel
theorem dX6_bufferKey_31 : decode cX6_bufferKey 31 = .ok (.invokevirtual 186, 3) := by decide +kernel
theorem dX6_bufferKey_34 : decode cX6_bufferKey 34 = .ok (.ireturn, 1) := by decide +kernel
theorem dX6_count_0 : decode cX6_count 0 = .ok (.iload_n 1, 1) := by decide +kernel
theorem dX6_count_1 : decode cX6_count 1 = .ok (.tableswitch 99 0 6 #[43, 51, 59, 67, 75, 83, 91], 43) := by decide +kernel
theorem dX6_count_44 : decode cX6_count 44 = .ok (.aload_n 0, 1) := by decide +kernel
theorem dX6_count_45 : decode cX6_count 45 = .ok (.getfield 10, 3) := by decide +kernel
theorem dX6_count_48 : decode cX6_count 48 = .ok (.getfield 107, 3) := by decide +kernel
theorem dX6_count_51 : decode cX6_count 51 = .ok (.ireturn, 1) := by decide +kernel
theorem dX6_count_52 : decode cX6_count 52 = .ok (.aload_n 0, 1) := by decide +kernel
theorem dX6_count_53 : decode cX6_count 53 = .ok (.getfield 10, 3) := by decide +kernel
theorem dX6_count_56 : decode cX6_count 56 = .ok (.getfield 110, 3) := by decide +kernel
theorem dX6_count_59 : decode cX6_count 59 = .ok (.ireturn, 1) := by decide +kernel
theorem dX6_count_60 : decode cX6_count 60 = .ok (.aload_n 0, 1) := by decide +kernel
theorem dX6_count_61 : decode cX6_count 61 = .ok (.getfield 10, 3) := by decide +kernel
theorem dX6_count_64 : decode cX6_count 64 = .ok (.getfield 200, 3) := by decide +kernel
theorem dX6_count_67 : decode cX6_count 67 = .ok (.ireturn, 1) := by decide +kernel
theorem dX6_count_68 : decode cX6_count 68 = .ok (.aload_n 0, 1) := by decide +kernel
theorem dX6_count_69 : decode cX6_count 69 = .ok (.getfield 10, 3) := by decide +kernel
theorem dX6_count_72 : decode cX6_count 72 = .ok (.getfield 203, 3) := by decide +kernel
theorem dX6_count_75 : decode cX6_count 75 = .ok (.ireturn, 1) := by decide +kernel
theorem dX6_count_76 : decode cX6_count 76 = .ok (.aload_n 0, 1) := by decide +kernel
theorem dX6_count_77 : decode cX6_count 77 = .ok (.getfield 10, 3) := by decide +kernel
theorem dX6_count_80 : decode cX6_count 80 = .ok (.getfield 206, 3) := by decide +kernel
theorem dX6_count_83 : decode cX6_count 83 = .ok (.ireturn, 1) := by decide +kernel
theorem dX6_count_84 : decode cX6_count 84 = .ok (.aload_n 0, 1) := by decide +kernel
theorem dX6_count_85 : decode cX6_count 85 = .ok (.getfield 10, 3) := by decide +kernel
theorem dX6_count_88 : decode cX6_count 88 = .ok (.invokevirtual 209, 3) := by decide +kernel
theorem dX6_count_91 : decode cX6_count 91 = .ok (.ireturn, 1) := by decide +kernel
theorem dX6_count_92 : decode cX6_count 92 = .ok (.aload_n 0, 1) := by decide +kernel
theorem dX6_count_93 : decode cX6_count 93 = .ok (.getfield 10, 3) := by decide +kernel
theorem dX6_count_96 : decode cX6_count 96 = .ok (.invokevirtual 99, 3) := by decide +kernel
theorem dX6_count_99 : decode cX6_count 99 = .ok (.ireturn, 1) := by decide +kernel
theorem dX6_count_100 : decode cX6_count 100 = .ok (.new 178, 3) := by decide +kernel
theorem dX6_count_103 : decode cX6_count 103 = .ok (.dup, 1) := by decide +kernel
theorem dX6_count_104 : decode cX6_count 104 = .ok (.ldc 212, 2) := by decide +kernel
theorem dX6_count_106 : decode cX6_count 106 = .ok (.invokespecial 182, 3) := by decide +kernel
theorem dX6_count_109 : decode cX6_count 109 = .ok (.athrow, 1) := by decide +kernel
theorem dX6_requireNode_0 : decode cX6_requireNode 0 = .ok (.iload_n 1, 1) := by decide +kernel
theorem dX6_requireNode_1 : decode cX6_requireNode 1 = .ok (.ifCond .lt 14, 3) := by decide +kernel
theorem dX6_requireNode_4 : decode cX6_requireNode 4 = .ok (.iload_n 1, 1) := by decide +kernel
theorem dX6_requireNode_5 : decode cX6_requireNode 5 = .ok (.aload_n 0, 1) := by decide +kernel
theorem dX6_requireNode_6 : decode cX6_requireNode 6 = .ok (.getfield 10, 3) := by decide +kernel
theorem dX6_requireNode_9 : decode cX6_requireNode 9 = .ok (.getfield 38, 3) := by decide +kernel
theorem dX6_requireNode_12 : decode cX6_requireNode 12 = .ok (.if_icmp .lt 13, 3) := by decide +kernel
theorem dX6_requireNode_15 : decode cX6_requireNode 15 = .ok (.new 247, 3) := by decide +kernel
theorem dX6_requireNode_18 : decode cX6_requireNode 18 = .ok (.dup, 1) := by decide +kernel
theorem dX6_requireNode_19 : decode cX6_requireNode 19 = .ok (.ldc 249, 2) := by decide +kernel
theorem dX6_requireNode_21 : decode cX6_requireNode 21 = .ok (.invokespecial 251, 3) := by decide +kernel
theorem dX6_requireNode_24 : decode cX6_requireNode 24 = .ok (.athrow, 1) := by decide +kernel
theorem dX6_requireNode_25 : decode cX6_requireNode 25 = .ok (.return_, 1) := by decide +kernel
theorem dX6_requireKey_0 : decode cX6_requireKey 0 = .ok (.aload_n 0, 1) := by decide +kernel
theorem dX6_requireKey_1 : decode cX6_requireKey 1 = .ok (.iload_n 1, 1) := by decide +kernel
theorem dX6_requireKey_2 : decode cX6_requireKey 2 = .ok (.ifCond .lt 14, 3) := by decide +kernel
theorem dX6_requireKey_5 : decode cX6_requireKey 5 = .ok (.iload_n 1, 1) := by decide +kernel
theorem dX6_requireKey_6 : decode cX6_requireKey 6 = .ok (.sipush 10000, 3) := by decide +kernel
theorem dX6_requireKey_9 : decode cX6_requireKey 9 = .ok (.if_icmp .ge 7, 3) := by decide +kernel
theorem dX6_requireKey_12 : decode cX6_requireKey 12 = .ok (.iconst 1, 1) := by decide +kernel
theorem dX6_requireKey_13 : decode cX6_requireKey 13 = .ok (.goto 4, 3) := by decide +kernel
theorem dX6_requireKey_16 : decode cX6_requireKey 16 = .ok (.iconst 0, 1) := by decide +kernel
theorem dX6_requireKey_17 : decode cX6_requireKey 17 = .ok (.invokevirtual 34, 3) := by decide +kernel
theorem dX6_requireKey_20 : decode cX6_requireKey 20 = .ok (.return_, 1) := by decide +kernel
theorem dX6_requireGoal_0 : decode cX6_requireGoal 0 = .ok (.aload_n 0, 1) := by decide +kernel
theorem dX6_requireGoal_1 : decode cX6_requireGoal 1 = .ok (.iload_n 1, 1) := by decide +kernel
theorem dX6_requireGoal_2 : decode cX6_requireGoal 2 = .ok (.ifCond .lt 14, 3) := by decide +kernel
theorem dX6_requireGoal_5 : decode cX6_requireGoal 5 = .ok (.iload_n 1, 1) := by decide +kernel
theorem dX6_requireGoal_6 : decode cX6_requireGoal 6 = .ok (.sipush 10000, 3) := by decide +kernel
theorem dX6_requireGoal_9 : decode cX6_requireGoal 9 = .ok (.if_icmp .gt 7, 3) := by decide +kernel
theorem dX6_requireGoal_12 : decode cX6_requireGoal 12 = .ok (.iconst 1, 1) := by decide +kernel
theorem dX6_requireGoal_13 : decode cX6_requireGoal 13 = .ok (.goto 4, 3) := by decide +kernel
theorem dX6_requireGoal_16 : decode cX6_requireGoal 16 = .ok (.iconst 0, 1) := by decide +kernel
theorem dX6_requireGoal_17 : decode cX6_requireGoal 17 = .ok (.invokevirtual 34, 3) := by decide +kernel
theorem dX6_requireGoal_20 : decode cX6_requireGoal 20 = .ok (.return_, 1) := by decide +kernel
theorem dX6_require_0 : decode cX6_require 0 = .ok (.iload_n 1, 1) := by decide +kernel
theorem dX6_require_1 : decode cX6_require 1 = .ok (.ifCond .ne 13, 3) := by decide +kernel
theorem dX6_require_4 : decode cX6_require 4 = .ok (.new 178, 3) := by decide +kernel
theorem dX6_require_7 : decode cX6_require 7 = .ok (.dup, 1) := by decide +kernel
theorem dX6_require_8 : decode cX6_require 8 = .ok (.ldc 252, 2) := by decide +kernel
theorem dX6_require_10 : decode cX6_require 10 = .ok (.invokespecial 182, 3) := by decide +kernel
theorem dX6_require_13 : decode cX6_require 13 = .ok (.athrow, 1) := by decide +kernel
theorem dX6_require_14 : decode cX6_require 14 = .ok (.return_, 1) := by decide +kernel
