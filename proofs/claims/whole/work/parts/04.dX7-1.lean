theorem dX7_comes_67 : decode cX7_comes 67 = .ok (.iaload, 1) := by decide +kernel
theorem dX7_comes_68 : decode cX7_comes 68 = .ok (.if_icmp .lt 10, 3) := by decide +kernel
theorem dX7_comes_71 : decode cX7_comes 71 = .ok (.aload_n 0, 1) := by decide +kernel
theorem dX7_comes_72 : decode cX7_comes 72 = .ok (.iload_n 1, 1) := by decide +kernel
theorem dX7_comes_73 : decode cX7_comes 73 = .ok (.invokevirtual 93, 3) := by decide +kernel
theorem dX7_comes_76 : decode cX7_comes 76 = .ok (.istore 4, 2) := by decide +kernel
theorem dX7_comes_78 : decode cX7_comes 78 = .ok (.return_, 1) := by decide +kernel
theorem dX7_add_0 : decode cX7_add 0 = .ok (.aload_n 0, 1) := by decide +kernel
theorem dX7_add_1 : decode cX7_add 1 = .ok (.iload_n 1, 1) := by decide +kernel
theorem dX7_add_2 : decode cX7_add 2 = .ok (.invokevirtual 80, 3) := by decide +kernel
theorem dX7_add_5 : decode cX7_add 5 = .ok (.ifCond .ne 17, 3) := by decide +kernel
theorem dX7_add_8 : decode cX7_add 8 = .ok (.aload_n 0, 1) := by decide +kernel
theorem dX7_add_9 : decode cX7_add 9 = .ok (.iconst 1, 1) := by decide +kernel
theorem dX7_add_10 : decode cX7_add 10 = .ok (.invokevirtual 84, 3) := by decide +kernel
theorem dX7_add_13 : decode cX7_add 13 = .ok (.ifCond .eq 7, 3) := by decide +kernel
theorem dX7_add_16 : decode cX7_add 16 = .ok (.iconst 1, 1) := by decide +kernel
theorem dX7_add_17 : decode cX7_add 17 = .ok (.goto 4, 3) := by decide +kernel
theorem dX7_add_20 : decode cX7_add 20 = .ok (.iconst 0, 1) := by decide +kernel
theorem dX7_add_21 : decode cX7_add 21 = .ok (.ireturn, 1) := by decide +kernel
theorem dX7_add_22 : decode cX7_add 22 = .ok (.iload_n 2, 1) := by decide +kernel
theorem dX7_add_23 : decode cX7_add 23 = .ok (.invokestatic 96, 3) := by decide +kernel
theorem dX7_add_26 : decode cX7_add 26 = .ok (.ifCond .ne 17, 3) := by decide +kernel
theorem dX7_add_29 : decode cX7_add 29 = .ok (.aload_n 0, 1) := by decide +kernel
theorem dX7_add_30 : decode cX7_add 30 = .ok (.iconst 2, 1) := by decide +kernel
theorem dX7_add_31 : decode cX7_add 31 = .ok (.invokevirtual 84, 3) := by decide +kernel
theorem dX7_add_34 : decode cX7_add 34 = .ok (.ifCond .eq 7, 3) := by decide +kernel
theorem dX7_add_37 : decode cX7_add 37 = .ok (.iconst 1, 1) := by decide +kernel
theorem dX7_add_38 : decode cX7_add 38 = .ok (.goto 4, 3) := by decide +kernel
theorem dX7_add_41 : decode cX7_add 41 = .ok (.iconst 0, 1) := by decide +kernel
theorem dX7_add_42 : decode cX7_add 42 = .ok (.ireturn, 1) := by decide +kernel
theorem dX7_add_43 : decode cX7_add 43 = .ok (.aload_n 0, 1) := by decide +kernel
theorem dX7_add_44 : decode cX7_add 44 = .ok (.iload_n 1, 1) := by decide +kernel
theorem dX7_add_45 : decode cX7_add 45 = .ok (.iload_n 2, 1) := by decide +kernel
theorem dX7_add_46 : decode cX7_add 46 = .ok (.invokevirtual 99, 3) := by decide +kernel
theorem dX7_add_49 : decode cX7_add 49 = .ok (.istore_n 3, 1) := by decide +kernel
theorem dX7_add_50 : decode cX7_add 50 = .ok (.iload_n 3, 1) := by decide +kernel
theorem dX7_add_51 : decode cX7_add 51 = .ok (.ifCond .ne 27, 3) := by decide +kernel
theorem dX7_add_54 : decode cX7_add 54 = .ok (.aload_n 0, 1) := by decide +kernel
theorem dX7_add_55 : decode cX7_add 55 = .ok (.iload_n 1, 1) := by decide +kernel
theorem dX7_add_56 : decode cX7_add 56 = .ok (.invokevirtual 103, 3) := by decide +kernel
theorem dX7_add_59 : decode cX7_add 59 = .ok (.bipush 24, 2) := by decide +kernel
theorem dX7_add_61 : decode cX7_add 61 = .ok (.if_icmp .ne 17, 3) := by decide +kernel
theorem dX7_add_64 : decode cX7_add 64 = .ok (.aload_n 0, 1) := by decide +kernel
theorem dX7_add_65 : decode cX7_add 65 = .ok (.iconst 3, 1) := by decide +kernel
theorem dX7_add_66 : decode cX7_add 66 = .ok (.invokevirtual 84, 3) := by decide +kernel
theorem dX7_add_69 : decode cX7_add 69 = .ok (.ifCond .eq 7, 3) := by decide +kernel
theorem dX7_add_72 : decode cX7_add 72 = .ok (.iconst 1, 1) := by decide +kernel
theorem dX7_add_73 : decode cX7_add 73 = .ok (.goto 4, 3) := by decide +kernel
theorem dX7_add_76 : decode cX7_add 76 = .ok (.iconst 0, 1) := by decide +kernel
theorem dX7_add_77 : decode cX7_add 77 = .ok (.ireturn, 1) := by decide +kernel
theorem dX7_add_78 : decode cX7_add 78 = .ok (.aload_n 0, 1) := by decide +kernel
theorem dX7_add_79 : decode cX7_add 79 = .ok (.invokevirtual 87, 3) := by decide +kernel
theorem dX7_add_82 : decode cX7_add 82 = .ok (.iload_n 3, 1) := by decide +kernel
theorem dX7_add_83 : decode cX7_add 83 = .ok (.ifCond .ne 9, 3) := by decide +kernel
theorem dX7_add_86 : decode cX7_add 86 = .ok (.aload_n 0, 1) := by decide +kernel
theorem dX7_add_87 : decode cX7_add 87 = .ok (.iload_n 1, 1) := by decide +kernel
theorem dX7_add_88 : decode cX7_add 88 = .ok (.iload_n 2, 1) := by decide +kernel
theorem dX7_add_89 : decode cX7_add 89 = .ok (.invokevirtual 106, 3) := by decide +kernel
theorem dX7_add_92 : decode cX7_add 92 = .ok (.aload_n 0, 1) := by decide +kernel
theorem dX7_add_93 : decode cX7_add 93 = .ok (.iload_n 3, 1) := by decide +kernel
theorem dX7_add_94 : decode cX7_add 94 = .ok (.ifCond .eq 7, 3) := by decide +kernel
theorem dX7_add_97 : decode cX7_add 97 = .ok (.iconst 0, 1) := by decide +kernel
theorem dX7_add_98 : decode cX7_add 98 = .ok (.goto 4, 3) := by decide +kernel
theorem dX7_add_101 : decode cX7_add 101 = .ok (.iconst 1, 1) := by decide +kernel
theorem dX7_add_102 : decode cX7_add 102 = .ok (.invokevirtual 90, 3) := by decide +kernel
theorem dX7_add_105 : decode cX7_add 105 = .ok (.iconst 1, 1) := by decide +kernel
theorem dX7_add_106 : decode cX7_add 106 = .ok (.if_icmp .ne 7, 3) := by decide +kernel
theorem dX7_add_109 : decode cX7_add 109 = .ok (.iconst 1, 1) := by decide +kernel
theorem dX7_add_110 : decode cX7_add 110 = .ok (.goto 4, 3) := by decide +kernel
theorem dX7_add_113 : decode cX7_add 113 = .ok (.iconst 0, 1) := by decide +kernel
theorem dX7_add_114 : decode cX7_add 114 = .ok (.ireturn, 1) := by decide +kernel
theorem dX7_goes_0 : decode cX7_goes 0 = .ok (.aload_n 0, 1) := by decide +kernel
theorem dX7_goes_1 : decode cX7_goes 1 = .ok (.iload_n 1, 1) := by decide +kernel
theorem dX7_goes_2 : decode cX7_goes 2 = .ok (.iload_n 2, 1) := by decide +kernel
theorem dX7_goes_3 : decode cX7_goes 3 = .ok (.invokevirtual 56, 3) := by decide +kernel
theorem dX7_goes_6 : decode cX7_goes 6 = .ok (.istore_n 3, 1) := by decide +kernel
theorem dX7_goes_7 : decode cX7_goes 7 = .ok (.iload_n 3, 1) := by decide +kernel
theorem dX7_goes_8 : decode cX7_goes 8 = .ok (.iconst (-1), 1) := by decide +kernel
theorem dX7_goes_9 : decode cX7_goes 9 = .ok (.if_icmp .ne 42, 3) := by decide +kernel
theorem dX7_goes_12 : decode cX7_goes 12 = .ok (.aload_n 0, 1) := by decide +kernel
theorem dX7_goes_13 : decode cX7_goes 13 = .ok (.iload_n 1, 1) := by decide +kernel
theorem dX7_goes_14 : decode cX7_goes 14 = .ok (.bipush 28, 2) := by decide +kernel
theorem dX7_goes_16 : decode cX7_goes 16 = .ok (.aload_n 0, 1) := by decide +kernel
theorem dX7_goes_17 : decode cX7_goes 17 = .ok (.iload_n 1, 1) := by decide +kernel
theorem dX7_goes_18 : decode cX7_goes 18 = .ok (.iload_n 2, 1) := by decide +kernel
theorem dX7_goes_19 : decode cX7_goes 19 = .ok (.invokevirtual 53, 3) := by decide +kernel
theorem dX7_goes_22 : decode cX7_goes 22 = .ok (.iadd, 1) := by decide +kernel
theorem dX7_goes_23 : decode cX7_goes 23 = .ok (.iconst 1, 1) := by decide +kernel
theorem dX7_goes_24 : decode cX7_goes 24 = .ok (.invokevirtual 59, 3) := by decide +kernel
theorem dX7_goes_27 : decode cX7_goes 27 = .ok (.iconst 2, 1) := by decide +kernel
theorem dX7_goes_28 : decode cX7_goes 28 = .ok (.aload_n 0, 1) := by decide +kernel
theorem dX7_goes_29 : decode cX7_goes 29 = .ok (.iload_n 1, 1) := by decide +kernel
theorem dX7_goes_30 : decode cX7_goes 30 = .ok (.invokevirtual 50, 3) := by decide +kernel
theorem dX7_goes_33 : decode cX7_goes 33 = .ok (.imul, 1) := by decide +kernel
theorem dX7_goes_34 : decode cX7_goes 34 = .ok (.aload_n 0, 1) := by decide +kernel
theorem dX7_goes_35 : decode cX7_goes 35 = .ok (.iload_n 1, 1) := by decide +kernel
theorem dX7_goes_36 : decode cX7_goes 36 = .ok (.iconst 3, 1) := by decide +kernel
theorem dX7_goes_37 : decode cX7_goes 37 = .ok (.invokevirtual 46, 3) := by decide +kernel
theorem dX7_goes_40 : decode cX7_goes 40 = .ok (.if_icmp .le 10, 3) := by decide +kernel
theorem dX7_goes_43 : decode cX7_goes 43 = .ok (.aload_n 0, 1) := by decide +kernel
theorem dX7_goes_44 : decode cX7_goes 44 = .ok (.iload_n 1, 1) := by decide +kernel
theorem dX7_goes_45 : decode cX7_goes 45 = .ok (.invokevirtual 93, 3) := by decide +kernel
theorem dX7_goes_48 : decode cX7_goes 48 = .ok (.istore 4, 2) := by decide +kernel
theorem dX7_goes_50 : decode cX7_goes 50 = .ok (.return_, 1) := by decide +kernel
theorem dX7_goes_51 : decode cX7_goes 51 = .ok (.aload_n 0, 1) := by decide +kernel
theorem dX7_goes_52 : decode cX7_goes 52 = .ok (.iload_n 1, 1) := by decide +kernel
theorem dX7_goes_53 : decode cX7_goes 53 = .ok (.bipush 52, 2) := by decide +kernel
theorem dX7_goes_55 : decode cX7_goes 55 = .ok (.aload_n 0, 1) := by decide +kernel
theorem dX7_goes_56 : decode cX7_goes 56 = .ok (.iload_n 1, 1) := by decide +kernel
theorem dX7_goes_57 : decode cX7_goes 57 = .ok (.bipush 52, 2) := by decide +kernel
theorem dX7_goes_59 : decode cX7_goes 59 = .ok (.invokevirtual 46, 3) := by decide +kernel
theorem dX7_goes_62 : decode cX7_goes 62 = .ok (.iconst 1, 1) := by decide +kernel
theorem dX7_goes_63 : decode cX7_goes 63 = .ok (.isub, 1) := by decide +kernel
theorem dX7_goes_64 : decode cX7_goes 64 = .ok (.invokevirtual 59, 3) := by decide +kernel
theorem dX7_goes_67 : decode cX7_goes 67 = .ok (.iload_n 3, 1) := by decide +kernel
theorem dX7_goes_68 : decode cX7_goes 68 = .ok (.istore 4, 2) := by decide +kernel
theorem dX7_goes_70 : decode cX7_goes 70 = .ok (.iload 4, 2) := by decide +kernel
theorem dX7_goes_72 : decode cX7_goes 72 = .ok (.aload_n 0, 1) := by decide +kernel
theorem dX7_goes_73 : decode cX7_goes 73 = .ok (.iload_n 1, 1) := by decide +kernel
theorem dX7_goes_74 : decode cX7_goes 74 = .ok (.bipush 52, 2) := by decide +kernel
theorem dX7_goes_76 : decode cX7_goes 76 = .ok (.invokevirtual 46, 3) := by decide +kernel
theorem dX7_goes_79 : decode cX7_goes 79 = .ok (.if_icmp .ge 31, 3) := by decide +kernel
theorem dX7_goes_82 : decode cX7_goes 82 = .ok (.aload_n 0, 1) := by decide +kernel
theorem dX7_goes_83 : decode cX7_goes 83 = .ok (.iload_n 1, 1) := by decide +kernel
theorem dX7_goes_84 : decode cX7_goes 84 = .ok (.bipush 53, 2) := by decide +kernel
theorem dX7_goes_86 : decode cX7_goes 86 = .ok (.iload 4, 2) := by decide +kernel
theorem dX7_goes_88 : decode cX7_goes 88 = .ok (.iadd, 1) := by decide +kernel
theorem dX7_goes_89 : decode cX7_goes 89 = .ok (.aload_n 0, 1) := by decide +kernel
theorem dX7_goes_90 : decode cX7_goes 90 = .ok (.iload_n 1, 1) := by decide +kernel
theorem dX7_goes_91 : decode cX7_goes 91 = .ok (.bipush 53, 2) := by decide +kernel
theorem dX7_goes_93 : decode cX7_goes 93 = .ok (.iload 4, 2) := by decide +kernel
theorem dX7_goes_95 : decode cX7_goes 95 = .ok (.iadd, 1) := by decide +kernel
theorem dX7_goes_96 : decode cX7_goes 96 = .ok (.iconst 1, 1) := by decide +kernel
theorem dX7_goes_97 : decode cX7_goes 97 = .ok (.iadd, 1) := by decide +kernel
theorem dX7_goes_98 : decode cX7_goes 98 = .ok (.invokevirtual 46, 3) := by decide +kernel
theorem dX7_goes_101 : decode cX7_goes 101 = .ok (.invokevirtual 59, 3) := by decide +kernel
theorem dX7_goes_104 : decode cX7_goes 104 = .ok (.iinc 4 1, 3) := by decide +kernel
theorem dX7_goes_107 : decode cX7_goes 107 = .ok (.goto (-37), 3) := by decide +kernel
theorem dX7_goes_110 : decode cX7_goes 110 = .ok (.return_, 1) := by decide +kernel
theorem dX7_remove_0 : decode cX7_remove 0 = .ok (.aload_n 0, 1) := by decide +kernel
theorem dX7_remove_1 : decode cX7_remove 1 = .ok (.iload_n 1, 1) := by decide +kernel
theorem dX7_remove_2 : decode cX7_remove 2 = .ok (.invokevirtual 80, 3) := by decide +kernel
theorem dX7_remove_5 : decode cX7_remove 5 = .ok (.ifCond .ne 17, 3) := by decide +kernel
theorem dX7_remove_8 : decode cX7_remove 8 = .ok (.aload_n 0, 1) := by decide +kernel
theorem dX7_remove_9 : decode cX7_remove 9 = .ok (.iconst 1, 1) := by decide +kernel
theorem dX7_remove_10 : decode cX7_remove 10 = .ok (.invokevirtual 84, 3) := by decide +kernel
theorem dX7_remove_13 : decode cX7_remove 13 = .ok (.ifCond .eq 7, 3) := by decide +kernel
theorem dX7_remove_16 : decode cX7_remove 16 = .ok (.iconst 1, 1) := by decide +kernel
theorem dX7_remove_17 : decode cX7_remove 17 = .ok (.goto 4, 3) := by decide +kernel
theorem dX7_remove_20 : decode cX7_remove 20 = .ok (.iconst 0, 1) := by decide +kernel
theorem dX7_remove_21 : decode cX7_remove 21 = .ok (.ireturn, 1) := by decide +kernel
theorem dX7_remove_22 : decode cX7_remove 22 = .ok (.iload_n 2, 1) := by decide +kernel
theorem dX7_remove_23 : decode cX7_remove 23 = .ok (.invokestatic 96, 3) := by decide +kernel
theorem dX7_remove_26 : decode cX7_remove 26 = .ok (.ifCond .ne 17, 3) := by decide +kernel
theorem dX7_remove_29 : decode cX7_remove 29 = .ok (.aload_n 0, 1) := by decide +kernel
theorem dX7_remove_30 : decode cX7_remove 30 = .ok (.iconst 2, 1) := by decide +kernel
theorem dX7_remove_31 : decode cX7_remove 31 = .ok (.invokevirtual 84, 3) := by decide +kernel
theorem dX7_remove_34 : decode cX7_remove 34 = .ok (.ifCond .eq 7, 3) := by decide +kernel
theorem dX7_remove_37 : decode cX7_remove 37 = .ok (.iconst 1, 1) := by decide +kernel
theorem dX7_remove_38 : decode cX7_remove 38 = .ok (.goto 4, 3) := by decide +kernel
theorem dX7_remove_41 : decode cX7_remove 41 = .ok (.iconst 0, 1) := by decide +kernel
theorem dX7_remove_42 : decode cX7_remove 42 = .ok (.ireturn, 1) := by decide +kernel
theorem dX7_remove_43 : decode cX7_remove 43 = .ok (.aload_n 0, 1) := by decide +kernel
theorem dX7_remove_44 : decode cX7_remove 44 = .ok (.invokevirtual 87, 3) := by decide +kernel
theorem dX7_remove_47 : decode cX7_remove 47 = .ok (.aload_n 0, 1) := by decide +kernel
theorem dX7_remove_48 : decode cX7_remove 48 = .ok (.iload_n 1, 1) := by decide +kernel
theorem dX7_remove_49 : decode cX7_remove 49 = .ok (.iload_n 2, 1) := by decide +kernel
theorem dX7_remove_50 : decode cX7_remove 50 = .ok (.invokevirtual 99, 3) := by decide +kernel
theorem dX7_remove_53 : decode cX7_remove 53 = .ok (.istore_n 3, 1) := by decide +kernel
theorem dX7_remove_54 : decode cX7_remove 54 = .ok (.iload_n 3, 1) := by decide +kernel
theorem dX7_remove_55 : decode cX7_remove 55 = .ok (.ifCond .eq 9, 3) := by decide +kernel
theorem dX7_remove_58 : decode cX7_remove 58 = .ok (.aload_n 0, 1) := by decide +kernel
theorem dX7_remove_59 : decode cX7_remove 59 = .ok (.iload_n 1, 1) := by decide +kernel
theorem dX7_remove_60 : decode cX7_remove 60 = .ok (.iload_n 2, 1) := by decide +kernel
theorem dX7_remove_61 : decode cX7_remove 61 = .ok (.invokevirtual 110, 3) := by decide +kernel
theorem dX7_remove_64 : decode cX7_remove 64 = .ok (.aload_n 0, 1) := by decide +kernel
theorem dX7_remove_65 : decode cX7_remove 65 = .ok (.iload_n 3, 1) := by decide +kernel
theorem dX7_remove_66 : decode cX7_remove 66 = .ok (.ifCond .eq 7, 3) := by decide +kernel
theorem dX7_remove_69 : decode cX7_remove 69 = .ok (.iconst 1, 1) := by decide +kernel
theorem dX7_remove_70 : decode cX7_remove 70 = .ok (.goto 4, 3) := by decide +kernel
theorem dX7_remove_73 : decode cX7_remove 73 = .ok (.iconst 0, 1) := by decide +kernel
theorem dX7_remove_74 : decode cX7_remove 74 = .ok (.invokevirtual 90, 3) := by decide +kernel
theorem dX7_remove_77 : decode cX7_remove 77 = .ok (.iconst 1, 1) := by decide +kernel
theorem dX7_remove_78 : decode cX7_remove 78 = .ok (.if_icmp .ne 7, 3) := by decide +kernel
theorem dX7_remove_81 : decode cX7_remove 81 = .ok (.iconst 1, 1) := by decide +kernel
theorem dX7_remove_82 : decode cX7_remove 82 = .ok (.goto 4, 3) := by decide +kernel
theorem dX7_remove_85 : decode cX7_remove 85 = .ok (.iconst 0, 1) := by decide +kernel
theorem dX7_remove_86 : decode cX7_remove 86 = .ok (.ireturn, 1) := by decide +kernel
theorem dX7_addSeries_0 : decode cX7_addSeries 0 = .ok (.aload_n 0, 1) := by decide +kernel
theorem dX7_addSeries_1 : decode cX7_addSeries 1 = .ok (.iload_n 1, 1) := by decide +kernel
theorem dX7_addSeries_2 : decode cX7_addSeries 2 = .ok (.invokevirtual 80, 3) := by decide +kernel
theorem dX7_addSeries_5 : decode cX7_addSeries 5 = .ok (.ifCond .ne 9, 3) := by decide +kernel
theorem dX7_addSeries_8 : decode cX7_addSeries 8 = .ok (.aload_n 0, 1) := by decide +kernel
theorem dX7_addSeries_9 : decode cX7_addSeries 9 = .ok (.iconst 1, 1) := by decide +kernel
theorem dX7_addSeries_10 : decode cX7_addSeries 10 = .ok (.invokevirtual 84, 3) := by decide +kernel
theorem dX7_addSeries_13 : decode cX7_addSeries 13 = .ok (.ireturn, 1) := by decide +kernel
theorem dX7_addSeries_14 : decode cX7_addSeries 14 = .ok (.iload_n 2, 1) := by decide +kernel
theorem dX7_addSeries_15 : decode cX7_addSeries 15 = .ok (.invokestatic 96, 3) := by decide +kernel
theorem dX7_addSeries_18 : decode cX7_addSeries 18 = .ok (.ifCond .eq 25, 3) := by decide +kernel
theorem dX7_addSeries_21 : decode cX7_addSeries 21 = .ok (.iload_n 3, 1) := by decide +kernel
theorem dX7_addSeries_22 : decode cX7_addSeries 22 = .ok (.iconst 1, 1) := by decide +kernel
theorem dX7_addSeries_23 : decode cX7_addSeries 23 = .ok (.sipush 999, 3) := by decide +kernel
theorem dX7_addSeries_26 : decode cX7_addSeries 26 = .ok (.invokestatic 42, 3) := by decide +kernel
theorem dX7_addSeries_29 : decode cX7_addSeries 29 = .ok (.ifCond .eq 14, 3) := by decide +kernel
theorem dX7_addSeries_32 : decode cX7_addSeries 32 = .ok (.iload 4, 2) := by decide +kernel
theorem dX7_addSeries_34 : decode cX7_addSeries 34 = .ok (.iconst 1, 1) := by decide +kernel
theorem dX7_addSeries_35 : decode cX7_addSeries 35 = .ok (.bipush 24, 2) := by decide +kernel
theorem dX7_addSeries_37 : decode cX7_addSeries 37 = .ok (.invokestatic 42, 3) := by decide +kernel
theorem dX7_addSeries_40 : decode cX7_addSeries 40 = .ok (.ifCond .ne 9, 3) := by decide +kernel
theorem dX7_addSeries_43 : decode cX7_addSeries 43 = .ok (.aload_n 0, 1) := by decide +kernel
theorem dX7_addSeries_44 : decode cX7_addSeries 44 = .ok (.iconst 2, 1) := by decide +kernel
theorem dX7_addSeries_45 : decode cX7_addSeries 45 = .ok (.invokevirtual 84, 3) := by decide +kernel
theorem dX7_addSeries_48 : decode cX7_addSeries 48 = .ok (.ireturn, 1) := by decide +kernel
theorem dX7_addSeries_49 : decode cX7_addSeries 49 = .ok (.aload_n 0, 1) := by decide +kernel
theorem dX7_addSeries_50 : decode cX7_addSeries 50 = .ok (.invokevirtual 87, 3) := by decide +kernel
theorem dX7_addSeries_53 : decode cX7_addSeries 53 = .ok (.iconst 0, 1) := by decide +kernel
theorem dX7_addSeries_54 : decode cX7_addSeries 54 = .ok (.istore 5, 2) := by decide +kernel
theorem dX7_addSeries_56 : decode cX7_addSeries 56 = .ok (.iconst 0, 1) := by decide +kernel
theorem dX7_addSeries_57 : decode cX7_addSeries 57 = .ok (.istore 6, 2) := by decide +kernel
theorem dX7_addSeries_59 : decode cX7_addSeries 59 = .ok (.iload 6, 2) := by decide +kernel
theorem dX7_addSeries_61 : decode cX7_addSeries 61 = .ok (.iload 4, 2) := by decide +kernel
theorem dX7_addSeries_63 : decode cX7_addSeries 63 = .ok (.if_icmp .ge 59, 3) := by decide +kernel
theorem dX7_addSeries_66 : decode cX7_addSeries 66 = .ok (.iload_n 2, 1) := by decide +kernel
theorem dX7_addSeries_67 : decode cX7_addSeries 67 = .ok (.iload 6, 2) := by decide +kernel
theorem dX7_addSeries_69 : decode cX7_addSeries 69 = .ok (.iload_n 3, 1) := by decide +kernel
theorem dX7_addSeries_70 : decode cX7_addSeries 70 = .ok (.imul, 1) := by decide +kernel
theorem dX7_addSeries_71 : decode cX7_addSeries 71 = .ok (.iadd, 1) := by decide +kernel
theorem dX7_addSeries_72 : decode cX7_addSeries 72 = .ok (.sipush 9999, 3) := by decide +kernel
theorem dX7_addSeries_75 : decode cX7_addSeries 75 = .ok (.if_icmp .gt 47, 3) := by decide +kernel
theorem dX7_addSeries_78 : decode cX7_addSeries 78 = .ok (.aload_n 0, 1) := by decide +kernel
theorem dX7_addSeries_79 : decode cX7_addSeries 79 = .ok (.iload_n 1, 1) := by decide +kernel
theorem dX7_addSeries_80 : decode cX7_addSeries 80 = .ok (.invokevirtual 103, 3) := by decide +kernel
theorem dX7_addSeries_83 : decode cX7_addSeries 83 = .ok (.bipush 24, 2) := by decide +kernel
theorem dX7_addSeries_85 : decode cX7_addSeries 85 = .ok (.if_icmp .ge 37, 3) := by decide +kernel
theorem dX7_addSeries_88 : decode cX7_addSeries 88 = .ok (.aload_n 0, 1) := by decide +kernel
theorem dX7_addSeries_89 : decode cX7_addSeries 89 = .ok (.iload_n 1, 1) := by decide +kernel
theorem dX7_addSeries_90 : decode cX7_addSeries 90 = .ok (.iload_n 2, 1) := by decide +kernel
theorem dX7_addSeries_91 : decode cX7_addSeries 91 = .ok (.iload 6, 2) := by decide +kernel
theorem dX7_addSeries_93 : decode cX7_addSeries 93 = .ok (.iload_n 3, 1) := by decide +kernel
theorem dX7_addSeries_94 : decode cX7_addSeries 94 = .ok (.imul, 1) := by decide +kernel
theorem dX7_addSeries_95 : decode cX7_addSeries 95 = .ok (.iadd, 1) := by decide +kernel
theorem dX7_addSeries_96 : decode cX7_addSeries 96 = .ok (.invokevirtual 99, 3) := by decide +kernel
theorem dX7_addSeries_99 : decode cX7_addSeries 99 = .ok (.ifCond .ne 17, 3) := by decide +kernel
theorem dX7_addSeries_102 : decode cX7_addSeries 102 = .ok (.aload_n 0, 1) := by decide +kernel
theorem dX7_addSeries_103 : decode cX7_addSeries 103 = .ok (.iload_n 1, 1) := by decide +kernel
theorem dX7_addSeries_104 : decode cX7_addSeries 104 = .ok (.iload_n 2, 1) := by decide +kernel
theorem dX7_addSeries_105 : decode cX7_addSeries 105 = .ok (.iload 6, 2) := by decide +kernel
theorem dX7_addSeries_107 : decode cX7_addSeries 107 = .ok (.iload_n 3, 1) := by decide +kernel
theorem dX7_addSeries_108 : decode cX7_addSeries 108 = .ok (.imul, 1) := by decide +kernel
theorem dX7_addSeries_109 : decode cX7_addSeries 109 = .ok (.iadd, 1) := by decide +kernel
theorem dX7_addSeries_110 : decode cX7_addSeries 110 = .ok (.invokevirtual 106, 3) := by decide +kernel
theorem dX7_addSeries_113 : decode cX7_addSeries 113 = .ok (.iinc 5 1, 3) := by decide +kernel
theorem dX7_addSeries_116 : decode cX7_addSeries 116 = .ok (.iinc 6 1, 3) := by decide +kernel
theorem dX7_addSeries_119 : decode cX7_addSeries 119 = .ok (.goto (-60), 3) := by decide +kernel
theorem dX7_addSeries_122 : decode cX7_addSeries 122 = .ok (.aload_n 0, 1) := by decide +kernel
theorem dX7_addSeries_123 : decode cX7_addSeries 123 = .ok (.iload 5, 2) := by decide +kernel
theorem dX7_addSeries_125 : decode cX7_addSeries 125 = .ok (.invokevirtual 90, 3) := by decide +kernel
theorem dX7_addSeries_128 : decode cX7_addSeries 128 = .ok (.ireturn, 1) := by decide +kernel
theorem dX7_setSizes_0 : decode cX7_setSizes 0 = .ok (.iload_n 1, 1) := by decide +kernel
theorem dX7_setSizes_1 : decode cX7_setSizes 1 = .ok (.iconst 1, 1) := by decide +kernel
theorem dX7_setSizes_2 : decode cX7_setSizes 2 = .ok (.bipush 8, 2) := by decide +kernel
theorem dX7_setSizes_4 : decode cX7_setSizes 4 = .ok (.invokestatic 42, 3) := by decide +kernel
theorem dX7_setSizes_7 : decode cX7_setSizes 7 = .ok (.ifCond .eq 12, 3) := by decide +kernel
theorem dX7_setSizes_10 : decode cX7_setSizes 10 = .ok (.iload_n 2, 1) := by decide +kernel
theorem dX7_setSizes_11 : decode cX7_setSizes 11 = .ok (.iconst 2, 1) := by decide +kernel
theorem dX7_setSizes_12 : decode cX7_setSizes 12 = .ok (.iconst 5, 1) := by decide +kernel
theorem dX7_setSizes_13 : decode cX7_setSizes 13 = .ok (.invokestatic 42, 3) := by decide +kernel
theorem dX7_setSizes_16 : decode cX7_setSizes 16 = .ok (.ifCond .ne 9, 3) := by decide +kernel
theorem dX7_setSizes_19 : decode cX7_setSizes 19 = .ok (.aload_n 0, 1) := by decide +kernel
theorem dX7_setSizes_20 : decode cX7_setSizes 20 = .ok (.iconst 1, 1) := by decide +kernel
theorem dX7_setSizes_21 : decode cX7_setSizes 21 = .ok (.invokevirtual 84, 3) := by decide +kernel
theorem dX7_setSizes_24 : decode cX7_setSizes 24 = .ok (.ireturn, 1) := by decide +kernel
theorem dX7_setSizes_25 : decode cX7_setSizes 25 = .ok (.aload_n 0, 1) := by decide +kernel
theorem dX7_setSizes_26 : decode cX7_setSizes 26 = .ok (.invokevirtual 87, 3) := by decide +kernel
theorem dX7_setSizes_29 : decode cX7_setSizes 29 = .ok (.bipush 10, 2) := by decide +kernel
theorem dX7_setSizes_31 : decode cX7_setSizes 31 = .ok (.aload_n 0, 1) := by decide +kernel
theorem dX7_setSizes_32 : decode cX7_setSizes 32 = .ok (.getfield 7, 3) := by decide +kernel
theorem dX7_setSizes_35 : decode cX7_setSizes 35 = .ok (.iconst 1, 1) := by decide +kernel
theorem dX7_setSizes_36 : decode cX7_setSizes 36 = .ok (.iaload, 1) := by decide +kernel
theorem dX7_setSizes_37 : decode cX7_setSizes 37 = .ok (.imul, 1) := by decide +kernel
theorem dX7_setSizes_38 : decode cX7_setSizes 38 = .ok (.aload_n 0, 1) := by decide +kernel
theorem dX7_setSizes_39 : decode cX7_setSizes 39 = .ok (.getfield 7, 3) := by decide +kernel
theorem dX7_setSizes_42 : decode cX7_setSizes 42 = .ok (.iconst 2, 1) := by decide +kernel
theorem dX7_setSizes_43 : decode cX7_setSizes 43 = .ok (.iaload, 1) := by decide +kernel
theorem dX7_setSizes_44 : decode cX7_setSizes 44 = .ok (.iadd, 1) := by decide +kernel
theorem dX7_setSizes_45 : decode cX7_setSizes 45 = .ok (.istore_n 3, 1) := by decide +kernel
theorem dX7_setSizes_46 : decode cX7_setSizes 46 = .ok (.aload_n 0, 1) := by decide +kernel
theorem dX7_setSizes_47 : decode cX7_setSizes 47 = .ok (.getfield 7, 3) := by decide +kernel
theorem dX7_setSizes_50 : decode cX7_setSizes 50 = .ok (.iconst 1, 1) := by decide +kernel
theorem dX7_setSizes_51 : decode cX7_setSizes 51 = .ok (.iload_n 1, 1) := by decide +kernel
theorem dX7_setSizes_52 : decode cX7_setSizes 52 = .ok (.iastore, 1) := by decide +kernel
theorem dX7_setSizes_53 : decode cX7_setSizes 53 = .ok (.aload_n 0, 1) := by decide +kernel
theorem dX7_setSizes_54 : decode cX7_setSizes 54 = .ok (.getfield 7, 3) := by decide +kernel
theorem dX7_setSizes_57 : decode cX7_setSizes 57 = .ok (.iconst 2, 1) := by decide +kernel
theorem dX7_setSizes_58 : decode cX7_setSizes 58 = .ok (.iload_n 2, 1) := by decide +kernel
theorem dX7_setSizes_59 : decode cX7_setSizes 59 = .ok (.iastore, 1) := by decide +kernel
theorem dX7_setSizes_60 : decode cX7_setSizes 60 = .ok (.aload_n 0, 1) := by decide +kernel
theorem dX7_setSizes_61 : decode cX7_setSizes 61 = .ok (.iload_n 3, 1) := by decide +kernel
theorem dX7_setSizes_62 : decode cX7_setSizes 62 = .ok (.invokevirtual 90, 3) := by decide +kernel
theorem dX7_setSizes_65 : decode cX7_setSizes 65 = .ok (.ireturn, 1) := by decide +kernel
theorem dX7_rebuild_0 : decode cX7_rebuild 0 = .ok (.aload_n 0, 1) := by decide +kernel
theorem dX7_rebuild_1 : decode cX7_rebuild 1 = .ok (.iload_n 1, 1) := by decide +kernel
theorem dX7_rebuild_2 : decode cX7_rebuild 2 = .ok (.invokevirtual 80, 3) := by decide +kernel
theorem dX7_rebuild_5 : decode cX7_rebuild 5 = .ok (.ifCond .ne 9, 3) := by decide +kernel
theorem dX7_rebuild_8 : decode cX7_rebuild 8 = .ok (.aload_n 0, 1) := by decide +kernel
theorem dX7_rebuild_9 : decode cX7_rebuild 9 = .ok (.iconst 1, 1) := by decide +kernel
theorem dX7_rebuild_10 : decode cX7_rebuild 10 = .ok (.invokevirtual 84, 3) := by decide +kernel
theorem dX7_rebuild_13 : decode cX7_rebuild 13 = .ok (.ireturn, 1) := by decide +kernel
theorem dX7_rebuild_14 : decode cX7_rebuild 14 = .ok (.aload_n 0, 1) := by decide +kernel
theorem dX7_rebuild_15 : decode cX7_rebuild 15 = .ok (.invokevirtual 87, 3) := by decide +kernel
theorem dX7_rebuild_18 : decode cX7_rebuild 18 = .ok (.aload_n 0, 1) := by decide +kernel
theorem dX7_rebuild_19 : decode cX7_rebuild 19 = .ok (.aload_n 0, 1) := by decide +kernel
theorem dX7_rebuild_20 : decode cX7_rebuild 20 = .ok (.iload_n 1, 1) := by decide +kernel
theorem dX7_rebuild_21 : decode cX7_rebuild 21 = .ok (.invokevirtual 93, 3) := by decide +kernel
theorem dX7_rebuild_24 : decode cX7_rebuild 24 = .ok (.invokevirtual 90, 3) := by decide +kernel
theorem dX7_rebuild_27 : decode cX7_rebuild 27 = .ok (.ireturn, 1) := by decide +kernel
theorem dX7_entriesOfAll_0 : decode cX7_entriesOfAll 0 = .ok (.iconst 0, 1) := by decide +kernel
theorem dX7_entriesOfAll_1 : decode cX7_entriesOfAll 1 = .ok (.istore_n 1, 1) := by decide +kernel
theorem dX7_entriesOfAll_2 : decode cX7_entriesOfAll 2 = .ok (.iconst 0, 1) := by decide +kernel
theorem dX7_entriesOfAll_3 : decode cX7_entriesOfAll 3 = .ok (.istore_n 2, 1) := by decide +kernel
theorem dX7_entriesOfAll_4 : decode cX7_entriesOfAll 4 = .ok (.iload_n 2, 1) := by decide +kernel
theorem dX7_entriesOfAll_5 : decode cX7_entriesOfAll 5 = .ok (.aload_n 0, 1) := by decide +kernel
theorem dX7_entriesOfAll_6 : decode cX7_entriesOfAll 6 = .ok (.getfield 7, 3) := by decide +kernel
theorem dX7_entriesOfAll_9 : decode cX7_entriesOfAll 9 = .ok (.iconst 0, 1) := by decide +kernel
theorem dX7_entriesOfAll_10 : decode cX7_entriesOfAll 10 = .ok (.iaload, 1) := by decide +kernel
theorem dX7_entriesOfAll_11 : decode cX7_entriesOfAll 11 = .ok (.if_icmp .ge 19, 3) := by decide +kernel
theorem dX7_entriesOfAll_14 : decode cX7_entriesOfAll 14 = .ok (.iload_n 1, 1) := by decide +kernel
theorem dX7_entriesOfAll_15 : decode cX7_entriesOfAll 15 = .ok (.aload_n 0, 1) := by decide +kernel
theorem dX7_entriesOfAll_16 : decode cX7_entriesOfAll 16 = .ok (.iload_n 2, 1) := by decide +kernel
theorem dX7_entriesOfAll_17 : decode cX7_entriesOfAll 17 = .ok (.bipush 61, 2) := by decide +kernel
theorem dX7_entriesOfAll_19 : decode cX7_entriesOfAll 19 = .ok (.invokevirtual 46, 3) := by decide +kernel
theorem dX7_entriesOfAll_22 : decode cX7_entriesOfAll 22 = .ok (.iadd, 1) := by decide +kernel
theorem dX7_entriesOfAll_23 : decode cX7_entriesOfAll 23 = .ok (.istore_n 1, 1) := by decide +kernel
theorem dX7_entriesOfAll_24 : decode cX7_entriesOfAll 24 = .ok (.iinc 2 1, 3) := by decide +kernel
theorem dX7_entriesOfAll_27 : decode cX7_entriesOfAll 27 = .ok (.goto (-23), 3) := by decide +kernel
theorem dX7_entriesOfAll_30 : decode cX7_entriesOfAll 30 = .ok (.iload_n 1, 1) := by decide +kernel
theorem dX7_entriesOfAll_31 : decode cX7_entriesOfAll 31 = .ok (.ireturn, 1) := by decide +kernel
theorem dX7_rebuildAll_0 : decode cX7_rebuildAll 0 = .ok (.aload_n 0, 1) := by decide +kernel
theorem dX7_rebuildAll_1 : decode cX7_rebuildAll 1 = .ok (.invokevirtual 87, 3) := by decide +kernel
theorem dX7_rebuildAll_4 : decode cX7_rebuildAll 4 = .ok (.iconst 0, 1) := by decide +kernel
theorem dX7_rebuildAll_5 : decode cX7_rebuildAll 5 = .ok (.istore_n 1, 1) := by decide +kernel
theorem dX7_rebuildAll_6 : decode cX7_rebuildAll 6 = .ok (.aload_n 0, 1) := by decide +kernel
theorem dX7_rebuildAll_7 : decode cX7_rebuildAll 7 = .ok (.getfield 7, 3) := by decide +kernel
theorem dX7_rebuildAll_10 : decode cX7_rebuildAll 10 = .ok (.iconst 0, 1) := by decide +kernel
theorem dX7_rebuildAll_11 : decode cX7_rebuildAll 11 = .ok (.iaload, 1) := by decide +kernel
theorem dX7_rebuildAll_12 : decode cX7_rebuildAll 12 = .ok (.iconst 1, 1) := by decide +kernel
theorem dX7_rebuildAll_13 : decode cX7_rebuildAll 13 = .ok (.isub, 1) := by decide +kernel
theorem dX7_rebuildAll_14 : decode cX7_rebuildAll 14 = .ok (.istore_n 2, 1) := by decide +kernel
theorem dX7_rebuildAll_15 : decode cX7_rebuildAll 15 = .ok (.iload_n 2, 1) := by decide +kernel
theorem dX7_rebuildAll_16 : decode cX7_rebuildAll 16 = .ok (.ifCond .lt 17, 3) := by decide +kernel
theorem dX7_rebuildAll_19 : decode cX7_rebuildAll 19 = .ok (.iload_n 1, 1) := by decide +kernel
theorem dX7_rebuildAll_20 : decode cX7_rebuildAll 20 = .ok (.aload_n 0, 1) := by decide +kernel
theorem dX7_rebuildAll_21 : decode cX7_rebuildAll 21 = .ok (.iload_n 2, 1) := by decide +kernel
theorem dX7_rebuildAll_22 : decode cX7_rebuildAll 22 = .ok (.invokevirtual 93, 3) := by decide +kernel
theorem dX7_rebuildAll_25 : decode cX7_rebuildAll 25 = .ok (.iadd, 1) := by decide +kernel
theorem dX7_rebuildAll_26 : decode cX7_rebuildAll 26 = .ok (.istore_n 1, 1) := by decide +kernel
theorem dX7_rebuildAll_27 : decode cX7_rebuildAll 27 = .ok (.iinc 2 (-1), 3) := by decide +kernel
theorem dX7_rebuildAll_30 : decode cX7_rebuildAll 30 = .ok (.goto (-15), 3) := by decide +kernel
theorem dX7_rebuildAll_33 : decode cX7_rebuildAll 33 = .ok (.aload_n 0, 1) := by decide +kernel
theorem dX7_rebuildAll_34 : decode cX7_rebuildAll 34 = .ok (.iload_n 1, 1) := by decide +kernel
theorem dX7_rebuildAll_35 : decode cX7_rebuildAll 35 = .ok (.ifCond .ge 7, 3) := by decide +kernel
theorem dX7_rebuildAll_38 : decode cX7_rebuildAll 38 = .ok (.iload_n 1, 1) := by decide +kernel
theorem dX7_rebuildAll_39 : decode cX7_rebuildAll 39 = .ok (.goto 7, 3) := by decide +kernel
theorem dX7_rebuildAll_42 : decode cX7_rebuildAll 42 = .ok (.aload_n 0, 1) := by decide +kernel
theorem dX7_rebuildAll_43 : decode cX7_rebuildAll 43 = .ok (.invokevirtual 113, 3) := by decide +kernel
theorem dX7_rebuildAll_46 : decode cX7_rebuildAll 46 = .ok (.invokevirtual 90, 3) := by decide +kernel
theorem dX7_rebuildAll_49 : decode cX7_rebuildAll 49 = .ok (.ireturn, 1) := by decide +kernel
theorem dX7_lays_0 : decode cX7_lays 0 = .ok (.aload_n 0, 1) := by decide +kernel
theorem dX7_lays_1 : decode cX7_lays 1 = .ok (.iconst 0, 1) := by decide +kernel
theorem dX7_lays_2 : decode cX7_lays 2 = .ok (.putfield 117, 3) := by decide +kernel
theorem dX7_lays_5 : decode cX7_lays 5 = .ok (.iload_n 1, 1) := by decide +kernel
theorem dX7_lays_6 : decode cX7_lays 6 = .ok (.istore_n 2, 1) := by decide +kernel
theorem dX7_lays_7 : decode cX7_lays 7 = .ok (.iload_n 2, 1) := by decide +kernel
theorem dX7_lays_8 : decode cX7_lays 8 = .ok (.iconst (-1), 1) := by decide +kernel
theorem dX7_lays_9 : decode cX7_lays 9 = .ok (.if_icmp .eq 23, 3) := by decide +kernel
theorem dX7_lays_12 : decode cX7_lays 12 = .ok (.aload_n 0, 1) := by decide +kernel
theorem dX7_lays_13 : decode cX7_lays 13 = .ok (.dup, 1) := by decide +kernel
theorem dX7_lays_14 : decode cX7_lays 14 = .ok (.getfield 117, 3) := by decide +kernel
theorem dX7_lays_17 : decode cX7_lays 17 = .ok (.iconst 1, 1) := by decide +kernel
theorem dX7_lays_18 : decode cX7_lays 18 = .ok (.iadd, 1) := by decide +kernel
theorem dX7_lays_19 : decode cX7_lays 19 = .ok (.putfield 117, 3) := by decide +kernel
theorem dX7_lays_22 : decode cX7_lays 22 = .ok (.aload_n 0, 1) := by decide +kernel
theorem dX7_lays_23 : decode cX7_lays 23 = .ok (.iload_n 2, 1) := by decide +kernel
theorem dX7_lays_24 : decode cX7_lays 24 = .ok (.iconst 0, 1) := by decide +kernel
theorem dX7_lays_25 : decode cX7_lays 25 = .ok (.invokevirtual 46, 3) := by decide +kernel
theorem dX7_lays_28 : decode cX7_lays 28 = .ok (.istore_n 2, 1) := by decide +kernel
theorem dX7_lays_29 : decode cX7_lays 29 = .ok (.goto (-22), 3) := by decide +kernel
theorem dX7_lays_32 : decode cX7_lays 32 = .ok (.iload_n 1, 1) := by decide +kernel
theorem dX7_lays_33 : decode cX7_lays 33 = .ok (.istore_n 2, 1) := by decide +kernel
theorem dX7_lays_34 : decode cX7_lays 34 = .ok (.aload_n 0, 1) := by decide +kernel
theorem dX7_lays_35 : decode cX7_lays 35 = .ok (.getfield 117, 3) := by decide +kernel
theorem dX7_lays_38 : decode cX7_lays 38 = .ok (.iconst 1, 1) := by decide +kernel
theorem dX7_lays_39 : decode cX7_lays 39 = .ok (.isub, 1) := by decide +kernel
theorem dX7_lays_40 : decode cX7_lays 40 = .ok (.istore_n 3, 1) := by decide +kernel
theorem dX7_lays_41 : decode cX7_lays 41 = .ok (.iload_n 3, 1) := by decide +kernel
theorem dX7_lays_42 : decode cX7_lays 42 = .ok (.ifCond .lt 23, 3) := by decide +kernel
theorem dX7_lays_45 : decode cX7_lays 45 = .ok (.aload_n 0, 1) := by decide +kernel
theorem dX7_lays_46 : decode cX7_lays 46 = .ok (.getfield 22, 3) := by decide +kernel
theorem dX7_lays_49 : decode cX7_lays 49 = .ok (.iload_n 3, 1) := by decide +kernel
theorem dX7_lays_50 : decode cX7_lays 50 = .ok (.iload_n 2, 1) := by decide +kernel
theorem dX7_lays_51 : decode cX7_lays 51 = .ok (.iastore, 1) := by decide +kernel
theorem dX7_lays_52 : decode cX7_lays 52 = .ok (.aload_n 0, 1) := by decide +kernel
theorem dX7_lays_53 : decode cX7_lays 53 = .ok (.iload_n 2, 1) := by decide +kernel
theorem dX7_lays_54 : decode cX7_lays 54 = .ok (.iconst 0, 1) := by decide +kernel
theorem dX7_lays_55 : decode cX7_lays 55 = .ok (.invokevirtual 46, 3) := by decide +kernel
theorem dX7_lays_58 : decode cX7_lays 58 = .ok (.istore_n 2, 1) := by decide +kernel
theorem dX7_lays_59 : decode cX7_lays 59 = .ok (.iinc 3 (-1), 3) := by decide +kernel
theorem dX7_lays_62 : decode cX7_lays 62 = .ok (.goto (-21), 3) := by decide +kernel
theorem dX7_lays_65 : decode cX7_lays 65 = .ok (.return_, 1) := by decide +kernel
theorem dX7_halves_0 : decode cX7_halves 0 = .ok (.iconst 0, 1) := by decide +kernel
theorem dX7_halves_1 : decode cX7_halves 1 = .ok (.istore 5, 2) := by decide +kernel
theorem dX7_halves_3 : decode cX7_halves 3 = .ok (.iload_n 3, 1) := by decide +kernel
theorem dX7_halves_4 : decode cX7_halves 4 = .ok (.istore 6, 2) := by decide +kernel
theorem dX7_halves_6 : decode cX7_halves 6 = .ok (.iload 5, 2) := by decide +kernel
theorem dX7_halves_8 : decode cX7_halves 8 = .ok (.iload 6, 2) := by decide +kernel
theorem dX7_halves_10 : decode cX7_halves 10 = .ok (.if_icmp .ge 52, 3) := by decide +kernel
theorem dX7_halves_13 : decode cX7_halves 13 = .ok (.iload 5, 2) := by decide +kernel
theorem dX7_halves_15 : decode cX7_halves 15 = .ok (.iload 6, 2) := by decide +kernel
theorem dX7_halves_17 : decode cX7_halves 17 = .ok (.iadd, 1) := by decide +kernel
theorem dX7_halves_18 : decode cX7_halves 18 = .ok (.iconst 2, 1) := by decide +kernel
theorem dX7_halves_19 : decode cX7_halves 19 = .ok (.idiv, 1) := by decide +kernel
theorem dX7_halves_20 : decode cX7_halves 20 = .ok (.istore 7, 2) := by decide +kernel
theorem dX7_halves_22 : decode cX7_halves 22 = .ok (.aload_n 0, 1) := by decide +kernel
theorem dX7_halves_23 : decode cX7_halves 23 = .ok (.dup, 1) := by decide +kernel
theorem dX7_halves_24 : decode cX7_halves 24 = .ok (.getfield 120, 3) := by decide +kernel
theorem dX7_halves_27 : decode cX7_halves 27 = .ok (.iconst 1, 1) := by decide +kernel
theorem dX7_halves_28 : decode cX7_halves 28 = .ok (.iadd, 1) := by decide +kernel
theorem dX7_halves_29 : decode cX7_halves 29 = .ok (.putfield 120, 3) := by decide +kernel
theorem dX7_halves_32 : decode cX7_halves 32 = .ok (.aload_n 0, 1) := by decide +kernel
theorem dX7_halves_33 : decode cX7_halves 33 = .ok (.iload_n 1, 1) := by decide +kernel
theorem dX7_halves_34 : decode cX7_halves 34 = .ok (.iload_n 2, 1) := by decide +kernel
theorem dX7_halves_35 : decode cX7_halves 35 = .ok (.iload 7, 2) := by decide +kernel
theorem dX7_halves_37 : decode cX7_halves 37 = .ok (.iadd, 1) := by decide +kernel
theorem dX7_halves_38 : decode cX7_halves 38 = .ok (.invokevirtual 46, 3) := by decide +kernel
theorem dX7_halves_41 : decode cX7_halves 41 = .ok (.iload 4, 2) := by decide +kernel
theorem dX7_halves_43 : decode cX7_halves 43 = .ok (.if_icmp .lt 10, 3) := by decide +kernel
theorem dX7_halves_46 : decode cX7_halves 46 = .ok (.iload 7, 2) := by decide +kernel
theorem dX7_halves_48 : decode cX7_halves 48 = .ok (.istore 6, 2) := by decide +kernel
theorem dX7_halves_50 : decode cX7_halves 50 = .ok (.goto 9, 3) := by decide +kernel
theorem dX7_halves_53 : decode cX7_halves 53 = .ok (.iload 7, 2) := by decide +kernel
theorem dX7_halves_55 : decode cX7_halves 55 = .ok (.iconst 1, 1) := by decide +kernel
theorem dX7_halves_56 : decode cX7_halves 56 = .ok (.iadd, 1) := by decide +kernel
theorem dX7_halves_57 : decode cX7_halves 57 = .ok (.istore 5, 2) := by decide +kernel
theorem dX7_halves_59 : decode cX7_halves 59 = .ok (.goto (-53), 3) := by decide +kernel
theorem dX7_halves_62 : decode cX7_halves 62 = .ok (.iload 5, 2) := by decide +kernel
theorem dX7_halves_64 : decode cX7_halves 64 = .ok (.ireturn, 1) := by decide +kernel
theorem dX7_answerFrom_0 : decode cX7_answerFrom 0 = .ok (.iload_n 2, 1) := by decide +kernel
theorem dX7_answerFrom_1 : decode cX7_answerFrom 1 = .ok (.istore 4, 2) := by decide +kernel
theorem dX7_answerFrom_3 : decode cX7_answerFrom 3 = .ok (.iload 4, 2) := by decide +kernel
theorem dX7_answerFrom_5 : decode cX7_answerFrom 5 = .ok (.aload_n 0, 1) := by decide +kernel
theorem dX7_answerFrom_6 : decode cX7_answerFrom 6 = .ok (.iload_n 1, 1) := by decide +kernel
theorem dX7_answerFrom_7 : decode cX7_answerFrom 7 = .ok (.iconst 3, 1) := by decide +kernel
theorem dX7_answerFrom_8 : decode cX7_answerFrom 8 = .ok (.invokevirtual 46, 3) := by decide +kernel
theorem dX7_answerFrom_11 : decode cX7_answerFrom 11 = .ok (.if_icmp .ge 33, 3) := by decide +kernel
theorem dX7_answerFrom_14 : decode cX7_answerFrom 14 = .ok (.aload_n 0, 1) := by decide +kernel
theorem dX7_answerFrom_15 : decode cX7_answerFrom 15 = .ok (.iload_n 1, 1) := by decide +kernel
theorem dX7_answerFrom_16 : decode cX7_answerFrom 16 = .ok (.bipush 28, 2) := by decide +kernel
theorem dX7_answerFrom_18 : decode cX7_answerFrom 18 = .ok (.iload 4, 2) := by decide +kernel
theorem dX7_answerFrom_20 : decode cX7_answerFrom 20 = .ok (.iadd, 1) := by decide +kernel
theorem dX7_answerFrom_21 : decode cX7_answerFrom 21 = .ok (.invokevirtual 46, 3) := by decide +kernel
theorem dX7_answerFrom_24 : decode cX7_answerFrom 24 = .ok (.iconst 1, 1) := by decide +kernel
theorem dX7_answerFrom_25 : decode cX7_answerFrom 25 = .ok (.if_icmp .ne 19, 3) := by decide +kernel
theorem dX7_answerFrom_28 : decode cX7_answerFrom 28 = .ok (.aload_n 0, 1) := by decide +kernel
theorem dX7_answerFrom_29 : decode cX7_answerFrom 29 = .ok (.dup, 1) := by decide +kernel
theorem dX7_answerFrom_30 : decode cX7_answerFrom 30 = .ok (.getfield 120, 3) := by decide +kernel
theorem dX7_answerFrom_33 : decode cX7_answerFrom 33 = .ok (.iconst 1, 1) := by decide +kernel
theorem dX7_answerFrom_34 : decode cX7_answerFrom 34 = .ok (.iadd, 1) := by decide +kernel
theorem dX7_answerFrom_35 : decode cX7_answerFrom 35 = .ok (.putfield 120, 3) := by decide +kernel
theorem dX7_answerFrom_38 : decode cX7_answerFrom 38 = .ok (.iinc 4 1, 3) := by decide +kernel
theorem dX7_answerFrom_41 : decode cX7_answerFrom 41 = .ok (.goto (-38), 3) := by decide +kernel
theorem dX7_answerFrom_44 : decode cX7_answerFrom 44 = .ok (.iload 4, 2) := by decide +kernel
theorem dX7_answerFrom_46 : decode cX7_answerFrom 46 = .ok (.aload_n 0, 1) := by decide +kernel
theorem dX7_answerFrom_47 : decode cX7_answerFrom 47 = .ok (.iload_n 1, 1) := by decide +kernel
theorem dX7_answerFrom_48 : decode cX7_answerFrom 48 = .ok (.iconst 3, 1) := by decide +kernel
theorem dX7_answerFrom_49 : decode cX7_answerFrom 49 = .ok (.invokevirtual 46, 3) := by decide +kernel
theorem dX7_answerFrom_52 : decode cX7_answerFrom 52 = .ok (.if_icmp .ge 15, 3) := by decide +kernel
theorem dX7_answerFrom_55 : decode cX7_answerFrom 55 = .ok (.aload_n 0, 1) := by decide +kernel
theorem dX7_answerFrom_56 : decode cX7_answerFrom 56 = .ok (.iload_n 1, 1) := by decide +kernel
theorem dX7_answerFrom_57 : decode cX7_answerFrom 57 = .ok (.iconst 4, 1) := by decide +kernel
theorem dX7_answerFrom_58 : decode cX7_answerFrom 58 = .ok (.iload 4, 2) := by decide +kernel
theorem dX7_answerFrom_60 : decode cX7_answerFrom 60 = .ok (.iadd, 1) := by decide +kernel
theorem dX7_answerFrom_61 : decode cX7_answerFrom 61 = .ok (.invokevirtual 46, 3) := by decide +kernel
theorem dX7_answerFrom_64 : decode cX7_answerFrom 64 = .ok (.goto 4, 3) := by decide +kernel
theorem dX7_answerFrom_67 : decode cX7_answerFrom 67 = .ok (.iconst (-1), 1) := by decide +kernel
theorem dX7_answerFrom_68 : decode cX7_answerFrom 68 = .ok (.istore 5, 2) := by decide +kernel
theorem dX7_answerFrom_70 : decode cX7_answerFrom 70 = .ok (.iconst 0, 1) := by decide +kernel
theorem dX7_answerFrom_71 : decode cX7_answerFrom 71 = .ok (.istore 6, 2) := by decide +kernel
theorem dX7_answerFrom_73 : decode cX7_answerFrom 73 = .ok (.iload 6, 2) := by decide +kernel
theorem dX7_answerFrom_75 : decode cX7_answerFrom 75 = .ok (.aload_n 0, 1) := by decide +kernel
theorem dX7_answerFrom_76 : decode cX7_answerFrom 76 = .ok (.iload_n 1, 1) := by decide +kernel
theorem dX7_answerFrom_77 : decode cX7_answerFrom 77 = .ok (.bipush 52, 2) := by decide +kernel
theorem dX7_answerFrom_79 : decode cX7_answerFrom 79 = .ok (.invokevirtual 46, 3) := by decide +kernel
theorem dX7_answerFrom_82 : decode cX7_answerFrom 82 = .ok (.if_icmp .ge 59, 3) := by decide +kernel
theorem dX7_answerFrom_85 : decode cX7_answerFrom 85 = .ok (.aload_n 0, 1) := by decide +kernel
theorem dX7_answerFrom_86 : decode cX7_answerFrom 86 = .ok (.iload_n 1, 1) := by decide +kernel
theorem dX7_answerFrom_87 : decode cX7_answerFrom 87 = .ok (.bipush 53, 2) := by decide +kernel
theorem dX7_answerFrom_89 : decode cX7_answerFrom 89 = .ok (.iload 6, 2) := by decide +kernel
theorem dX7_answerFrom_91 : decode cX7_answerFrom 91 = .ok (.iadd, 1) := by decide +kernel
theorem dX7_answerFrom_92 : decode cX7_answerFrom 92 = .ok (.invokevirtual 46, 3) := by decide +kernel
theorem dX7_answerFrom_95 : decode cX7_answerFrom 95 = .ok (.istore 7, 2) := by decide +kernel
theorem dX7_answerFrom_97 : decode cX7_answerFrom 97 = .ok (.aload_n 0, 1) := by decide +kernel
theorem dX7_answerFrom_98 : decode cX7_answerFrom 98 = .ok (.dup, 1) := by decide +kernel
theorem dX7_answerFrom_99 : decode cX7_answerFrom 99 = .ok (.getfield 120, 3) := by decide +kernel
theorem dX7_answerFrom_102 : decode cX7_answerFrom 102 = .ok (.iconst 1, 1) := by decide +kernel
theorem dX7_answerFrom_103 : decode cX7_answerFrom 103 = .ok (.iadd, 1) := by decide +kernel
theorem dX7_answerFrom_104 : decode cX7_answerFrom 104 = .ok (.putfield 120, 3) := by decide +kernel
theorem dX7_answerFrom_107 : decode cX7_answerFrom 107 = .ok (.iload 7, 2) := by decide +kernel
theorem dX7_answerFrom_109 : decode cX7_answerFrom 109 = .ok (.iload_n 3, 1) := by decide +kernel
theorem dX7_answerFrom_110 : decode cX7_answerFrom 110 = .ok (.if_icmp .lt 21, 3) := by decide +kernel
theorem dX7_answerFrom_113 : decode cX7_answerFrom 113 = .ok (.iload 5, 2) := by decide +kernel
theorem dX7_answerFrom_115 : decode cX7_answerFrom 115 = .ok (.iconst (-1), 1) := by decide +kernel
theorem dX7_answerFrom_116 : decode cX7_answerFrom 116 = .ok (.if_icmp .eq 10, 3) := by decide +kernel
theorem dX7_answerFrom_119 : decode cX7_answerFrom 119 = .ok (.iload 7, 2) := by decide +kernel
theorem dX7_answerFrom_121 : decode cX7_answerFrom 121 = .ok (.iload 5, 2) := by decide +kernel
theorem dX7_answerFrom_123 : decode cX7_answerFrom 123 = .ok (.if_icmp .ge 8, 3) := by decide +kernel
theorem dX7_answerFrom_126 : decode cX7_answerFrom 126 = .ok (.iload 7, 2) := by decide +kernel
theorem dX7_answerFrom_128 : decode cX7_answerFrom 128 = .ok (.goto 5, 3) := by decide +kernel
theorem dX7_answerFrom_131 : decode cX7_answerFrom 131 = .ok (.iload 5, 2) := by decide +kernel
theorem dX7_answerFrom_133 : decode cX7_answerFrom 133 = .ok (.istore 5, 2) := by decide +kernel
theorem dX7_answerFrom_135 : decode cX7_answerFrom 135 = .ok (.iinc 6 1, 3) := by decide +kernel
theorem dX7_answerFrom_138 : decode cX7_answerFrom 138 = .ok (.goto (-65), 3) := by decide +kernel
theorem dX7_answerFrom_141 : decode cX7_answerFrom 141 = .ok (.iload 5, 2) := by decide +kernel
theorem dX7_answerFrom_143 : decode cX7_answerFrom 143 = .ok (.ireturn, 1) := by decide +kernel
theorem dX7_seeks_0 : decode cX7_seeks 0 = .ok (.aload_n 0, 1) := by decide +kernel
theorem dX7_seeks_1 : decode cX7_seeks 1 = .ok (.iconst 0, 1) := by decide +kernel
theorem dX7_seeks_2 : decode cX7_seeks 2 = .ok (.putfield 120, 3) := by decide +kernel
theorem dX7_seeks_5 : decode cX7_seeks 5 = .ok (.iconst 0, 1) := by decide +kernel
theorem dX7_seeks_6 : decode cX7_seeks 6 = .ok (.istore_n 2, 1) := by decide +kernel
theorem dX7_seeks_7 : decode cX7_seeks 7 = .ok (.iload_n 2, 1) := by decide +kernel
theorem dX7_seeks_8 : decode cX7_seeks 8 = .ok (.aload_n 0, 1) := by decide +kernel
theorem dX7_seeks_9 : decode cX7_seeks 9 = .ok (.getfield 117, 3) := by decide +kernel
theorem dX7_seeks_12 : decode cX7_seeks 12 = .ok (.if_icmp .ge 134, 3) := by decide +kernel
theorem dX7_seeks_15 : decode cX7_seeks 15 = .ok (.aload_n 0, 1) := by decide +kernel
theorem dX7_seeks_16 : decode cX7_seeks 16 = .ok (.getfield 22, 3) := by decide +kernel
theorem dX7_seeks_19 : decode cX7_seeks 19 = .ok (.iload_n 2, 1) := by decide +kernel
theorem dX7_seeks_20 : decode cX7_seeks 20 = .ok (.iaload, 1) := by decide +kernel
theorem dX7_seeks_21 : decode cX7_seeks 21 = .ok (.istore_n 3, 1) := by decide +kernel
theorem dX7_seeks_22 : decode cX7_seeks 22 = .ok (.iload_n 2, 1) := by decide +kernel
theorem dX7_seeks_23 : decode cX7_seeks 23 = .ok (.ifCond .ne 23, 3) := by decide +kernel
theorem dX7_seeks_26 : decode cX7_seeks 26 = .ok (.aload_n 0, 1) := by decide +kernel
theorem dX7_seeks_27 : decode cX7_seeks 27 = .ok (.iload_n 3, 1) := by decide +kernel
theorem dX7_seeks_28 : decode cX7_seeks 28 = .ok (.bipush 62, 2) := by decide +kernel
theorem dX7_seeks_30 : decode cX7_seeks 30 = .ok (.aload_n 0, 1) := by decide +kernel
theorem dX7_seeks_31 : decode cX7_seeks 31 = .ok (.iload_n 3, 1) := by decide +kernel
theorem dX7_seeks_32 : decode cX7_seeks 32 = .ok (.bipush 61, 2) := by decide +kernel
theorem dX7_seeks_34 : decode cX7_seeks 34 = .ok (.invokevirtual 46, 3) := by decide +kernel
theorem dX7_seeks_37 : decode cX7_seeks 37 = .ok (.iload_n 1, 1) := by decide +kernel
theorem dX7_seeks_38 : decode cX7_seeks 38 = .ok (.invokevirtual 123, 3) := by decide +kernel
theorem dX7_seeks_41 : decode cX7_seeks 41 = .ok (.istore 4, 2) := by decide +kernel
theorem dX7_seeks_43 : decode cX7_seeks 43 = .ok (.goto 64, 3) := by decide +kernel
theorem dX7_seeks_46 : decode cX7_seeks 46 = .ok (.aload_n 0, 1) := by decide +kernel
theorem dX7_seeks_47 : decode cX7_seeks 47 = .ok (.aload_n 0, 1) := by decide +kernel
theorem dX7_seeks_48 : decode cX7_seeks 48 = .ok (.getfield 22, 3) := by decide +kernel
theorem dX7_seeks_51 : decode cX7_seeks 51 = .ok (.iload_n 2, 1) := by decide +kernel
theorem dX7_seeks_52 : decode cX7_seeks 52 = .ok (.iconst 1, 1) := by decide +kernel
theorem dX7_seeks_53 : decode cX7_seeks 53 = .ok (.isub, 1) := by decide +kernel
theorem dX7_seeks_54 : decode cX7_seeks 54 = .ok (.iaload, 1) := by decide +kernel
theorem dX7_seeks_55 : decode cX7_seeks 55 = .ok (.iconst 1, 1) := by decide +kernel
theorem dX7_seeks_56 : decode cX7_seeks 56 = .ok (.invokevirtual 46, 3) := by decide +kernel
theorem dX7_seeks_59 : decode cX7_seeks 59 = .ok (.iload_n 3, 1) := by decide +kernel
theorem dX7_seeks_60 : decode cX7_seeks 60 = .ok (.if_icmp .ne 7, 3) := by decide +kernel
theorem dX7_seeks_63 : decode cX7_seeks 63 = .ok (.iconst 1, 1) := by decide +kernel
theorem dX7_seeks_64 : decode cX7_seeks 64 = .ok (.goto 4, 3) := by decide +kernel
theorem dX7_seeks_67 : decode cX7_seeks 67 = .ok (.iconst 2, 1) := by decide +kernel
theorem dX7_seeks_68 : decode cX7_seeks 68 = .ok (.istore 5, 2) := by decide +kernel
theorem dX7_seeks_70 : decode cX7_seeks 70 = .ok (.aload_n 0, 1) := by decide +kernel
theorem dX7_seeks_71 : decode cX7_seeks 71 = .ok (.iload_n 3, 1) := by decide +kernel
theorem dX7_seeks_72 : decode cX7_seeks 72 = .ok (.aload_n 0, 1) := by decide +kernel
theorem dX7_seeks_73 : decode cX7_seeks 73 = .ok (.aload_n 0, 1) := by decide +kernel
theorem dX7_seeks_74 : decode cX7_seeks 74 = .ok (.getfield 22, 3) := by decide +kernel
theorem dX7_seeks_77 : decode cX7_seeks 77 = .ok (.iload_n 2, 1) := by decide +kernel
theorem dX7_seeks_78 : decode cX7_seeks 78 = .ok (.iconst 1, 1) := by decide +kernel
theorem dX7_seeks_79 : decode cX7_seeks 79 = .ok (.isub, 1) := by decide +kernel
theorem dX7_seeks_80 : decode cX7_seeks 80 = .ok (.iaload, 1) := by decide +kernel
theorem dX7_seeks_81 : decode cX7_seeks 81 = .ok (.sipush 254, 3) := by decide +kernel
theorem dX7_seeks_84 : decode cX7_seeks 84 = .ok (.iconst 3, 1) := by decide +kernel
theorem dX7_seeks_85 : decode cX7_seeks 85 = .ok (.aload_n 0, 1) := by decide +kernel
theorem dX7_seeks_86 : decode cX7_seeks 86 = .ok (.getfield 25, 3) := by decide +kernel
theorem dX7_seeks_89 : decode cX7_seeks 89 = .ok (.iload_n 2, 1) := by decide +kernel
theorem dX7_seeks_90 : decode cX7_seeks 90 = .ok (.iconst 1, 1) := by decide +kernel
theorem dX7_seeks_91 : decode cX7_seeks 91 = .ok (.isub, 1) := by decide +kernel
theorem dX7_seeks_92 : decode cX7_seeks 92 = .ok (.iaload, 1) := by decide +kernel
theorem dX7_seeks_93 : decode cX7_seeks 93 = .ok (.imul, 1) := by decide +kernel
theorem dX7_seeks_94 : decode cX7_seeks 94 = .ok (.iadd, 1) := by decide +kernel
theorem dX7_seeks_95 : decode cX7_seeks 95 = .ok (.iload 5, 2) := by decide +kernel
theorem dX7_seeks_97 : decode cX7_seeks 97 = .ok (.iadd, 1) := by decide +kernel
theorem dX7_seeks_98 : decode cX7_seeks 98 = .ok (.invokevirtual 46, 3) := by decide +kernel
theorem dX7_seeks_101 : decode cX7_seeks 101 = .ok (.iload_n 1, 1) := by decide +kernel
theorem dX7_seeks_102 : decode cX7_seeks 102 = .ok (.invokevirtual 127, 3) := by decide +kernel
theorem dX7_seeks_105 : decode cX7_seeks 105 = .ok (.istore 4, 2) := by decide +kernel
theorem dX7_seeks_107 : decode cX7_seeks 107 = .ok (.aload_n 0, 1) := by decide +kernel
theorem dX7_seeks_108 : decode cX7_seeks 108 = .ok (.getfield 25, 3) := by decide +kernel
theorem dX7_seeks_111 : decode cX7_seeks 111 = .ok (.iload_n 2, 1) := by decide +kernel
theorem dX7_seeks_112 : decode cX7_seeks 112 = .ok (.iload 4, 2) := by decide +kernel
theorem dX7_seeks_114 : decode cX7_seeks 114 = .ok (.iastore, 1) := by decide +kernel
theorem dX7_seeks_115 : decode cX7_seeks 115 = .ok (.aload_n 0, 1) := by decide +kernel
theorem dX7_seeks_116 : decode cX7_seeks 116 = .ok (.getfield 28, 3) := by decide +kernel
theorem dX7_seeks_119 : decode cX7_seeks 119 = .ok (.iload_n 2, 1) := by decide +kernel
theorem dX7_seeks_120 : decode cX7_seeks 120 = .ok (.aload_n 0, 1) := by decide +kernel
theorem dX7_seeks_121 : decode cX7_seeks 121 = .ok (.iload_n 3, 1) := by decide +kernel
theorem dX7_seeks_122 : decode cX7_seeks 122 = .ok (.aload_n 0, 1) := by decide +kernel
theorem dX7_seeks_123 : decode cX7_seeks 123 = .ok (.iload_n 3, 1) := by decide +kernel
theorem dX7_seeks_124 : decode cX7_seeks 124 = .ok (.sipush 254, 3) := by decide +kernel
theorem dX7_seeks_127 : decode cX7_seeks 127 = .ok (.iconst 3, 1) := by decide +kernel
theorem dX7_seeks_128 : decode cX7_seeks 128 = .ok (.iload 4, 2) := by decide +kernel
theorem dX7_seeks_130 : decode cX7_seeks 130 = .ok (.imul, 1) := by decide +kernel
theorem dX7_seeks_131 : decode cX7_seeks 131 = .ok (.iadd, 1) := by decide +kernel
theorem dX7_seeks_132 : decode cX7_seeks 132 = .ok (.invokevirtual 46, 3) := by decide +kernel
theorem dX7_seeks_135 : decode cX7_seeks 135 = .ok (.iload_n 1, 1) := by decide +kernel
theorem dX7_seeks_136 : decode cX7_seeks 136 = .ok (.invokevirtual 130, 3) := by decide +kernel
theorem dX7_seeks_139 : decode cX7_seeks 139 = .ok (.iastore, 1) := by decide +kernel
theorem dX7_seeks_140 : decode cX7_seeks 140 = .ok (.iinc 2 1, 3) := by decide +kernel
theorem dX7_seeks_143 : decode cX7_seeks 143 = .ok (.goto (-136), 3) := by decide +kernel
theorem dX7_seeks_146 : decode cX7_seeks 146 = .ok (.return_, 1) := by decide +kernel
theorem dX7_goesBack_0 : decode cX7_goesBack 0 = .ok (.iload_n 2, 1) := by decide +kernel
theorem dX7_goesBack_1 : decode cX7_goesBack 1 = .ok (.istore 4, 2) := by decide +kernel
theorem dX7_goesBack_3 : decode cX7_goesBack 3 = .ok (.iload 4, 2) := by decide +kernel
theorem dX7_goesBack_5 : decode cX7_goesBack 5 = .ok (.ifCond .le 7, 3) := by decide +kernel
theorem dX7_goesBack_8 : decode cX7_goesBack 8 = .ok (.iconst 1, 1) := by decide +kernel
theorem dX7_goesBack_9 : decode cX7_goesBack 9 = .ok (.goto 4, 3) := by decide +kernel
theorem dX7_goesBack_12 : decode cX7_goesBack 12 = .ok (.iconst 0, 1) := by decide +kernel
theorem dX7_goesBack_13 : decode cX7_goesBack 13 = .ok (.istore 5, 2) := by decide +kernel
theorem dX7_goesBack_15 : decode cX7_goesBack 15 = .ok (.iload 5, 2) := by decide +kernel
theorem dX7_goesBack_17 : decode cX7_goesBack 17 = .ok (.ifCond .eq 71, 3) := by decide +kernel
theorem dX7_goesBack_20 : decode cX7_goesBack 20 = .ok (.aload_n 0, 1) := by decide +kernel
theorem dX7_goesBack_21 : decode cX7_goesBack 21 = .ok (.dup, 1) := by decide +kernel
theorem dX7_goesBack_22 : decode cX7_goesBack 22 = .ok (.getfield 120, 3) := by decide +kernel
theorem dX7_goesBack_25 : decode cX7_goesBack 25 = .ok (.iconst 1, 1) := by decide +kernel
theorem dX7_goesBack_26 : decode cX7_goesBack 26 = .ok (.iadd, 1) := by decide +kernel
theorem dX7_goesBack_27 : decode cX7_goesBack 27 = .ok (.putfield 120, 3) := by decide +kernel
theorem dX7_goesBack_30 : decode cX7_goesBack 30 = .ok (.aload_n 0, 1) := by decide +kernel
theorem dX7_goesBack_31 : decode cX7_goesBack 31 = .ok (.iload_n 1, 1) := by decide +kernel
theorem dX7_goesBack_32 : decode cX7_goesBack 32 = .ok (.bipush 62, 2) := by decide +kernel
theorem dX7_goesBack_34 : decode cX7_goesBack 34 = .ok (.iload 4, 2) := by decide +kernel
theorem dX7_goesBack_36 : decode cX7_goesBack 36 = .ok (.iadd, 1) := by decide +kernel
theorem dX7_goesBack_37 : decode cX7_goesBack 37 = .ok (.iconst 1, 1) := by decide +kernel
theorem dX7_goesBack_38 : decode cX7_goesBack 38 = .ok (.isub, 1) := by decide +kernel
theorem dX7_goesBack_39 : decode cX7_goesBack 39 = .ok (.invokevirtual 46, 3) := by decide +kernel
theorem dX7_goesBack_42 : decode cX7_goesBack 42 = .ok (.iload_n 3, 1) := by decide +kernel
theorem dX7_goesBack_43 : decode cX7_goesBack 43 = .ok (.if_icmp .lt 7, 3) := by decide +kernel
theorem dX7_goesBack_46 : decode cX7_goesBack 46 = .ok (.iconst 1, 1) := by decide +kernel
theorem dX7_goesBack_47 : decode cX7_goesBack 47 = .ok (.goto 4, 3) := by decide +kernel
theorem dX7_goesBack_50 : decode cX7_goesBack 50 = .ok (.iconst 0, 1) := by decide +kernel
theorem dX7_goesBack_51 : decode cX7_goesBack 51 = .ok (.istore 5, 2) := by decide +kernel
theorem dX7_goesBack_53 : decode cX7_goesBack 53 = .ok (.iload 4, 2) := by decide +kernel
theorem dX7_goesBack_55 : decode cX7_goesBack 55 = .ok (.iload 5, 2) := by decide +kernel
theorem dX7_goesBack_57 : decode cX7_goesBack 57 = .ok (.ifCond .eq 7, 3) := by decide +kernel
theorem dX7_goesBack_60 : decode cX7_goesBack 60 = .ok (.iconst 1, 1) := by decide +kernel
theorem dX7_goesBack_61 : decode cX7_goesBack 61 = .ok (.goto 4, 3) := by decide +kernel
theorem dX7_goesBack_64 : decode cX7_goesBack 64 = .ok (.iconst 0, 1) := by decide +kernel
theorem dX7_goesBack_65 : decode cX7_goesBack 65 = .ok (.isub, 1) := by decide +kernel
theorem dX7_goesBack_66 : decode cX7_goesBack 66 = .ok (.istore 4, 2) := by decide +kernel
theorem dX7_goesBack_68 : decode cX7_goesBack 68 = .ok (.iload 5, 2) := by decide +kernel
theorem dX7_goesBack_70 : decode cX7_goesBack 70 = .ok (.ifCond .eq 12, 3) := by decide +kernel
theorem dX7_goesBack_73 : decode cX7_goesBack 73 = .ok (.iload 4, 2) := by decide +kernel
theorem dX7_goesBack_75 : decode cX7_goesBack 75 = .ok (.ifCond .le 7, 3) := by decide +kernel
theorem dX7_goesBack_78 : decode cX7_goesBack 78 = .ok (.iconst 1, 1) := by decide +kernel
theorem dX7_goesBack_79 : decode cX7_goesBack 79 = .ok (.goto 4, 3) := by decide +kernel
theorem dX7_goesBack_82 : decode cX7_goesBack 82 = .ok (.iconst 0, 1) := by decide +kernel
theorem dX7_goesBack_83 : decode cX7_goesBack 83 = .ok (.istore 5, 2) := by decide +kernel
theorem dX7_goesBack_85 : decode cX7_goesBack 85 = .ok (.goto (-70), 3) := by decide +kernel
theorem dX7_goesBack_88 : decode cX7_goesBack 88 = .ok (.iload 4, 2) := by decide +kernel
theorem dX7_goesBack_90 : decode cX7_goesBack 90 = .ok (.ireturn, 1) := by decide +kernel
theorem dX7_search_0 : decode cX7_search 0 = .ok (.aload_n 0, 1) := by decide +kernel
theorem dX7_search_1 : decode cX7_search 1 = .ok (.iload_n 1, 1) := by decide +kernel
theorem dX7_search_2 : decode cX7_search 2 = .ok (.invokevirtual 80, 3) := by decide +kernel
theorem dX7_search_5 : decode cX7_search 5 = .ok (.ifCond .ne 9, 3) := by decide +kernel
theorem dX7_search_8 : decode cX7_search 8 = .ok (.aload_n 0, 1) := by decide +kernel
theorem dX7_search_9 : decode cX7_search 9 = .ok (.iconst 1, 1) := by decide +kernel
theorem dX7_search_10 : decode cX7_search 10 = .ok (.invokevirtual 84, 3) := by decide +kernel
theorem dX7_search_13 : decode cX7_search 13 = .ok (.ireturn, 1) := by decide +kernel
theorem dX7_search_14 : decode cX7_search 14 = .ok (.iload_n 2, 1) := by decide +kernel
theorem dX7_search_15 : decode cX7_search 15 = .ok (.invokestatic 133, 3) := by decide +kernel
theorem dX7_search_18 : decode cX7_search 18 = .ok (.ifCond .ne 9, 3) := by decide +kernel
theorem dX7_search_21 : decode cX7_search 21 = .ok (.aload_n 0, 1) := by decide +kernel
theorem dX7_search_22 : decode cX7_search 22 = .ok (.iconst 2, 1) := by decide +kernel
theorem dX7_search_23 : decode cX7_search 23 = .ok (.invokevirtual 84, 3) := by decide +kernel
theorem dX7_search_26 : decode cX7_search 26 = .ok (.ireturn, 1) := by decide +kernel
theorem dX7_search_27 : decode cX7_search 27 = .ok (.aload_n 0, 1) := by decide +kernel
theorem dX7_search_28 : decode cX7_search 28 = .ok (.invokevirtual 87, 3) := by decide +kernel
theorem dX7_search_31 : decode cX7_search 31 = .ok (.aload_n 0, 1) := by decide +kernel
theorem dX7_search_32 : decode cX7_search 32 = .ok (.iload_n 1, 1) := by decide +kernel
theorem dX7_search_33 : decode cX7_search 33 = .ok (.invokevirtual 136, 3) := by decide +kernel
theorem dX7_search_36 : decode cX7_search 36 = .ok (.aload_n 0, 1) := by decide +kernel
theorem dX7_search_37 : decode cX7_search 37 = .ok (.iload_n 2, 1) := by decide +kernel
theorem dX7_search_38 : decode cX7_search 38 = .ok (.invokevirtual 139, 3) := by decide +kernel
theorem dX7_search_41 : decode cX7_search 41 = .ok (.aload_n 0, 1) := by decide +kernel
theorem dX7_search_42 : decode cX7_search 42 = .ok (.getfield 7, 3) := by decide +kernel
theorem dX7_search_45 : decode cX7_search 45 = .ok (.iconst 3, 1) := by decide +kernel
theorem dX7_search_46 : decode cX7_search 46 = .ok (.dup2, 1) := by decide +kernel
theorem dX7_search_47 : decode cX7_search 47 = .ok (.iaload, 1) := by decide +kernel
theorem dX7_search_48 : decode cX7_search 48 = .ok (.iconst 1, 1) := by decide +kernel
theorem dX7_search_49 : decode cX7_search 49 = .ok (.iadd, 1) := by decide +kernel
theorem dX7_search_50 : decode cX7_search 50 = .ok (.iastore, 1) := by decide +kernel
theorem dX7_search_51 : decode cX7_search 51 = .ok (.aload_n 0, 1) := by decide +kernel
theorem dX7_search_52 : decode cX7_search 52 = .ok (.getfield 7, 3) := by decide +kernel
theorem dX7_search_55 : decode cX7_search 55 = .ok (.iconst 4, 1) := by decide +kernel
theorem dX7_search_56 : decode cX7_search 56 = .ok (.dup2, 1) := by decide +kernel
theorem dX7_search_57 : decode cX7_search 57 = .ok (.iaload, 1) := by decide +kernel
theorem dX7_search_58 : decode cX7_search 58 = .ok (.aload_n 0, 1) := by decide +kernel
theorem dX7_search_59 : decode cX7_search 59 = .ok (.getfield 120, 3) := by decide +kernel
theorem dX7_search_62 : decode cX7_search 62 = .ok (.iadd, 1) := by decide +kernel
theorem dX7_search_63 : decode cX7_search 63 = .ok (.iastore, 1) := by decide +kernel
theorem dX7_search_64 : decode cX7_search 64 = .ok (.aload_n 0, 1) := by decide +kernel
theorem dX7_search_65 : decode cX7_search 65 = .ok (.aload_n 0, 1) := by decide +kernel
theorem dX7_search_66 : decode cX7_search 66 = .ok (.getfield 28, 3) := by decide +kernel
theorem dX7_search_69 : decode cX7_search 69 = .ok (.aload_n 0, 1) := by decide +kernel
theorem dX7_search_70 : decode cX7_search 70 = .ok (.getfield 117, 3) := by decide +kernel
theorem dX7_search_73 : decode cX7_search 73 = .ok (.iconst 1, 1) := by decide +kernel
theorem dX7_search_74 : decode cX7_search 74 = .ok (.isub, 1) := by decide +kernel
theorem dX7_search_75 : decode cX7_search 75 = .ok (.iaload, 1) := by decide +kernel
theorem dX7_search_76 : decode cX7_search 76 = .ok (.invokevirtual 90, 3) := by decide +kernel
theorem dX7_search_79 : decode cX7_search 79 = .ok (.ireturn, 1) := by decide +kernel
theorem dX7_asks_0 : decode cX7_asks 0 = .ok (.aload_n 0, 1) := by decide +kernel
theorem dX7_asks_1 : decode cX7_asks 1 = .ok (.iload_n 1, 1) := by decide +kernel
theorem dX7_asks_2 : decode cX7_asks 2 = .ok (.invokevirtual 80, 3) := by decide +kernel
theorem dX7_asks_5 : decode cX7_asks 5 = .ok (.ifCond .ne 5, 3) := by decide +kernel
theorem dX7_asks_8 : decode cX7_asks 8 = .ok (.iconst 1, 1) := by decide +kernel
theorem dX7_asks_9 : decode cX7_asks 9 = .ok (.ireturn, 1) := by decide +kernel
theorem dX7_asks_10 : decode cX7_asks 10 = .ok (.iload_n 2, 1) := by decide +kernel
theorem dX7_asks_11 : decode cX7_asks 11 = .ok (.invokestatic 133, 3) := by decide +kernel
theorem dX7_asks_14 : decode cX7_asks 14 = .ok (.ifCond .ne 5, 3) := by decide +kernel
theorem dX7_asks_17 : decode cX7_asks 17 = .ok (.iconst 2, 1) := by decide +kernel
theorem dX7_asks_18 : decode cX7_asks 18 = .ok (.ireturn, 1) := by decide +kernel
theorem dX7_asks_19 : decode cX7_asks 19 = .ok (.aload_n 0, 1) := by decide +kernel
theorem dX7_asks_20 : decode cX7_asks 20 = .ok (.iload_n 1, 1) := by decide +kernel
theorem dX7_asks_21 : decode cX7_asks 21 = .ok (.invokevirtual 136, 3) := by decide +kernel
theorem dX7_asks_24 : decode cX7_asks 24 = .ok (.aload_n 0, 1) := by decide +kernel
theorem dX7_asks_25 : decode cX7_asks 25 = .ok (.iload_n 2, 1) := by decide +kernel
theorem dX7_asks_26 : decode cX7_asks 26 = .ok (.invokevirtual 139, 3) := by decide +kernel
theorem dX7_asks_29 : decode cX7_asks 29 = .ok (.iconst 0, 1) := by decide +kernel
theorem dX7_asks_30 : decode cX7_asks 30 = .ok (.ireturn, 1) := by decide +kernel
theorem dX7_probes_0 : decode cX7_probes 0 = .ok (.aload_n 0, 1) := by decide +kernel
theorem dX7_probes_1 : decode cX7_probes 1 = .ok (.iload_n 1, 1) := by decide +kernel
theorem dX7_probes_2 : decode cX7_probes 2 = .ok (.iload_n 2, 1) := by decide +kernel
theorem dX7_probes_3 : decode cX7_probes 3 = .ok (.invokevirtual 142, 3) := by decide +kernel
theorem dX7_probes_6 : decode cX7_probes 6 = .ok (.istore_n 3, 1) := by decide +kernel
theorem dX7_probes_7 : decode cX7_probes 7 = .ok (.iload_n 3, 1) := by decide +kernel
theorem dX7_probes_8 : decode cX7_probes 8 = .ok (.ifCond .le 11, 3) := by decide +kernel
theorem dX7_probes_11 : decode cX7_probes 11 = .ok (.aload_n 0, 1) := by decide +kernel
theorem dX7_probes_12 : decode cX7_probes 12 = .ok (.iload_n 3, 1) := by decide +kernel
theorem dX7_probes_13 : decode cX7_probes 13 = .ok (.invokevirtual 84, 3) := by decide +kernel
theorem dX7_probes_16 : decode cX7_probes 16 = .ok (.goto 11, 3) := by decide +kernel
theorem dX7_probes_19 : decode cX7_probes 19 = .ok (.aload_n 0, 1) := by decide +kernel
theorem dX7_probes_20 : decode cX7_probes 20 = .ok (.aload_n 0, 1) := by decide +kernel
theorem dX7_probes_21 : decode cX7_probes 21 = .ok (.getfield 120, 3) := by decide +kernel
theorem dX7_probes_24 : decode cX7_probes 24 = .ok (.invokevirtual 38, 3) := by decide +kernel
theorem dX7_probes_27 : decode cX7_probes 27 = .ok (.ireturn, 1) := by decide +kernel
theorem dX7_plainProbes_0 : decode cX7_plainProbes 0 = .ok (.aload_n 0, 1) := by decide +kernel
theorem dX7_plainProbes_1 : decode cX7_plainProbes 1 = .ok (.iload_n 1, 1) := by decide +kernel
theorem dX7_plainProbes_2 : decode cX7_plainProbes 2 = .ok (.iload_n 2, 1) := by decide +kernel
theorem dX7_plainProbes_3 : decode cX7_plainProbes 3 = .ok (.invokevirtual 142, 3) := by decide +kernel
theorem dX7_plainProbes_6 : decode cX7_plainProbes 6 = .ok (.istore_n 3, 1) := by decide +kernel
theorem dX7_plainProbes_7 : decode cX7_plainProbes 7 = .ok (.iload_n 3, 1) := by decide +kernel
theorem dX7_plainProbes_8 : decode cX7_plainProbes 8 = .ok (.ifCond .le 9, 3) := by decide +kernel
theorem dX7_plainProbes_11 : decode cX7_plainProbes 11 = .ok (.aload_n 0, 1) := by decide +kernel
theorem dX7_plainProbes_12 : decode cX7_plainProbes 12 = .ok (.iload_n 3, 1) := by decide +kernel
theorem dX7_plainProbes_13 : decode cX7_plainProbes 13 = .ok (.invokevirtual 84, 3) := by decide +kernel
theorem dX7_plainProbes_16 : decode cX7_plainProbes 16 = .ok (.ireturn, 1) := by decide +kernel
theorem dX7_plainProbes_17 : decode cX7_plainProbes 17 = .ok (.aload_n 0, 1) := by decide +kernel
theorem dX7_plainProbes_18 : decode cX7_plainProbes 18 = .ok (.iconst 0, 1) := by decide +kernel
theorem dX7_plainProbes_19 : decode cX7_plainProbes 19 = .ok (.putfield 120, 3) := by decide +kernel
theorem dX7_plainProbes_22 : decode cX7_plainProbes 22 = .ok (.iconst 0, 1) := by decide +kernel
theorem dX7_plainProbes_23 : decode cX7_plainProbes 23 = .ok (.istore 4, 2) := by decide +kernel
theorem dX7_plainProbes_25 : decode cX7_plainProbes 25 = .ok (.iconst 0, 1) := by decide +kernel
theorem dX7_plainProbes_26 : decode cX7_plainProbes 26 = .ok (.istore 5, 2) := by decide +kernel
theorem dX7_plainProbes_28 : decode cX7_plainProbes 28 = .ok (.iload 5, 2) := by decide +kernel
theorem dX7_plainProbes_30 : decode cX7_plainProbes 30 = .ok (.aload_n 0, 1) := by decide +kernel
theorem dX7_plainProbes_31 : decode cX7_plainProbes 31 = .ok (.getfield 117, 3) := by decide +kernel
theorem dX7_plainProbes_34 : decode cX7_plainProbes 34 = .ok (.if_icmp .ge 64, 3) := by decide +kernel
theorem dX7_plainProbes_37 : decode cX7_plainProbes 37 = .ok (.aload_n 0, 1) := by decide +kernel
theorem dX7_plainProbes_38 : decode cX7_plainProbes 38 = .ok (.aload_n 0, 1) := by decide +kernel
theorem dX7_plainProbes_39 : decode cX7_plainProbes 39 = .ok (.getfield 22, 3) := by decide +kernel
theorem dX7_plainProbes_42 : decode cX7_plainProbes 42 = .ok (.iload 5, 2) := by decide +kernel
theorem dX7_plainProbes_44 : decode cX7_plainProbes 44 = .ok (.iaload, 1) := by decide +kernel
theorem dX7_plainProbes_45 : decode cX7_plainProbes 45 = .ok (.aload_n 0, 1) := by decide +kernel
theorem dX7_plainProbes_46 : decode cX7_plainProbes 46 = .ok (.aload_n 0, 1) := by decide +kernel
theorem dX7_plainProbes_47 : decode cX7_plainProbes 47 = .ok (.getfield 22, 3) := by decide +kernel
theorem dX7_plainProbes_50 : decode cX7_plainProbes 50 = .ok (.iload 5, 2) := by decide +kernel
theorem dX7_plainProbes_52 : decode cX7_plainProbes 52 = .ok (.iaload, 1) := by decide +kernel
theorem dX7_plainProbes_53 : decode cX7_plainProbes 53 = .ok (.iconst 4, 1) := by decide +kernel
theorem dX7_plainProbes_54 : decode cX7_plainProbes 54 = .ok (.aload_n 0, 1) := by decide +kernel
theorem dX7_plainProbes_55 : decode cX7_plainProbes 55 = .ok (.aload_n 0, 1) := by decide +kernel
theorem dX7_plainProbes_56 : decode cX7_plainProbes 56 = .ok (.getfield 22, 3) := by decide +kernel
theorem dX7_plainProbes_59 : decode cX7_plainProbes 59 = .ok (.iload 5, 2) := by decide +kernel
theorem dX7_plainProbes_61 : decode cX7_plainProbes 61 = .ok (.iaload, 1) := by decide +kernel
theorem dX7_plainProbes_62 : decode cX7_plainProbes 62 = .ok (.iconst 3, 1) := by decide +kernel
theorem dX7_plainProbes_63 : decode cX7_plainProbes 63 = .ok (.invokevirtual 46, 3) := by decide +kernel
theorem dX7_plainProbes_66 : decode cX7_plainProbes 66 = .ok (.iload_n 2, 1) := by decide +kernel
theorem dX7_plainProbes_67 : decode cX7_plainProbes 67 = .ok (.invokevirtual 123, 3) := by decide +kernel
theorem dX7_plainProbes_70 : decode cX7_plainProbes 70 = .ok (.iload_n 2, 1) := by decide +kernel
theorem dX7_plainProbes_71 : decode cX7_plainProbes 71 = .ok (.invokevirtual 130, 3) := by decide +kernel
theorem dX7_plainProbes_74 : decode cX7_plainProbes 74 = .ok (.istore 6, 2) := by decide +kernel
theorem dX7_plainProbes_76 : decode cX7_plainProbes 76 = .ok (.iload 4, 2) := by decide +kernel
theorem dX7_plainProbes_78 : decode cX7_plainProbes 78 = .ok (.iload 6, 2) := by decide +kernel
theorem dX7_plainProbes_80 : decode cX7_plainProbes 80 = .ok (.iconst (-1), 1) := by decide +kernel
theorem dX7_plainProbes_81 : decode cX7_plainProbes 81 = .ok (.if_icmp .ne 7, 3) := by decide +kernel
theorem dX7_plainProbes_84 : decode cX7_plainProbes 84 = .ok (.iconst 0, 1) := by decide +kernel
theorem dX7_plainProbes_85 : decode cX7_plainProbes 85 = .ok (.goto 4, 3) := by decide +kernel
theorem dX7_plainProbes_88 : decode cX7_plainProbes 88 = .ok (.iconst 1, 1) := by decide +kernel
theorem dX7_plainProbes_89 : decode cX7_plainProbes 89 = .ok (.iadd, 1) := by decide +kernel
theorem dX7_plainProbes_90 : decode cX7_plainProbes 90 = .ok (.istore 4, 2) := by decide +kernel
theorem dX7_plainProbes_92 : decode cX7_plainProbes 92 = .ok (.iinc 5 1, 3) := by decide +kernel
theorem dX7_plainProbes_95 : decode cX7_plainProbes 95 = .ok (.goto (-67), 3) := by decide +kernel
theorem dX7_plainProbes_98 : decode cX7_plainProbes 98 = .ok (.aload_n 0, 1) := by decide +kernel
theorem dX7_plainProbes_99 : decode cX7_plainProbes 99 = .ok (.iload 4, 2) := by decide +kernel
theorem dX7_plainProbes_101 : decode cX7_plainProbes 101 = .ok (.ifCond .ge 8, 3) := by decide +kernel
theorem dX7_plainProbes_104 : decode cX7_plainProbes 104 = .ok (.iload 4, 2) := by decide +kernel
theorem dX7_plainProbes_106 : decode cX7_plainProbes 106 = .ok (.goto 7, 3) := by decide +kernel
theorem dX7_plainProbes_109 : decode cX7_plainProbes 109 = .ok (.aload_n 0, 1) := by decide +kernel
theorem dX7_plainProbes_110 : decode cX7_plainProbes 110 = .ok (.getfield 120, 3) := by decide +kernel
theorem dX7_plainProbes_113 : decode cX7_plainProbes 113 = .ok (.invokevirtual 38, 3) := by decide +kernel
theorem dX7_plainProbes_116 : decode cX7_plainProbes 116 = .ok (.ireturn, 1) := by decide +kernel
theorem dX7_place_0 : decode cX7_place 0 = .ok (.aload_n 0, 1) := by decide +kernel
theorem dX7_place_1 : decode cX7_place 1 = .ok (.iload_n 1, 1) := by decide +kernel
theorem dX7_place_2 : decode cX7_place 2 = .ok (.iload_n 2, 1) := by decide +kernel
theorem dX7_place_3 : decode cX7_place 3 = .ok (.invokevirtual 142, 3) := by decide +kernel
theorem dX7_place_6 : decode cX7_place 6 = .ok (.istore_n 3, 1) := by decide +kernel
theorem dX7_place_7 : decode cX7_place 7 = .ok (.iload_n 3, 1) := by decide +kernel
theorem dX7_place_8 : decode cX7_place 8 = .ok (.ifCond .le 11, 3) := by decide +kernel
theorem dX7_place_11 : decode cX7_place 11 = .ok (.aload_n 0, 1) := by decide +kernel
theorem dX7_place_12 : decode cX7_place 12 = .ok (.iload_n 3, 1) := by decide +kernel
theorem dX7_place_13 : decode cX7_place 13 = .ok (.invokevirtual 84, 3) := by decide +kernel
theorem dX7_place_16 : decode cX7_place 16 = .ok (.goto 18, 3) := by decide +kernel
theorem dX7_place_19 : decode cX7_place 19 = .ok (.aload_n 0, 1) := by decide +kernel
theorem dX7_place_20 : decode cX7_place 20 = .ok (.aload_n 0, 1) := by decide +kernel
theorem dX7_place_21 : decode cX7_place 21 = .ok (.getfield 25, 3) := by decide +kernel
theorem dX7_place_24 : decode cX7_place 24 = .ok (.aload_n 0, 1) := by decide +kernel
theorem dX7_place_25 : decode cX7_place 25 = .ok (.getfield 117, 3) := by decide +kernel
theorem dX7_place_28 : decode cX7_place 28 = .ok (.iconst 1, 1) := by decide +kernel
theorem dX7_place_29 : decode cX7_place 29 = .ok (.isub, 1) := by decide +kernel
theorem dX7_place_30 : decode cX7_place 30 = .ok (.iaload, 1) := by decide +kernel
theorem dX7_place_31 : decode cX7_place 31 = .ok (.invokevirtual 38, 3) := by decide +kernel
theorem dX7_place_34 : decode cX7_place 34 = .ok (.ireturn, 1) := by decide +kernel
theorem dX7_leastStep_0 : decode cX7_leastStep 0 = .ok (.iconst (-1), 1) := by decide +kernel
theorem dX7_leastStep_1 : decode cX7_leastStep 1 = .ok (.istore_n 1, 1) := by decide +kernel
theorem dX7_leastStep_2 : decode cX7_leastStep 2 = .ok (.iconst 0, 1) := by decide +kernel
theorem dX7_leastStep_3 : decode cX7_leastStep 3 = .ok (.istore_n 2, 1) := by decide +kernel
theorem dX7_leastStep_4 : decode cX7_leastStep 4 = .ok (.iload_n 2, 1) := by decide +kernel
theorem dX7_leastStep_5 : decode cX7_leastStep 5 = .ok (.aload_n 0, 1) := by decide +kernel
theorem dX7_leastStep_6 : decode cX7_leastStep 6 = .ok (.getfield 117, 3) := by decide +kernel
theorem dX7_leastStep_9 : decode cX7_leastStep 9 = .ok (.if_icmp .ge 45, 3) := by decide +kernel
theorem dX7_leastStep_12 : decode cX7_leastStep 12 = .ok (.aload_n 0, 1) := by decide +kernel
theorem dX7_leastStep_13 : decode cX7_leastStep 13 = .ok (.getfield 28, 3) := by decide +kernel
theorem dX7_leastStep_16 : decode cX7_leastStep 16 = .ok (.iload_n 2, 1) := by decide +kernel
theorem dX7_leastStep_17 : decode cX7_leastStep 17 = .ok (.iaload, 1) := by decide +kernel
theorem dX7_leastStep_18 : decode cX7_leastStep 18 = .ok (.iconst (-1), 1) := by decide +kernel
theorem dX7_leastStep_19 : decode cX7_leastStep 19 = .ok (.if_icmp .eq 27, 3) := by decide +kernel
theorem dX7_leastStep_22 : decode cX7_leastStep 22 = .ok (.iload_n 1, 1) := by decide +kernel
theorem dX7_leastStep_23 : decode cX7_leastStep 23 = .ok (.iconst (-1), 1) := by decide +kernel
theorem dX7_leastStep_24 : decode cX7_leastStep 24 = .ok (.if_icmp .eq 18, 3) := by decide +kernel
theorem dX7_leastStep_27 : decode cX7_leastStep 27 = .ok (.aload_n 0, 1) := by decide +kernel
theorem dX7_leastStep_28 : decode cX7_leastStep 28 = .ok (.getfield 28, 3) := by decide +kernel
theorem dX7_leastStep_31 : decode cX7_leastStep 31 = .ok (.iload_n 2, 1) := by decide +kernel
theorem dX7_leastStep_32 : decode cX7_leastStep 32 = .ok (.iaload, 1) := by decide +kernel
theorem dX7_leastStep_33 : decode cX7_leastStep 33 = .ok (.aload_n 0, 1) := by decide +kernel
theorem dX7_leastStep_34 : decode cX7_leastStep 34 = .ok (.getfield 28, 3) := by decide +kernel
theorem dX7_leastStep_37 : decode cX7_leastStep 37 = .ok (.iload_n 1, 1) := by decide +kernel
theorem dX7_leastStep_38 : decode cX7_leastStep 38 = .ok (.iaload, 1) := by decide +kernel
theorem dX7_leastStep_39 : decode cX7_leastStep 39 = .ok (.if_icmp .ge 7, 3) := by decide +kernel
theorem dX7_leastStep_42 : decode cX7_leastStep 42 = .ok (.iload_n 2, 1) := by decide +kernel
theorem dX7_leastStep_43 : decode cX7_leastStep 43 = .ok (.goto 4, 3) := by decide +kernel
theorem dX7_leastStep_46 : decode cX7_leastStep 46 = .ok (.iload_n 1, 1) := by decide +kernel
theorem dX7_leastStep_47 : decode cX7_leastStep 47 = .ok (.istore_n 1, 1) := by decide +kernel
theorem dX7_leastStep_48 : decode cX7_leastStep 48 = .ok (.iinc 2 1, 3) := by decide +kernel
theorem dX7_leastStep_51 : decode cX7_leastStep 51 = .ok (.goto (-47), 3) := by decide +kernel
theorem dX7_leastStep_54 : decode cX7_leastStep 54 = .ok (.iload_n 1, 1) := by decide +kernel
theorem dX7_leastStep_55 : decode cX7_leastStep 55 = .ok (.ireturn, 1) := by decide +kernel
theorem dX7_leastOnPath_0 : decode cX7_leastOnPath 0 = .ok (.aload_n 0, 1) := by decide +kernel
theorem dX7_leastOnPath_1 : decode cX7_leastOnPath 1 = .ok (.iload_n 1, 1) := by decide +kernel
theorem dX7_leastOnPath_2 : decode cX7_leastOnPath 2 = .ok (.iload_n 2, 1) := by decide +kernel
theorem dX7_leastOnPath_3 : decode cX7_leastOnPath 3 = .ok (.invokevirtual 142, 3) := by decide +kernel
theorem dX7_leastOnPath_6 : decode cX7_leastOnPath 6 = .ok (.istore_n 3, 1) := by decide +kernel
theorem dX7_leastOnPath_7 : decode cX7_leastOnPath 7 = .ok (.iload_n 3, 1) := by decide +kernel
theorem dX7_leastOnPath_8 : decode cX7_leastOnPath 8 = .ok (.ifCond .le 9, 3) := by decide +kernel
theorem dX7_leastOnPath_11 : decode cX7_leastOnPath 11 = .ok (.aload_n 0, 1) := by decide +kernel
theorem dX7_leastOnPath_12 : decode cX7_leastOnPath 12 = .ok (.iload_n 3, 1) := by decide +kernel
theorem dX7_leastOnPath_13 : decode cX7_leastOnPath 13 = .ok (.invokevirtual 84, 3) := by decide +kernel
theorem dX7_leastOnPath_16 : decode cX7_leastOnPath 16 = .ok (.ireturn, 1) := by decide +kernel
theorem dX7_leastOnPath_17 : decode cX7_leastOnPath 17 = .ok (.aload_n 0, 1) := by decide +kernel
theorem dX7_leastOnPath_18 : decode cX7_leastOnPath 18 = .ok (.invokevirtual 145, 3) := by decide +kernel
theorem dX7_leastOnPath_21 : decode cX7_leastOnPath 21 = .ok (.istore 4, 2) := by decide +kernel
theorem dX7_leastOnPath_23 : decode cX7_leastOnPath 23 = .ok (.aload_n 0, 1) := by decide +kernel
theorem dX7_leastOnPath_24 : decode cX7_leastOnPath 24 = .ok (.iload 4, 2) := by decide +kernel
theorem dX7_leastOnPath_26 : decode cX7_leastOnPath 26 = .ok (.iconst (-1), 1) := by decide +kernel
theorem dX7_leastOnPath_27 : decode cX7_leastOnPath 27 = .ok (.if_icmp .ne 7, 3) := by decide +kernel
theorem dX7_leastOnPath_30 : decode cX7_leastOnPath 30 = .ok (.iconst (-1), 1) := by decide +kernel
theorem dX7_leastOnPath_31 : decode cX7_leastOnPath 31 = .ok (.goto 10, 3) := by decide +kernel
theorem dX7_leastOnPath_34 : decode cX7_leastOnPath 34 = .ok (.aload_n 0, 1) := by decide +kernel
theorem dX7_leastOnPath_35 : decode cX7_leastOnPath 35 = .ok (.getfield 28, 3) := by decide +kernel
theorem dX7_leastOnPath_38 : decode cX7_leastOnPath 38 = .ok (.iload 4, 2) := by decide +kernel
theorem dX7_leastOnPath_40 : decode cX7_leastOnPath 40 = .ok (.iaload, 1) := by decide +kernel
theorem dX7_leastOnPath_41 : decode cX7_leastOnPath 41 = .ok (.invokevirtual 38, 3) := by decide +kernel
theorem dX7_leastOnPath_44 : decode cX7_leastOnPath 44 = .ok (.ireturn, 1) := by decide +kernel
theorem dX7_nearestOnPath_0 : decode cX7_nearestOnPath 0 = .ok (.aload_n 0, 1) := by decide +kernel
theorem dX7_nearestOnPath_1 : decode cX7_nearestOnPath 1 = .ok (.iload_n 1, 1) := by decide +kernel
theorem dX7_nearestOnPath_2 : decode cX7_nearestOnPath 2 = .ok (.iload_n 2, 1) := by decide +kernel
theorem dX7_nearestOnPath_3 : decode cX7_nearestOnPath 3 = .ok (.invokevirtual 142, 3) := by decide +kernel
theorem dX7_nearestOnPath_6 : decode cX7_nearestOnPath 6 = .ok (.istore_n 3, 1) := by decide +kernel
theorem dX7_nearestOnPath_7 : decode cX7_nearestOnPath 7 = .ok (.iload_n 3, 1) := by decide +kernel
