theorem dX7_init_0 : decode cX7_init 0 = .ok (.aload_n 0, 1) := by decide +kernel
theorem dX7_init_1 : decode cX7_init 1 = .ok (.invokespecial 1, 3) := by decide +kernel
theorem dX7_init_4 : decode cX7_init 4 = .ok (.aload_n 0, 1) := by decide +kernel
theorem dX7_init_5 : decode cX7_init 5 = .ok (.sipush 8183, 3) := by decide +kernel
theorem dX7_init_8 : decode cX7_init 8 = .ok (.newarray .int, 2) := by decide +kernel
theorem dX7_init_10 : decode cX7_init 10 = .ok (.putfield 7, 3) := by decide +kernel
theorem dX7_init_13 : decode cX7_init 13 = .ok (.aload_n 0, 1) := by decide +kernel
theorem dX7_init_14 : decode cX7_init 14 = .ok (.sipush 32732, 3) := by decide +kernel
theorem dX7_init_17 : decode cX7_init 17 = .ok (.newarray .int, 2) := by decide +kernel
theorem dX7_init_19 : decode cX7_init 19 = .ok (.putfield 13, 3) := by decide +kernel
theorem dX7_init_22 : decode cX7_init 22 = .ok (.aload_n 0, 1) := by decide +kernel
theorem dX7_init_23 : decode cX7_init 23 = .ok (.sipush 8183, 3) := by decide +kernel
theorem dX7_init_26 : decode cX7_init 26 = .ok (.newarray .int, 2) := by decide +kernel
theorem dX7_init_28 : decode cX7_init 28 = .ok (.putfield 16, 3) := by decide +kernel
theorem dX7_init_31 : decode cX7_init 31 = .ok (.aload_n 0, 1) := by decide +kernel
theorem dX7_init_32 : decode cX7_init 32 = .ok (.bipush 32, 2) := by decide +kernel
theorem dX7_init_34 : decode cX7_init 34 = .ok (.newarray .int, 2) := by decide +kernel
theorem dX7_init_36 : decode cX7_init 36 = .ok (.putfield 19, 3) := by decide +kernel
theorem dX7_init_39 : decode cX7_init 39 = .ok (.aload_n 0, 1) := by decide +kernel
theorem dX7_init_40 : decode cX7_init 40 = .ok (.bipush 15, 2) := by decide +kernel
theorem dX7_init_42 : decode cX7_init 42 = .ok (.newarray .int, 2) := by decide +kernel
theorem dX7_init_44 : decode cX7_init 44 = .ok (.putfield 22, 3) := by decide +kernel
theorem dX7_init_47 : decode cX7_init 47 = .ok (.aload_n 0, 1) := by decide +kernel
theorem dX7_init_48 : decode cX7_init 48 = .ok (.bipush 15, 2) := by decide +kernel
theorem dX7_init_50 : decode cX7_init 50 = .ok (.newarray .int, 2) := by decide +kernel
theorem dX7_init_52 : decode cX7_init 52 = .ok (.putfield 25, 3) := by decide +kernel
theorem dX7_init_55 : decode cX7_init 55 = .ok (.aload_n 0, 1) := by decide +kernel
theorem dX7_init_56 : decode cX7_init 56 = .ok (.bipush 15, 2) := by decide +kernel
theorem dX7_init_58 : decode cX7_init 58 = .ok (.newarray .int, 2) := by decide +kernel
theorem dX7_init_60 : decode cX7_init 60 = .ok (.putfield 28, 3) := by decide +kernel
theorem dX7_init_63 : decode cX7_init 63 = .ok (.aload_n 0, 1) := by decide +kernel
theorem dX7_init_64 : decode cX7_init 64 = .ok (.getfield 7, 3) := by decide +kernel
theorem dX7_init_67 : decode cX7_init 67 = .ok (.iconst 0, 1) := by decide +kernel
theorem dX7_init_68 : decode cX7_init 68 = .ok (.iconst 1, 1) := by decide +kernel
theorem dX7_init_69 : decode cX7_init 69 = .ok (.iastore, 1) := by decide +kernel
theorem dX7_init_70 : decode cX7_init 70 = .ok (.aload_n 0, 1) := by decide +kernel
theorem dX7_init_71 : decode cX7_init 71 = .ok (.getfield 7, 3) := by decide +kernel
theorem dX7_init_74 : decode cX7_init 74 = .ok (.iconst 1, 1) := by decide +kernel
theorem dX7_init_75 : decode cX7_init 75 = .ok (.iconst 4, 1) := by decide +kernel
theorem dX7_init_76 : decode cX7_init 76 = .ok (.iastore, 1) := by decide +kernel
theorem dX7_init_77 : decode cX7_init 77 = .ok (.aload_n 0, 1) := by decide +kernel
theorem dX7_init_78 : decode cX7_init 78 = .ok (.getfield 7, 3) := by decide +kernel
theorem dX7_init_81 : decode cX7_init 81 = .ok (.iconst 2, 1) := by decide +kernel
theorem dX7_init_82 : decode cX7_init 82 = .ok (.iconst 2, 1) := by decide +kernel
theorem dX7_init_83 : decode cX7_init 83 = .ok (.iastore, 1) := by decide +kernel
theorem dX7_init_84 : decode cX7_init 84 = .ok (.aload_n 0, 1) := by decide +kernel
theorem dX7_init_85 : decode cX7_init 85 = .ok (.getfield 7, 3) := by decide +kernel
theorem dX7_init_88 : decode cX7_init 88 = .ok (.bipush 8, 2) := by decide +kernel
theorem dX7_init_90 : decode cX7_init 90 = .ok (.iconst (-1), 1) := by decide +kernel
theorem dX7_init_91 : decode cX7_init 91 = .ok (.iastore, 1) := by decide +kernel
theorem dX7_init_92 : decode cX7_init 92 = .ok (.aload_n 0, 1) := by decide +kernel
theorem dX7_init_93 : decode cX7_init 93 = .ok (.getfield 7, 3) := by decide +kernel
theorem dX7_init_96 : decode cX7_init 96 = .ok (.bipush 9, 2) := by decide +kernel
theorem dX7_init_98 : decode cX7_init 98 = .ok (.iconst (-1), 1) := by decide +kernel
theorem dX7_init_99 : decode cX7_init 99 = .ok (.iastore, 1) := by decide +kernel
theorem dX7_init_100 : decode cX7_init 100 = .ok (.aload_n 0, 1) := by decide +kernel
theorem dX7_init_101 : decode cX7_init 101 = .ok (.getfield 7, 3) := by decide +kernel
theorem dX7_init_104 : decode cX7_init 104 = .ok (.bipush 10, 2) := by decide +kernel
theorem dX7_init_106 : decode cX7_init 106 = .ok (.iconst (-1), 1) := by decide +kernel
theorem dX7_init_107 : decode cX7_init 107 = .ok (.iastore, 1) := by decide +kernel
theorem dX7_init_108 : decode cX7_init 108 = .ok (.return_, 1) := by decide +kernel
theorem dX7_thrown_0 : decode cX7_thrown 0 = .ok (.aload_n 0, 1) := by decide +kernel
theorem dX7_thrown_1 : decode cX7_thrown 1 = .ok (.getfield 31, 3) := by decide +kernel
theorem dX7_thrown_4 : decode cX7_thrown 4 = .ok (.ireturn, 1) := by decide +kernel
theorem dX7_in_0 : decode cX7_in 0 = .ok (.iload_n 0, 1) := by decide +kernel
theorem dX7_in_1 : decode cX7_in 1 = .ok (.iload_n 1, 1) := by decide +kernel
theorem dX7_in_2 : decode cX7_in 2 = .ok (.if_icmp .lt 12, 3) := by decide +kernel
theorem dX7_in_5 : decode cX7_in 5 = .ok (.iload_n 0, 1) := by decide +kernel
theorem dX7_in_6 : decode cX7_in 6 = .ok (.iload_n 2, 1) := by decide +kernel
theorem dX7_in_7 : decode cX7_in 7 = .ok (.if_icmp .gt 7, 3) := by decide +kernel
theorem dX7_in_10 : decode cX7_in 10 = .ok (.iconst 1, 1) := by decide +kernel
theorem dX7_in_11 : decode cX7_in 11 = .ok (.goto 4, 3) := by decide +kernel
theorem dX7_in_14 : decode cX7_in 14 = .ok (.iconst 0, 1) := by decide +kernel
theorem dX7_in_15 : decode cX7_in 15 = .ok (.ireturn, 1) := by decide +kernel
theorem dX7_fails_0 : decode cX7_fails 0 = .ok (.aload_n 0, 1) := by decide +kernel
theorem dX7_fails_1 : decode cX7_fails 1 = .ok (.iload_n 1, 1) := by decide +kernel
theorem dX7_fails_2 : decode cX7_fails 2 = .ok (.putfield 31, 3) := by decide +kernel
theorem dX7_fails_5 : decode cX7_fails 5 = .ok (.iconst 0, 1) := by decide +kernel
theorem dX7_fails_6 : decode cX7_fails 6 = .ok (.ireturn, 1) := by decide +kernel
theorem dX7_tells_0 : decode cX7_tells 0 = .ok (.aload_n 0, 1) := by decide +kernel
theorem dX7_tells_1 : decode cX7_tells 1 = .ok (.iconst 0, 1) := by decide +kernel
theorem dX7_tells_2 : decode cX7_tells 2 = .ok (.putfield 31, 3) := by decide +kernel
theorem dX7_tells_5 : decode cX7_tells 5 = .ok (.iload_n 1, 1) := by decide +kernel
theorem dX7_tells_6 : decode cX7_tells 6 = .ok (.ireturn, 1) := by decide +kernel
theorem dX7_hold_0 : decode cX7_hold 0 = .ok (.iconst 0, 1) := by decide +kernel
theorem dX7_hold_1 : decode cX7_hold 1 = .ok (.istore_n 1, 1) := by decide +kernel
theorem dX7_hold_2 : decode cX7_hold 2 = .ok (.iload_n 1, 1) := by decide +kernel
theorem dX7_hold_3 : decode cX7_hold 3 = .ok (.sipush 8183, 3) := by decide +kernel
theorem dX7_hold_6 : decode cX7_hold 6 = .ok (.if_icmp .ge 21, 3) := by decide +kernel
theorem dX7_hold_9 : decode cX7_hold 9 = .ok (.aload_n 0, 1) := by decide +kernel
theorem dX7_hold_10 : decode cX7_hold 10 = .ok (.getfield 16, 3) := by decide +kernel
theorem dX7_hold_13 : decode cX7_hold 13 = .ok (.iload_n 1, 1) := by decide +kernel
theorem dX7_hold_14 : decode cX7_hold 14 = .ok (.aload_n 0, 1) := by decide +kernel
theorem dX7_hold_15 : decode cX7_hold 15 = .ok (.getfield 7, 3) := by decide +kernel
theorem dX7_hold_18 : decode cX7_hold 18 = .ok (.iload_n 1, 1) := by decide +kernel
theorem dX7_hold_19 : decode cX7_hold 19 = .ok (.iaload, 1) := by decide +kernel
theorem dX7_hold_20 : decode cX7_hold 20 = .ok (.iastore, 1) := by decide +kernel
theorem dX7_hold_21 : decode cX7_hold 21 = .ok (.iinc 1 1, 3) := by decide +kernel
theorem dX7_hold_24 : decode cX7_hold 24 = .ok (.goto (-22), 3) := by decide +kernel
theorem dX7_hold_27 : decode cX7_hold 27 = .ok (.return_, 1) := by decide +kernel
theorem dX7_ends_0 : decode cX7_ends 0 = .ok (.aload_n 0, 1) := by decide +kernel
theorem dX7_ends_1 : decode cX7_ends 1 = .ok (.getfield 35, 3) := by decide +kernel
theorem dX7_ends_4 : decode cX7_ends 4 = .ok (.iconst 4, 1) := by decide +kernel
theorem dX7_ends_5 : decode cX7_ends 5 = .ok (.if_icmp .ne 44, 3) := by decide +kernel
theorem dX7_ends_8 : decode cX7_ends 8 = .ok (.iconst 0, 1) := by decide +kernel
theorem dX7_ends_9 : decode cX7_ends 9 = .ok (.istore_n 2, 1) := by decide +kernel
theorem dX7_ends_10 : decode cX7_ends 10 = .ok (.iload_n 2, 1) := by decide +kernel
theorem dX7_ends_11 : decode cX7_ends 11 = .ok (.sipush 24549, 3) := by decide +kernel
theorem dX7_ends_14 : decode cX7_ends 14 = .ok (.if_icmp .ge 25, 3) := by decide +kernel
theorem dX7_ends_17 : decode cX7_ends 17 = .ok (.aload_n 0, 1) := by decide +kernel
theorem dX7_ends_18 : decode cX7_ends 18 = .ok (.getfield 13, 3) := by decide +kernel
theorem dX7_ends_21 : decode cX7_ends 21 = .ok (.iload_n 2, 1) := by decide +kernel
theorem dX7_ends_22 : decode cX7_ends 22 = .ok (.aload_n 0, 1) := by decide +kernel
theorem dX7_ends_23 : decode cX7_ends 23 = .ok (.getfield 13, 3) := by decide +kernel
theorem dX7_ends_26 : decode cX7_ends 26 = .ok (.iload_n 2, 1) := by decide +kernel
theorem dX7_ends_27 : decode cX7_ends 27 = .ok (.sipush 8183, 3) := by decide +kernel
theorem dX7_ends_30 : decode cX7_ends 30 = .ok (.iadd, 1) := by decide +kernel
theorem dX7_ends_31 : decode cX7_ends 31 = .ok (.iaload, 1) := by decide +kernel
theorem dX7_ends_32 : decode cX7_ends 32 = .ok (.iastore, 1) := by decide +kernel
theorem dX7_ends_33 : decode cX7_ends 33 = .ok (.iinc 2 1, 3) := by decide +kernel
theorem dX7_ends_36 : decode cX7_ends 36 = .ok (.goto (-26), 3) := by decide +kernel
theorem dX7_ends_39 : decode cX7_ends 39 = .ok (.aload_n 0, 1) := by decide +kernel
theorem dX7_ends_40 : decode cX7_ends 40 = .ok (.dup, 1) := by decide +kernel
theorem dX7_ends_41 : decode cX7_ends 41 = .ok (.getfield 35, 3) := by decide +kernel
theorem dX7_ends_44 : decode cX7_ends 44 = .ok (.iconst 1, 1) := by decide +kernel
theorem dX7_ends_45 : decode cX7_ends 45 = .ok (.isub, 1) := by decide +kernel
theorem dX7_ends_46 : decode cX7_ends 46 = .ok (.putfield 35, 3) := by decide +kernel
theorem dX7_ends_49 : decode cX7_ends 49 = .ok (.iconst 0, 1) := by decide +kernel
theorem dX7_ends_50 : decode cX7_ends 50 = .ok (.istore_n 2, 1) := by decide +kernel
theorem dX7_ends_51 : decode cX7_ends 51 = .ok (.iload_n 2, 1) := by decide +kernel
theorem dX7_ends_52 : decode cX7_ends 52 = .ok (.sipush 8183, 3) := by decide +kernel
theorem dX7_ends_55 : decode cX7_ends 55 = .ok (.if_icmp .ge 30, 3) := by decide +kernel
theorem dX7_ends_58 : decode cX7_ends 58 = .ok (.aload_n 0, 1) := by decide +kernel
theorem dX7_ends_59 : decode cX7_ends 59 = .ok (.getfield 13, 3) := by decide +kernel
theorem dX7_ends_62 : decode cX7_ends 62 = .ok (.sipush 8183, 3) := by decide +kernel
theorem dX7_ends_65 : decode cX7_ends 65 = .ok (.aload_n 0, 1) := by decide +kernel
theorem dX7_ends_66 : decode cX7_ends 66 = .ok (.getfield 35, 3) := by decide +kernel
theorem dX7_ends_69 : decode cX7_ends 69 = .ok (.imul, 1) := by decide +kernel
theorem dX7_ends_70 : decode cX7_ends 70 = .ok (.iload_n 2, 1) := by decide +kernel
theorem dX7_ends_71 : decode cX7_ends 71 = .ok (.iadd, 1) := by decide +kernel
theorem dX7_ends_72 : decode cX7_ends 72 = .ok (.aload_n 0, 1) := by decide +kernel
theorem dX7_ends_73 : decode cX7_ends 73 = .ok (.getfield 16, 3) := by decide +kernel
theorem dX7_ends_76 : decode cX7_ends 76 = .ok (.iload_n 2, 1) := by decide +kernel
theorem dX7_ends_77 : decode cX7_ends 77 = .ok (.iaload, 1) := by decide +kernel
theorem dX7_ends_78 : decode cX7_ends 78 = .ok (.iastore, 1) := by decide +kernel
theorem dX7_ends_79 : decode cX7_ends 79 = .ok (.iinc 2 1, 3) := by decide +kernel
theorem dX7_ends_82 : decode cX7_ends 82 = .ok (.goto (-31), 3) := by decide +kernel
theorem dX7_ends_85 : decode cX7_ends 85 = .ok (.aload_n 0, 1) := by decide +kernel
theorem dX7_ends_86 : decode cX7_ends 86 = .ok (.dup, 1) := by decide +kernel
theorem dX7_ends_87 : decode cX7_ends 87 = .ok (.getfield 35, 3) := by decide +kernel
theorem dX7_ends_90 : decode cX7_ends 90 = .ok (.iconst 1, 1) := by decide +kernel
theorem dX7_ends_91 : decode cX7_ends 91 = .ok (.iadd, 1) := by decide +kernel
theorem dX7_ends_92 : decode cX7_ends 92 = .ok (.putfield 35, 3) := by decide +kernel
theorem dX7_ends_95 : decode cX7_ends 95 = .ok (.aload_n 0, 1) := by decide +kernel
theorem dX7_ends_96 : decode cX7_ends 96 = .ok (.iload_n 1, 1) := by decide +kernel
theorem dX7_ends_97 : decode cX7_ends 97 = .ok (.invokevirtual 38, 3) := by decide +kernel
theorem dX7_ends_100 : decode cX7_ends 100 = .ok (.ireturn, 1) := by decide +kernel
theorem dX7_of_0 : decode cX7_of 0 = .ok (.aload_n 0, 1) := by decide +kernel
theorem dX7_of_1 : decode cX7_of 1 = .ok (.getfield 7, 3) := by decide +kernel
theorem dX7_of_4 : decode cX7_of 4 = .ok (.bipush 8, 2) := by decide +kernel
theorem dX7_of_6 : decode cX7_of 6 = .ok (.sipush 545, 3) := by decide +kernel
theorem dX7_of_9 : decode cX7_of 9 = .ok (.iload_n 1, 1) := by decide +kernel
theorem dX7_of_10 : decode cX7_of 10 = .ok (.imul, 1) := by decide +kernel
theorem dX7_of_11 : decode cX7_of 11 = .ok (.iadd, 1) := by decide +kernel
theorem dX7_of_12 : decode cX7_of 12 = .ok (.iload_n 2, 1) := by decide +kernel
theorem dX7_of_13 : decode cX7_of 13 = .ok (.iadd, 1) := by decide +kernel
theorem dX7_of_14 : decode cX7_of 14 = .ok (.iaload, 1) := by decide +kernel
theorem dX7_of_15 : decode cX7_of 15 = .ok (.ireturn, 1) := by decide +kernel
theorem dX7_puts_0 : decode cX7_puts 0 = .ok (.aload_n 0, 1) := by decide +kernel
theorem dX7_puts_1 : decode cX7_puts 1 = .ok (.getfield 7, 3) := by decide +kernel
theorem dX7_puts_4 : decode cX7_puts 4 = .ok (.bipush 8, 2) := by decide +kernel
theorem dX7_puts_6 : decode cX7_puts 6 = .ok (.sipush 545, 3) := by decide +kernel
theorem dX7_puts_9 : decode cX7_puts 9 = .ok (.iload_n 1, 1) := by decide +kernel
theorem dX7_puts_10 : decode cX7_puts 10 = .ok (.imul, 1) := by decide +kernel
theorem dX7_puts_11 : decode cX7_puts 11 = .ok (.iadd, 1) := by decide +kernel
theorem dX7_puts_12 : decode cX7_puts 12 = .ok (.iload_n 2, 1) := by decide +kernel
theorem dX7_puts_13 : decode cX7_puts 13 = .ok (.iadd, 1) := by decide +kernel
theorem dX7_puts_14 : decode cX7_puts 14 = .ok (.iload_n 3, 1) := by decide +kernel
theorem dX7_puts_15 : decode cX7_puts 15 = .ok (.iastore, 1) := by decide +kernel
theorem dX7_puts_16 : decode cX7_puts 16 = .ok (.return_, 1) := by decide +kernel
theorem dX7_isNode_0 : decode cX7_isNode 0 = .ok (.iload_n 1, 1) := by decide +kernel
theorem dX7_isNode_1 : decode cX7_isNode 1 = .ok (.iconst 0, 1) := by decide +kernel
theorem dX7_isNode_2 : decode cX7_isNode 2 = .ok (.aload_n 0, 1) := by decide +kernel
theorem dX7_isNode_3 : decode cX7_isNode 3 = .ok (.getfield 7, 3) := by decide +kernel
theorem dX7_isNode_6 : decode cX7_isNode 6 = .ok (.iconst 0, 1) := by decide +kernel
theorem dX7_isNode_7 : decode cX7_isNode 7 = .ok (.iaload, 1) := by decide +kernel
theorem dX7_isNode_8 : decode cX7_isNode 8 = .ok (.iconst 1, 1) := by decide +kernel
theorem dX7_isNode_9 : decode cX7_isNode 9 = .ok (.isub, 1) := by decide +kernel
theorem dX7_isNode_10 : decode cX7_isNode 10 = .ok (.invokestatic 42, 3) := by decide +kernel
theorem dX7_isNode_13 : decode cX7_isNode 13 = .ok (.ireturn, 1) := by decide +kernel
theorem dX7_isKey_0 : decode cX7_isKey 0 = .ok (.iload_n 0, 1) := by decide +kernel
theorem dX7_isKey_1 : decode cX7_isKey 1 = .ok (.iconst 0, 1) := by decide +kernel
theorem dX7_isKey_2 : decode cX7_isKey 2 = .ok (.sipush 9999, 3) := by decide +kernel
theorem dX7_isKey_5 : decode cX7_isKey 5 = .ok (.invokestatic 42, 3) := by decide +kernel
theorem dX7_isKey_8 : decode cX7_isKey 8 = .ok (.ireturn, 1) := by decide +kernel
theorem dX7_isSought_0 : decode cX7_isSought 0 = .ok (.iload_n 0, 1) := by decide +kernel
theorem dX7_isSought_1 : decode cX7_isSought 1 = .ok (.iconst 0, 1) := by decide +kernel
theorem dX7_isSought_2 : decode cX7_isSought 2 = .ok (.sipush 10000, 3) := by decide +kernel
theorem dX7_isSought_5 : decode cX7_isSought 5 = .ok (.invokestatic 42, 3) := by decide +kernel
theorem dX7_isSought_8 : decode cX7_isSought 8 = .ok (.ireturn, 1) := by decide +kernel
theorem dX7_marked_0 : decode cX7_marked 0 = .ok (.iconst 0, 1) := by decide +kernel
theorem dX7_marked_1 : decode cX7_marked 1 = .ok (.istore_n 2, 1) := by decide +kernel
theorem dX7_marked_2 : decode cX7_marked 2 = .ok (.iconst 0, 1) := by decide +kernel
theorem dX7_marked_3 : decode cX7_marked 3 = .ok (.istore_n 3, 1) := by decide +kernel
theorem dX7_marked_4 : decode cX7_marked 4 = .ok (.iload_n 3, 1) := by decide +kernel
theorem dX7_marked_5 : decode cX7_marked 5 = .ok (.aload_n 0, 1) := by decide +kernel
theorem dX7_marked_6 : decode cX7_marked 6 = .ok (.iload_n 1, 1) := by decide +kernel
theorem dX7_marked_7 : decode cX7_marked 7 = .ok (.iconst 3, 1) := by decide +kernel
theorem dX7_marked_8 : decode cX7_marked 8 = .ok (.invokevirtual 46, 3) := by decide +kernel
theorem dX7_marked_11 : decode cX7_marked 11 = .ok (.if_icmp .ge 21, 3) := by decide +kernel
theorem dX7_marked_14 : decode cX7_marked 14 = .ok (.iload_n 2, 1) := by decide +kernel
theorem dX7_marked_15 : decode cX7_marked 15 = .ok (.aload_n 0, 1) := by decide +kernel
theorem dX7_marked_16 : decode cX7_marked 16 = .ok (.iload_n 1, 1) := by decide +kernel
theorem dX7_marked_17 : decode cX7_marked 17 = .ok (.bipush 28, 2) := by decide +kernel
theorem dX7_marked_19 : decode cX7_marked 19 = .ok (.iload_n 3, 1) := by decide +kernel
theorem dX7_marked_20 : decode cX7_marked 20 = .ok (.iadd, 1) := by decide +kernel
theorem dX7_marked_21 : decode cX7_marked 21 = .ok (.invokevirtual 46, 3) := by decide +kernel
theorem dX7_marked_24 : decode cX7_marked 24 = .ok (.iadd, 1) := by decide +kernel
theorem dX7_marked_25 : decode cX7_marked 25 = .ok (.istore_n 2, 1) := by decide +kernel
theorem dX7_marked_26 : decode cX7_marked 26 = .ok (.iinc 3 1, 3) := by decide +kernel
theorem dX7_marked_29 : decode cX7_marked 29 = .ok (.goto (-25), 3) := by decide +kernel
theorem dX7_marked_32 : decode cX7_marked 32 = .ok (.iload_n 2, 1) := by decide +kernel
theorem dX7_marked_33 : decode cX7_marked 33 = .ok (.ireturn, 1) := by decide +kernel
theorem dX7_keys_0 : decode cX7_keys 0 = .ok (.aload_n 0, 1) := by decide +kernel
theorem dX7_keys_1 : decode cX7_keys 1 = .ok (.iload_n 1, 1) := by decide +kernel
theorem dX7_keys_2 : decode cX7_keys 2 = .ok (.iconst 3, 1) := by decide +kernel
theorem dX7_keys_3 : decode cX7_keys 3 = .ok (.invokevirtual 46, 3) := by decide +kernel
theorem dX7_keys_6 : decode cX7_keys 6 = .ok (.aload_n 0, 1) := by decide +kernel
theorem dX7_keys_7 : decode cX7_keys 7 = .ok (.iload_n 1, 1) := by decide +kernel
theorem dX7_keys_8 : decode cX7_keys 8 = .ok (.invokevirtual 50, 3) := by decide +kernel
theorem dX7_keys_11 : decode cX7_keys 11 = .ok (.isub, 1) := by decide +kernel
theorem dX7_keys_12 : decode cX7_keys 12 = .ok (.aload_n 0, 1) := by decide +kernel
theorem dX7_keys_13 : decode cX7_keys 13 = .ok (.iload_n 1, 1) := by decide +kernel
theorem dX7_keys_14 : decode cX7_keys 14 = .ok (.bipush 52, 2) := by decide +kernel
theorem dX7_keys_16 : decode cX7_keys 16 = .ok (.invokevirtual 46, 3) := by decide +kernel
theorem dX7_keys_19 : decode cX7_keys 19 = .ok (.iadd, 1) := by decide +kernel
theorem dX7_keys_20 : decode cX7_keys 20 = .ok (.ireturn, 1) := by decide +kernel
theorem dX7_inBase_0 : decode cX7_inBase 0 = .ok (.iconst (-1), 1) := by decide +kernel
theorem dX7_inBase_1 : decode cX7_inBase 1 = .ok (.istore_n 3, 1) := by decide +kernel
theorem dX7_inBase_2 : decode cX7_inBase 2 = .ok (.iconst 0, 1) := by decide +kernel
theorem dX7_inBase_3 : decode cX7_inBase 3 = .ok (.istore 4, 2) := by decide +kernel
theorem dX7_inBase_5 : decode cX7_inBase 5 = .ok (.iload 4, 2) := by decide +kernel
theorem dX7_inBase_7 : decode cX7_inBase 7 = .ok (.aload_n 0, 1) := by decide +kernel
theorem dX7_inBase_8 : decode cX7_inBase 8 = .ok (.iload_n 1, 1) := by decide +kernel
theorem dX7_inBase_9 : decode cX7_inBase 9 = .ok (.iconst 3, 1) := by decide +kernel
theorem dX7_inBase_10 : decode cX7_inBase 10 = .ok (.invokevirtual 46, 3) := by decide +kernel
theorem dX7_inBase_13 : decode cX7_inBase 13 = .ok (.if_icmp .ge 29, 3) := by decide +kernel
theorem dX7_inBase_16 : decode cX7_inBase 16 = .ok (.aload_n 0, 1) := by decide +kernel
theorem dX7_inBase_17 : decode cX7_inBase 17 = .ok (.iload_n 1, 1) := by decide +kernel
theorem dX7_inBase_18 : decode cX7_inBase 18 = .ok (.iconst 4, 1) := by decide +kernel
theorem dX7_inBase_19 : decode cX7_inBase 19 = .ok (.iload 4, 2) := by decide +kernel
theorem dX7_inBase_21 : decode cX7_inBase 21 = .ok (.iadd, 1) := by decide +kernel
theorem dX7_inBase_22 : decode cX7_inBase 22 = .ok (.invokevirtual 46, 3) := by decide +kernel
theorem dX7_inBase_25 : decode cX7_inBase 25 = .ok (.iload_n 2, 1) := by decide +kernel
theorem dX7_inBase_26 : decode cX7_inBase 26 = .ok (.if_icmp .ne 8, 3) := by decide +kernel
theorem dX7_inBase_29 : decode cX7_inBase 29 = .ok (.iload 4, 2) := by decide +kernel
theorem dX7_inBase_31 : decode cX7_inBase 31 = .ok (.goto 4, 3) := by decide +kernel
theorem dX7_inBase_34 : decode cX7_inBase 34 = .ok (.iload_n 3, 1) := by decide +kernel
theorem dX7_inBase_35 : decode cX7_inBase 35 = .ok (.istore_n 3, 1) := by decide +kernel
theorem dX7_inBase_36 : decode cX7_inBase 36 = .ok (.iinc 4 1, 3) := by decide +kernel
theorem dX7_inBase_39 : decode cX7_inBase 39 = .ok (.goto (-34), 3) := by decide +kernel
theorem dX7_inBase_42 : decode cX7_inBase 42 = .ok (.iload_n 3, 1) := by decide +kernel
theorem dX7_inBase_43 : decode cX7_inBase 43 = .ok (.ireturn, 1) := by decide +kernel
theorem dX7_inBuffer_0 : decode cX7_inBuffer 0 = .ok (.iconst (-1), 1) := by decide +kernel
theorem dX7_inBuffer_1 : decode cX7_inBuffer 1 = .ok (.istore_n 3, 1) := by decide +kernel
theorem dX7_inBuffer_2 : decode cX7_inBuffer 2 = .ok (.iconst 0, 1) := by decide +kernel
theorem dX7_inBuffer_3 : decode cX7_inBuffer 3 = .ok (.istore 4, 2) := by decide +kernel
theorem dX7_inBuffer_5 : decode cX7_inBuffer 5 = .ok (.iload 4, 2) := by decide +kernel
theorem dX7_inBuffer_7 : decode cX7_inBuffer 7 = .ok (.aload_n 0, 1) := by decide +kernel
theorem dX7_inBuffer_8 : decode cX7_inBuffer 8 = .ok (.iload_n 1, 1) := by decide +kernel
theorem dX7_inBuffer_9 : decode cX7_inBuffer 9 = .ok (.bipush 52, 2) := by decide +kernel
theorem dX7_inBuffer_11 : decode cX7_inBuffer 11 = .ok (.invokevirtual 46, 3) := by decide +kernel
theorem dX7_inBuffer_14 : decode cX7_inBuffer 14 = .ok (.if_icmp .ge 30, 3) := by decide +kernel
theorem dX7_inBuffer_17 : decode cX7_inBuffer 17 = .ok (.aload_n 0, 1) := by decide +kernel
theorem dX7_inBuffer_18 : decode cX7_inBuffer 18 = .ok (.iload_n 1, 1) := by decide +kernel
theorem dX7_inBuffer_19 : decode cX7_inBuffer 19 = .ok (.bipush 53, 2) := by decide +kernel
theorem dX7_inBuffer_21 : decode cX7_inBuffer 21 = .ok (.iload 4, 2) := by decide +kernel
theorem dX7_inBuffer_23 : decode cX7_inBuffer 23 = .ok (.iadd, 1) := by decide +kernel
theorem dX7_inBuffer_24 : decode cX7_inBuffer 24 = .ok (.invokevirtual 46, 3) := by decide +kernel
theorem dX7_inBuffer_27 : decode cX7_inBuffer 27 = .ok (.iload_n 2, 1) := by decide +kernel
theorem dX7_inBuffer_28 : decode cX7_inBuffer 28 = .ok (.if_icmp .ne 8, 3) := by decide +kernel
theorem dX7_inBuffer_31 : decode cX7_inBuffer 31 = .ok (.iload 4, 2) := by decide +kernel
theorem dX7_inBuffer_33 : decode cX7_inBuffer 33 = .ok (.goto 4, 3) := by decide +kernel
theorem dX7_inBuffer_36 : decode cX7_inBuffer 36 = .ok (.iload_n 3, 1) := by decide +kernel
theorem dX7_inBuffer_37 : decode cX7_inBuffer 37 = .ok (.istore_n 3, 1) := by decide +kernel
theorem dX7_inBuffer_38 : decode cX7_inBuffer 38 = .ok (.iinc 4 1, 3) := by decide +kernel
theorem dX7_inBuffer_41 : decode cX7_inBuffer 41 = .ok (.goto (-36), 3) := by decide +kernel
theorem dX7_inBuffer_44 : decode cX7_inBuffer 44 = .ok (.iload_n 3, 1) := by decide +kernel
theorem dX7_inBuffer_45 : decode cX7_inBuffer 45 = .ok (.ireturn, 1) := by decide +kernel
theorem dX7_has_0 : decode cX7_has 0 = .ok (.aload_n 0, 1) := by decide +kernel
theorem dX7_has_1 : decode cX7_has 1 = .ok (.iload_n 1, 1) := by decide +kernel
theorem dX7_has_2 : decode cX7_has 2 = .ok (.iload_n 2, 1) := by decide +kernel
theorem dX7_has_3 : decode cX7_has 3 = .ok (.invokevirtual 53, 3) := by decide +kernel
theorem dX7_has_6 : decode cX7_has 6 = .ok (.istore_n 3, 1) := by decide +kernel
theorem dX7_has_7 : decode cX7_has 7 = .ok (.iload_n 3, 1) := by decide +kernel
theorem dX7_has_8 : decode cX7_has 8 = .ok (.iconst (-1), 1) := by decide +kernel
theorem dX7_has_9 : decode cX7_has 9 = .ok (.if_icmp .eq 15, 3) := by decide +kernel
theorem dX7_has_12 : decode cX7_has 12 = .ok (.aload_n 0, 1) := by decide +kernel
theorem dX7_has_13 : decode cX7_has 13 = .ok (.iload_n 1, 1) := by decide +kernel
theorem dX7_has_14 : decode cX7_has 14 = .ok (.bipush 28, 2) := by decide +kernel
theorem dX7_has_16 : decode cX7_has 16 = .ok (.iload_n 3, 1) := by decide +kernel
theorem dX7_has_17 : decode cX7_has 17 = .ok (.iadd, 1) := by decide +kernel
theorem dX7_has_18 : decode cX7_has 18 = .ok (.invokevirtual 46, 3) := by decide +kernel
theorem dX7_has_21 : decode cX7_has 21 = .ok (.ifCond .eq 13, 3) := by decide +kernel
theorem dX7_has_24 : decode cX7_has 24 = .ok (.aload_n 0, 1) := by decide +kernel
theorem dX7_has_25 : decode cX7_has 25 = .ok (.iload_n 1, 1) := by decide +kernel
theorem dX7_has_26 : decode cX7_has 26 = .ok (.iload_n 2, 1) := by decide +kernel
theorem dX7_has_27 : decode cX7_has 27 = .ok (.invokevirtual 56, 3) := by decide +kernel
theorem dX7_has_30 : decode cX7_has 30 = .ok (.iconst (-1), 1) := by decide +kernel
theorem dX7_has_31 : decode cX7_has 31 = .ok (.if_icmp .eq 7, 3) := by decide +kernel
theorem dX7_has_34 : decode cX7_has 34 = .ok (.iconst 1, 1) := by decide +kernel
theorem dX7_has_35 : decode cX7_has 35 = .ok (.goto 4, 3) := by decide +kernel
theorem dX7_has_38 : decode cX7_has 38 = .ok (.iconst 0, 1) := by decide +kernel
theorem dX7_has_39 : decode cX7_has 39 = .ok (.ireturn, 1) := by decide +kernel
theorem dX7_next_0 : decode cX7_next 0 = .ok (.iconst (-1), 1) := by decide +kernel
theorem dX7_next_1 : decode cX7_next 1 = .ok (.istore_n 3, 1) := by decide +kernel
theorem dX7_next_2 : decode cX7_next 2 = .ok (.iconst 0, 1) := by decide +kernel
theorem dX7_next_3 : decode cX7_next 3 = .ok (.istore 4, 2) := by decide +kernel
theorem dX7_next_5 : decode cX7_next 5 = .ok (.iload 4, 2) := by decide +kernel
theorem dX7_next_7 : decode cX7_next 7 = .ok (.aload_n 0, 1) := by decide +kernel
theorem dX7_next_8 : decode cX7_next 8 = .ok (.iload_n 1, 1) := by decide +kernel
theorem dX7_next_9 : decode cX7_next 9 = .ok (.iconst 3, 1) := by decide +kernel
theorem dX7_next_10 : decode cX7_next 10 = .ok (.invokevirtual 46, 3) := by decide +kernel
theorem dX7_next_13 : decode cX7_next 13 = .ok (.if_icmp .ge 57, 3) := by decide +kernel
theorem dX7_next_16 : decode cX7_next 16 = .ok (.aload_n 0, 1) := by decide +kernel
theorem dX7_next_17 : decode cX7_next 17 = .ok (.iload_n 1, 1) := by decide +kernel
theorem dX7_next_18 : decode cX7_next 18 = .ok (.iconst 4, 1) := by decide +kernel
theorem dX7_next_19 : decode cX7_next 19 = .ok (.iload 4, 2) := by decide +kernel
theorem dX7_next_21 : decode cX7_next 21 = .ok (.iadd, 1) := by decide +kernel
theorem dX7_next_22 : decode cX7_next 22 = .ok (.invokevirtual 46, 3) := by decide +kernel
theorem dX7_next_25 : decode cX7_next 25 = .ok (.istore 5, 2) := by decide +kernel
theorem dX7_next_27 : decode cX7_next 27 = .ok (.aload_n 0, 1) := by decide +kernel
theorem dX7_next_28 : decode cX7_next 28 = .ok (.iload_n 1, 1) := by decide +kernel
theorem dX7_next_29 : decode cX7_next 29 = .ok (.bipush 28, 2) := by decide +kernel
theorem dX7_next_31 : decode cX7_next 31 = .ok (.iload 4, 2) := by decide +kernel
theorem dX7_next_33 : decode cX7_next 33 = .ok (.iadd, 1) := by decide +kernel
theorem dX7_next_34 : decode cX7_next 34 = .ok (.invokevirtual 46, 3) := by decide +kernel
theorem dX7_next_37 : decode cX7_next 37 = .ok (.ifCond .ne 25, 3) := by decide +kernel
theorem dX7_next_40 : decode cX7_next 40 = .ok (.iload 5, 2) := by decide +kernel
theorem dX7_next_42 : decode cX7_next 42 = .ok (.iload_n 2, 1) := by decide +kernel
theorem dX7_next_43 : decode cX7_next 43 = .ok (.if_icmp .lt 19, 3) := by decide +kernel
theorem dX7_next_46 : decode cX7_next 46 = .ok (.iload_n 3, 1) := by decide +kernel
theorem dX7_next_47 : decode cX7_next 47 = .ok (.iconst (-1), 1) := by decide +kernel
theorem dX7_next_48 : decode cX7_next 48 = .ok (.if_icmp .eq 9, 3) := by decide +kernel
theorem dX7_next_51 : decode cX7_next 51 = .ok (.iload 5, 2) := by decide +kernel
theorem dX7_next_53 : decode cX7_next 53 = .ok (.iload_n 3, 1) := by decide +kernel
theorem dX7_next_54 : decode cX7_next 54 = .ok (.if_icmp .ge 8, 3) := by decide +kernel
theorem dX7_next_57 : decode cX7_next 57 = .ok (.iload 5, 2) := by decide +kernel
theorem dX7_next_59 : decode cX7_next 59 = .ok (.goto 4, 3) := by decide +kernel
theorem dX7_next_62 : decode cX7_next 62 = .ok (.iload_n 3, 1) := by decide +kernel
theorem dX7_next_63 : decode cX7_next 63 = .ok (.istore_n 3, 1) := by decide +kernel
theorem dX7_next_64 : decode cX7_next 64 = .ok (.iinc 4 1, 3) := by decide +kernel
theorem dX7_next_67 : decode cX7_next 67 = .ok (.goto (-62), 3) := by decide +kernel
theorem dX7_next_70 : decode cX7_next 70 = .ok (.iconst 0, 1) := by decide +kernel
theorem dX7_next_71 : decode cX7_next 71 = .ok (.istore 4, 2) := by decide +kernel
theorem dX7_next_73 : decode cX7_next 73 = .ok (.iload 4, 2) := by decide +kernel
theorem dX7_next_75 : decode cX7_next 75 = .ok (.aload_n 0, 1) := by decide +kernel
theorem dX7_next_76 : decode cX7_next 76 = .ok (.iload_n 1, 1) := by decide +kernel
theorem dX7_next_77 : decode cX7_next 77 = .ok (.bipush 52, 2) := by decide +kernel
theorem dX7_next_79 : decode cX7_next 79 = .ok (.invokevirtual 46, 3) := by decide +kernel
theorem dX7_next_82 : decode cX7_next 82 = .ok (.if_icmp .ge 45, 3) := by decide +kernel
theorem dX7_next_85 : decode cX7_next 85 = .ok (.aload_n 0, 1) := by decide +kernel
theorem dX7_next_86 : decode cX7_next 86 = .ok (.iload_n 1, 1) := by decide +kernel
theorem dX7_next_87 : decode cX7_next 87 = .ok (.bipush 53, 2) := by decide +kernel
theorem dX7_next_89 : decode cX7_next 89 = .ok (.iload 4, 2) := by decide +kernel
theorem dX7_next_91 : decode cX7_next 91 = .ok (.iadd, 1) := by decide +kernel
theorem dX7_next_92 : decode cX7_next 92 = .ok (.invokevirtual 46, 3) := by decide +kernel
theorem dX7_next_95 : decode cX7_next 95 = .ok (.istore 5, 2) := by decide +kernel
theorem dX7_next_97 : decode cX7_next 97 = .ok (.iload 5, 2) := by decide +kernel
theorem dX7_next_99 : decode cX7_next 99 = .ok (.iload_n 2, 1) := by decide +kernel
theorem dX7_next_100 : decode cX7_next 100 = .ok (.if_icmp .lt 19, 3) := by decide +kernel
theorem dX7_next_103 : decode cX7_next 103 = .ok (.iload_n 3, 1) := by decide +kernel
theorem dX7_next_104 : decode cX7_next 104 = .ok (.iconst (-1), 1) := by decide +kernel
theorem dX7_next_105 : decode cX7_next 105 = .ok (.if_icmp .eq 9, 3) := by decide +kernel
theorem dX7_next_108 : decode cX7_next 108 = .ok (.iload 5, 2) := by decide +kernel
theorem dX7_next_110 : decode cX7_next 110 = .ok (.iload_n 3, 1) := by decide +kernel
theorem dX7_next_111 : decode cX7_next 111 = .ok (.if_icmp .ge 8, 3) := by decide +kernel
theorem dX7_next_114 : decode cX7_next 114 = .ok (.iload 5, 2) := by decide +kernel
theorem dX7_next_116 : decode cX7_next 116 = .ok (.goto 4, 3) := by decide +kernel
theorem dX7_next_119 : decode cX7_next 119 = .ok (.iload_n 3, 1) := by decide +kernel
theorem dX7_next_120 : decode cX7_next 120 = .ok (.istore_n 3, 1) := by decide +kernel
theorem dX7_next_121 : decode cX7_next 121 = .ok (.iinc 4 1, 3) := by decide +kernel
theorem dX7_next_124 : decode cX7_next 124 = .ok (.goto (-51), 3) := by decide +kernel
theorem dX7_next_127 : decode cX7_next 127 = .ok (.iload_n 3, 1) := by decide +kernel
theorem dX7_next_128 : decode cX7_next 128 = .ok (.ireturn, 1) := by decide +kernel
theorem dX7_enters_0 : decode cX7_enters 0 = .ok (.aload_n 0, 1) := by decide +kernel
theorem dX7_enters_1 : decode cX7_enters 1 = .ok (.iload_n 1, 1) := by decide +kernel
theorem dX7_enters_2 : decode cX7_enters 2 = .ok (.bipush 61, 2) := by decide +kernel
theorem dX7_enters_4 : decode cX7_enters 4 = .ok (.invokevirtual 46, 3) := by decide +kernel
theorem dX7_enters_7 : decode cX7_enters 7 = .ok (.istore 4, 2) := by decide +kernel
theorem dX7_enters_9 : decode cX7_enters 9 = .ok (.iload 4, 2) := by decide +kernel
theorem dX7_enters_11 : decode cX7_enters 11 = .ok (.ifCond .le 104, 3) := by decide +kernel
theorem dX7_enters_14 : decode cX7_enters 14 = .ok (.aload_n 0, 1) := by decide +kernel
theorem dX7_enters_15 : decode cX7_enters 15 = .ok (.iload_n 1, 1) := by decide +kernel
theorem dX7_enters_16 : decode cX7_enters 16 = .ok (.bipush 62, 2) := by decide +kernel
theorem dX7_enters_18 : decode cX7_enters 18 = .ok (.iload 4, 2) := by decide +kernel
theorem dX7_enters_20 : decode cX7_enters 20 = .ok (.iadd, 1) := by decide +kernel
theorem dX7_enters_21 : decode cX7_enters 21 = .ok (.iconst 1, 1) := by decide +kernel
theorem dX7_enters_22 : decode cX7_enters 22 = .ok (.isub, 1) := by decide +kernel
theorem dX7_enters_23 : decode cX7_enters 23 = .ok (.invokevirtual 46, 3) := by decide +kernel
theorem dX7_enters_26 : decode cX7_enters 26 = .ok (.iload_n 2, 1) := by decide +kernel
theorem dX7_enters_27 : decode cX7_enters 27 = .ok (.if_icmp .gt 36, 3) := by decide +kernel
theorem dX7_enters_30 : decode cX7_enters 30 = .ok (.aload_n 0, 1) := by decide +kernel
theorem dX7_enters_31 : decode cX7_enters 31 = .ok (.iload_n 1, 1) := by decide +kernel
theorem dX7_enters_32 : decode cX7_enters 32 = .ok (.bipush 62, 2) := by decide +kernel
theorem dX7_enters_34 : decode cX7_enters 34 = .ok (.iload 4, 2) := by decide +kernel
theorem dX7_enters_36 : decode cX7_enters 36 = .ok (.iadd, 1) := by decide +kernel
theorem dX7_enters_37 : decode cX7_enters 37 = .ok (.iconst 1, 1) := by decide +kernel
theorem dX7_enters_38 : decode cX7_enters 38 = .ok (.isub, 1) := by decide +kernel
theorem dX7_enters_39 : decode cX7_enters 39 = .ok (.invokevirtual 46, 3) := by decide +kernel
theorem dX7_enters_42 : decode cX7_enters 42 = .ok (.iload_n 2, 1) := by decide +kernel
theorem dX7_enters_43 : decode cX7_enters 43 = .ok (.if_icmp .ne 72, 3) := by decide +kernel
theorem dX7_enters_46 : decode cX7_enters 46 = .ok (.aload_n 0, 1) := by decide +kernel
theorem dX7_enters_47 : decode cX7_enters 47 = .ok (.iload_n 1, 1) := by decide +kernel
theorem dX7_enters_48 : decode cX7_enters 48 = .ok (.sipush 158, 3) := by decide +kernel
theorem dX7_enters_51 : decode cX7_enters 51 = .ok (.iload 4, 2) := by decide +kernel
theorem dX7_enters_53 : decode cX7_enters 53 = .ok (.iadd, 1) := by decide +kernel
theorem dX7_enters_54 : decode cX7_enters 54 = .ok (.iconst 1, 1) := by decide +kernel
theorem dX7_enters_55 : decode cX7_enters 55 = .ok (.isub, 1) := by decide +kernel
theorem dX7_enters_56 : decode cX7_enters 56 = .ok (.invokevirtual 46, 3) := by decide +kernel
theorem dX7_enters_59 : decode cX7_enters 59 = .ok (.iload_n 3, 1) := by decide +kernel
theorem dX7_enters_60 : decode cX7_enters 60 = .ok (.if_icmp .le 55, 3) := by decide +kernel
theorem dX7_enters_63 : decode cX7_enters 63 = .ok (.aload_n 0, 1) := by decide +kernel
theorem dX7_enters_64 : decode cX7_enters 64 = .ok (.iload_n 1, 1) := by decide +kernel
theorem dX7_enters_65 : decode cX7_enters 65 = .ok (.bipush 62, 2) := by decide +kernel
theorem dX7_enters_67 : decode cX7_enters 67 = .ok (.iload 4, 2) := by decide +kernel
theorem dX7_enters_69 : decode cX7_enters 69 = .ok (.iadd, 1) := by decide +kernel
theorem dX7_enters_70 : decode cX7_enters 70 = .ok (.aload_n 0, 1) := by decide +kernel
theorem dX7_enters_71 : decode cX7_enters 71 = .ok (.iload_n 1, 1) := by decide +kernel
theorem dX7_enters_72 : decode cX7_enters 72 = .ok (.bipush 62, 2) := by decide +kernel
theorem dX7_enters_74 : decode cX7_enters 74 = .ok (.iload 4, 2) := by decide +kernel
theorem dX7_enters_76 : decode cX7_enters 76 = .ok (.iadd, 1) := by decide +kernel
theorem dX7_enters_77 : decode cX7_enters 77 = .ok (.iconst 1, 1) := by decide +kernel
theorem dX7_enters_78 : decode cX7_enters 78 = .ok (.isub, 1) := by decide +kernel
theorem dX7_enters_79 : decode cX7_enters 79 = .ok (.invokevirtual 46, 3) := by decide +kernel
theorem dX7_enters_82 : decode cX7_enters 82 = .ok (.invokevirtual 59, 3) := by decide +kernel
theorem dX7_enters_85 : decode cX7_enters 85 = .ok (.aload_n 0, 1) := by decide +kernel
theorem dX7_enters_86 : decode cX7_enters 86 = .ok (.iload_n 1, 1) := by decide +kernel
theorem dX7_enters_87 : decode cX7_enters 87 = .ok (.sipush 158, 3) := by decide +kernel
theorem dX7_enters_90 : decode cX7_enters 90 = .ok (.iload 4, 2) := by decide +kernel
theorem dX7_enters_92 : decode cX7_enters 92 = .ok (.iadd, 1) := by decide +kernel
theorem dX7_enters_93 : decode cX7_enters 93 = .ok (.aload_n 0, 1) := by decide +kernel
theorem dX7_enters_94 : decode cX7_enters 94 = .ok (.iload_n 1, 1) := by decide +kernel
theorem dX7_enters_95 : decode cX7_enters 95 = .ok (.sipush 158, 3) := by decide +kernel
theorem dX7_enters_98 : decode cX7_enters 98 = .ok (.iload 4, 2) := by decide +kernel
theorem dX7_enters_100 : decode cX7_enters 100 = .ok (.iadd, 1) := by decide +kernel
theorem dX7_enters_101 : decode cX7_enters 101 = .ok (.iconst 1, 1) := by decide +kernel
theorem dX7_enters_102 : decode cX7_enters 102 = .ok (.isub, 1) := by decide +kernel
theorem dX7_enters_103 : decode cX7_enters 103 = .ok (.invokevirtual 46, 3) := by decide +kernel
theorem dX7_enters_106 : decode cX7_enters 106 = .ok (.invokevirtual 59, 3) := by decide +kernel
theorem dX7_enters_109 : decode cX7_enters 109 = .ok (.iinc 4 (-1), 3) := by decide +kernel
theorem dX7_enters_112 : decode cX7_enters 112 = .ok (.goto (-103), 3) := by decide +kernel
theorem dX7_enters_115 : decode cX7_enters 115 = .ok (.aload_n 0, 1) := by decide +kernel
theorem dX7_enters_116 : decode cX7_enters 116 = .ok (.iload_n 1, 1) := by decide +kernel
theorem dX7_enters_117 : decode cX7_enters 117 = .ok (.bipush 62, 2) := by decide +kernel
theorem dX7_enters_119 : decode cX7_enters 119 = .ok (.iload 4, 2) := by decide +kernel
theorem dX7_enters_121 : decode cX7_enters 121 = .ok (.iadd, 1) := by decide +kernel
theorem dX7_enters_122 : decode cX7_enters 122 = .ok (.iload_n 2, 1) := by decide +kernel
theorem dX7_enters_123 : decode cX7_enters 123 = .ok (.invokevirtual 59, 3) := by decide +kernel
theorem dX7_enters_126 : decode cX7_enters 126 = .ok (.aload_n 0, 1) := by decide +kernel
theorem dX7_enters_127 : decode cX7_enters 127 = .ok (.iload_n 1, 1) := by decide +kernel
theorem dX7_enters_128 : decode cX7_enters 128 = .ok (.sipush 158, 3) := by decide +kernel
theorem dX7_enters_131 : decode cX7_enters 131 = .ok (.iload 4, 2) := by decide +kernel
theorem dX7_enters_133 : decode cX7_enters 133 = .ok (.iadd, 1) := by decide +kernel
theorem dX7_enters_134 : decode cX7_enters 134 = .ok (.iload_n 3, 1) := by decide +kernel
theorem dX7_enters_135 : decode cX7_enters 135 = .ok (.invokevirtual 59, 3) := by decide +kernel
theorem dX7_enters_138 : decode cX7_enters 138 = .ok (.aload_n 0, 1) := by decide +kernel
theorem dX7_enters_139 : decode cX7_enters 139 = .ok (.iload_n 1, 1) := by decide +kernel
theorem dX7_enters_140 : decode cX7_enters 140 = .ok (.bipush 61, 2) := by decide +kernel
theorem dX7_enters_142 : decode cX7_enters 142 = .ok (.aload_n 0, 1) := by decide +kernel
theorem dX7_enters_143 : decode cX7_enters 143 = .ok (.iload_n 1, 1) := by decide +kernel
theorem dX7_enters_144 : decode cX7_enters 144 = .ok (.bipush 61, 2) := by decide +kernel
theorem dX7_enters_146 : decode cX7_enters 146 = .ok (.invokevirtual 46, 3) := by decide +kernel
theorem dX7_enters_149 : decode cX7_enters 149 = .ok (.iconst 1, 1) := by decide +kernel
theorem dX7_enters_150 : decode cX7_enters 150 = .ok (.iadd, 1) := by decide +kernel
theorem dX7_enters_151 : decode cX7_enters 151 = .ok (.invokevirtual 59, 3) := by decide +kernel
theorem dX7_enters_154 : decode cX7_enters 154 = .ok (.return_, 1) := by decide +kernel
theorem dX7_less_0 : decode cX7_less 0 = .ok (.iconst 0, 1) := by decide +kernel
theorem dX7_less_1 : decode cX7_less 1 = .ok (.istore 4, 2) := by decide +kernel
theorem dX7_less_3 : decode cX7_less 3 = .ok (.iload_n 2, 1) := by decide +kernel
theorem dX7_less_4 : decode cX7_less 4 = .ok (.ifCond .ne 7, 3) := by decide +kernel
theorem dX7_less_7 : decode cX7_less 7 = .ok (.iload_n 1, 1) := by decide +kernel
theorem dX7_less_8 : decode cX7_less 8 = .ok (.goto 11, 3) := by decide +kernel
theorem dX7_less_11 : decode cX7_less 11 = .ok (.aload_n 0, 1) := by decide +kernel
theorem dX7_less_12 : decode cX7_less 12 = .ok (.iload_n 1, 1) := by decide +kernel
theorem dX7_less_13 : decode cX7_less 13 = .ok (.iconst 0, 1) := by decide +kernel
theorem dX7_less_14 : decode cX7_less 14 = .ok (.iload_n 2, 1) := by decide +kernel
theorem dX7_less_15 : decode cX7_less 15 = .ok (.iadd, 1) := by decide +kernel
theorem dX7_less_16 : decode cX7_less 16 = .ok (.invokevirtual 46, 3) := by decide +kernel
theorem dX7_less_19 : decode cX7_less 19 = .ok (.istore 5, 2) := by decide +kernel
theorem dX7_less_21 : decode cX7_less 21 = .ok (.iconst 0, 1) := by decide +kernel
theorem dX7_less_22 : decode cX7_less 22 = .ok (.istore 6, 2) := by decide +kernel
theorem dX7_less_24 : decode cX7_less 24 = .ok (.iload 5, 2) := by decide +kernel
theorem dX7_less_26 : decode cX7_less 26 = .ok (.iconst (-1), 1) := by decide +kernel
theorem dX7_less_27 : decode cX7_less 27 = .ok (.if_icmp .eq 63, 3) := by decide +kernel
theorem dX7_less_30 : decode cX7_less 30 = .ok (.iload 6, 2) := by decide +kernel
theorem dX7_less_32 : decode cX7_less 32 = .ok (.aload_n 0, 1) := by decide +kernel
theorem dX7_less_33 : decode cX7_less 33 = .ok (.iload 5, 2) := by decide +kernel
theorem dX7_less_35 : decode cX7_less 35 = .ok (.iload_n 2, 1) := by decide +kernel
theorem dX7_less_36 : decode cX7_less 36 = .ok (.ifCond .ne 7, 3) := by decide +kernel
theorem dX7_less_39 : decode cX7_less 39 = .ok (.iconst 3, 1) := by decide +kernel
theorem dX7_less_40 : decode cX7_less 40 = .ok (.goto 5, 3) := by decide +kernel
theorem dX7_less_43 : decode cX7_less 43 = .ok (.bipush 61, 2) := by decide +kernel
theorem dX7_less_45 : decode cX7_less 45 = .ok (.invokevirtual 46, 3) := by decide +kernel
theorem dX7_less_48 : decode cX7_less 48 = .ok (.if_icmp .ge 42, 3) := by decide +kernel
theorem dX7_less_51 : decode cX7_less 51 = .ok (.iload 4, 2) := by decide +kernel
theorem dX7_less_53 : decode cX7_less 53 = .ok (.aload_n 0, 1) := by decide +kernel
theorem dX7_less_54 : decode cX7_less 54 = .ok (.iload 5, 2) := by decide +kernel
theorem dX7_less_56 : decode cX7_less 56 = .ok (.iload_n 2, 1) := by decide +kernel
theorem dX7_less_57 : decode cX7_less 57 = .ok (.ifCond .ne 7, 3) := by decide +kernel
theorem dX7_less_60 : decode cX7_less 60 = .ok (.iconst 4, 1) := by decide +kernel
theorem dX7_less_61 : decode cX7_less 61 = .ok (.goto 5, 3) := by decide +kernel
theorem dX7_less_64 : decode cX7_less 64 = .ok (.bipush 62, 2) := by decide +kernel
theorem dX7_less_66 : decode cX7_less 66 = .ok (.iload 6, 2) := by decide +kernel
theorem dX7_less_68 : decode cX7_less 68 = .ok (.iadd, 1) := by decide +kernel
theorem dX7_less_69 : decode cX7_less 69 = .ok (.invokevirtual 46, 3) := by decide +kernel
theorem dX7_less_72 : decode cX7_less 72 = .ok (.iload_n 3, 1) := by decide +kernel
theorem dX7_less_73 : decode cX7_less 73 = .ok (.if_icmp .ge 7, 3) := by decide +kernel
theorem dX7_less_76 : decode cX7_less 76 = .ok (.iconst 1, 1) := by decide +kernel
theorem dX7_less_77 : decode cX7_less 77 = .ok (.goto 4, 3) := by decide +kernel
theorem dX7_less_80 : decode cX7_less 80 = .ok (.iconst 0, 1) := by decide +kernel
theorem dX7_less_81 : decode cX7_less 81 = .ok (.iadd, 1) := by decide +kernel
theorem dX7_less_82 : decode cX7_less 82 = .ok (.istore 4, 2) := by decide +kernel
theorem dX7_less_84 : decode cX7_less 84 = .ok (.iinc 6 1, 3) := by decide +kernel
theorem dX7_less_87 : decode cX7_less 87 = .ok (.goto (-63), 3) := by decide +kernel
theorem dX7_less_90 : decode cX7_less 90 = .ok (.iload 4, 2) := by decide +kernel
theorem dX7_less_92 : decode cX7_less 92 = .ok (.ireturn, 1) := by decide +kernel
theorem dX7_builds_0 : decode cX7_builds 0 = .ok (.aload_n 0, 1) := by decide +kernel
theorem dX7_builds_1 : decode cX7_builds 1 = .ok (.iload_n 1, 1) := by decide +kernel
theorem dX7_builds_2 : decode cX7_builds 2 = .ok (.bipush 61, 2) := by decide +kernel
theorem dX7_builds_4 : decode cX7_builds 4 = .ok (.iconst 0, 1) := by decide +kernel
theorem dX7_builds_5 : decode cX7_builds 5 = .ok (.invokevirtual 59, 3) := by decide +kernel
theorem dX7_builds_8 : decode cX7_builds 8 = .ok (.iconst 0, 1) := by decide +kernel
theorem dX7_builds_9 : decode cX7_builds 9 = .ok (.istore_n 2, 1) := by decide +kernel
theorem dX7_builds_10 : decode cX7_builds 10 = .ok (.iload_n 2, 1) := by decide +kernel
theorem dX7_builds_11 : decode cX7_builds 11 = .ok (.aload_n 0, 1) := by decide +kernel
theorem dX7_builds_12 : decode cX7_builds 12 = .ok (.iload_n 1, 1) := by decide +kernel
theorem dX7_builds_13 : decode cX7_builds 13 = .ok (.iconst 3, 1) := by decide +kernel
theorem dX7_builds_14 : decode cX7_builds 14 = .ok (.invokevirtual 46, 3) := by decide +kernel
theorem dX7_builds_17 : decode cX7_builds 17 = .ok (.if_icmp .ge 23, 3) := by decide +kernel
theorem dX7_builds_20 : decode cX7_builds 20 = .ok (.aload_n 0, 1) := by decide +kernel
theorem dX7_builds_21 : decode cX7_builds 21 = .ok (.iload_n 1, 1) := by decide +kernel
theorem dX7_builds_22 : decode cX7_builds 22 = .ok (.aload_n 0, 1) := by decide +kernel
theorem dX7_builds_23 : decode cX7_builds 23 = .ok (.iload_n 1, 1) := by decide +kernel
theorem dX7_builds_24 : decode cX7_builds 24 = .ok (.iconst 4, 1) := by decide +kernel
theorem dX7_builds_25 : decode cX7_builds 25 = .ok (.iload_n 2, 1) := by decide +kernel
theorem dX7_builds_26 : decode cX7_builds 26 = .ok (.iadd, 1) := by decide +kernel
theorem dX7_builds_27 : decode cX7_builds 27 = .ok (.invokevirtual 46, 3) := by decide +kernel
theorem dX7_builds_30 : decode cX7_builds 30 = .ok (.iconst 0, 1) := by decide +kernel
theorem dX7_builds_31 : decode cX7_builds 31 = .ok (.invokevirtual 63, 3) := by decide +kernel
theorem dX7_builds_34 : decode cX7_builds 34 = .ok (.iinc 2 1, 3) := by decide +kernel
theorem dX7_builds_37 : decode cX7_builds 37 = .ok (.goto (-27), 3) := by decide +kernel
theorem dX7_builds_40 : decode cX7_builds 40 = .ok (.iconst 1, 1) := by decide +kernel
theorem dX7_builds_41 : decode cX7_builds 41 = .ok (.istore_n 2, 1) := by decide +kernel
theorem dX7_builds_42 : decode cX7_builds 42 = .ok (.iload_n 2, 1) := by decide +kernel
theorem dX7_builds_43 : decode cX7_builds 43 = .ok (.iconst 2, 1) := by decide +kernel
theorem dX7_builds_44 : decode cX7_builds 44 = .ok (.if_icmp .gt 75, 3) := by decide +kernel
theorem dX7_builds_47 : decode cX7_builds 47 = .ok (.aload_n 0, 1) := by decide +kernel
theorem dX7_builds_48 : decode cX7_builds 48 = .ok (.iload_n 1, 1) := by decide +kernel
theorem dX7_builds_49 : decode cX7_builds 49 = .ok (.iconst 0, 1) := by decide +kernel
theorem dX7_builds_50 : decode cX7_builds 50 = .ok (.iload_n 2, 1) := by decide +kernel
theorem dX7_builds_51 : decode cX7_builds 51 = .ok (.iadd, 1) := by decide +kernel
theorem dX7_builds_52 : decode cX7_builds 52 = .ok (.invokevirtual 46, 3) := by decide +kernel
theorem dX7_builds_55 : decode cX7_builds 55 = .ok (.istore_n 3, 1) := by decide +kernel
theorem dX7_builds_56 : decode cX7_builds 56 = .ok (.aload_n 0, 1) := by decide +kernel
theorem dX7_builds_57 : decode cX7_builds 57 = .ok (.getfield 7, 3) := by decide +kernel
theorem dX7_builds_60 : decode cX7_builds 60 = .ok (.iconst 2, 1) := by decide +kernel
theorem dX7_builds_61 : decode cX7_builds 61 = .ok (.iaload, 1) := by decide +kernel
theorem dX7_builds_62 : decode cX7_builds 62 = .ok (.iconst 1, 1) := by decide +kernel
theorem dX7_builds_63 : decode cX7_builds 63 = .ok (.isub, 1) := by decide +kernel
theorem dX7_builds_64 : decode cX7_builds 64 = .ok (.istore 4, 2) := by decide +kernel
theorem dX7_builds_66 : decode cX7_builds 66 = .ok (.iload_n 3, 1) := by decide +kernel
theorem dX7_builds_67 : decode cX7_builds 67 = .ok (.iconst (-1), 1) := by decide +kernel
theorem dX7_builds_68 : decode cX7_builds 68 = .ok (.if_icmp .eq 45, 3) := by decide +kernel
theorem dX7_builds_71 : decode cX7_builds 71 = .ok (.iload 4, 2) := by decide +kernel
theorem dX7_builds_73 : decode cX7_builds 73 = .ok (.aload_n 0, 1) := by decide +kernel
theorem dX7_builds_74 : decode cX7_builds 74 = .ok (.iload_n 3, 1) := by decide +kernel
theorem dX7_builds_75 : decode cX7_builds 75 = .ok (.bipush 61, 2) := by decide +kernel
theorem dX7_builds_77 : decode cX7_builds 77 = .ok (.invokevirtual 46, 3) := by decide +kernel
theorem dX7_builds_80 : decode cX7_builds 80 = .ok (.if_icmp .ge 33, 3) := by decide +kernel
theorem dX7_builds_83 : decode cX7_builds 83 = .ok (.aload_n 0, 1) := by decide +kernel
theorem dX7_builds_84 : decode cX7_builds 84 = .ok (.iload_n 1, 1) := by decide +kernel
theorem dX7_builds_85 : decode cX7_builds 85 = .ok (.aload_n 0, 1) := by decide +kernel
theorem dX7_builds_86 : decode cX7_builds 86 = .ok (.iload_n 3, 1) := by decide +kernel
theorem dX7_builds_87 : decode cX7_builds 87 = .ok (.bipush 62, 2) := by decide +kernel
theorem dX7_builds_89 : decode cX7_builds 89 = .ok (.iload 4, 2) := by decide +kernel
theorem dX7_builds_91 : decode cX7_builds 91 = .ok (.iadd, 1) := by decide +kernel
theorem dX7_builds_92 : decode cX7_builds 92 = .ok (.invokevirtual 46, 3) := by decide +kernel
theorem dX7_builds_95 : decode cX7_builds 95 = .ok (.iload_n 2, 1) := by decide +kernel
theorem dX7_builds_96 : decode cX7_builds 96 = .ok (.invokevirtual 63, 3) := by decide +kernel
theorem dX7_builds_99 : decode cX7_builds 99 = .ok (.iload 4, 2) := by decide +kernel
theorem dX7_builds_101 : decode cX7_builds 101 = .ok (.aload_n 0, 1) := by decide +kernel
theorem dX7_builds_102 : decode cX7_builds 102 = .ok (.getfield 7, 3) := by decide +kernel
theorem dX7_builds_105 : decode cX7_builds 105 = .ok (.iconst 2, 1) := by decide +kernel
theorem dX7_builds_106 : decode cX7_builds 106 = .ok (.iaload, 1) := by decide +kernel
theorem dX7_builds_107 : decode cX7_builds 107 = .ok (.iadd, 1) := by decide +kernel
theorem dX7_builds_108 : decode cX7_builds 108 = .ok (.istore 4, 2) := by decide +kernel
theorem dX7_builds_110 : decode cX7_builds 110 = .ok (.goto (-44), 3) := by decide +kernel
theorem dX7_builds_113 : decode cX7_builds 113 = .ok (.iinc 2 1, 3) := by decide +kernel
theorem dX7_builds_116 : decode cX7_builds 116 = .ok (.goto (-74), 3) := by decide +kernel
theorem dX7_builds_119 : decode cX7_builds 119 = .ok (.aload_n 0, 1) := by decide +kernel
theorem dX7_builds_120 : decode cX7_builds 120 = .ok (.iload_n 1, 1) := by decide +kernel
theorem dX7_builds_121 : decode cX7_builds 121 = .ok (.bipush 61, 2) := by decide +kernel
theorem dX7_builds_123 : decode cX7_builds 123 = .ok (.invokevirtual 46, 3) := by decide +kernel
theorem dX7_builds_126 : decode cX7_builds 126 = .ok (.istore_n 2, 1) := by decide +kernel
theorem dX7_builds_127 : decode cX7_builds 127 = .ok (.iconst 0, 1) := by decide +kernel
theorem dX7_builds_128 : decode cX7_builds 128 = .ok (.istore_n 3, 1) := by decide +kernel
theorem dX7_builds_129 : decode cX7_builds 129 = .ok (.iload_n 3, 1) := by decide +kernel
theorem dX7_builds_130 : decode cX7_builds 130 = .ok (.iload_n 2, 1) := by decide +kernel
theorem dX7_builds_131 : decode cX7_builds 131 = .ok (.if_icmp .gt 66, 3) := by decide +kernel
theorem dX7_builds_134 : decode cX7_builds 134 = .ok (.iconst 0, 1) := by decide +kernel
theorem dX7_builds_135 : decode cX7_builds 135 = .ok (.istore 4, 2) := by decide +kernel
theorem dX7_builds_137 : decode cX7_builds 137 = .ok (.iload 4, 2) := by decide +kernel
theorem dX7_builds_139 : decode cX7_builds 139 = .ok (.iconst 2, 1) := by decide +kernel
theorem dX7_builds_140 : decode cX7_builds 140 = .ok (.if_icmp .gt 51, 3) := by decide +kernel
theorem dX7_builds_143 : decode cX7_builds 143 = .ok (.aload_n 0, 1) := by decide +kernel
theorem dX7_builds_144 : decode cX7_builds 144 = .ok (.iload_n 1, 1) := by decide +kernel
theorem dX7_builds_145 : decode cX7_builds 145 = .ok (.sipush 254, 3) := by decide +kernel
theorem dX7_builds_148 : decode cX7_builds 148 = .ok (.iconst 3, 1) := by decide +kernel
theorem dX7_builds_149 : decode cX7_builds 149 = .ok (.iload_n 3, 1) := by decide +kernel
theorem dX7_builds_150 : decode cX7_builds 150 = .ok (.imul, 1) := by decide +kernel
theorem dX7_builds_151 : decode cX7_builds 151 = .ok (.iadd, 1) := by decide +kernel
theorem dX7_builds_152 : decode cX7_builds 152 = .ok (.iload 4, 2) := by decide +kernel
theorem dX7_builds_154 : decode cX7_builds 154 = .ok (.iadd, 1) := by decide +kernel
theorem dX7_builds_155 : decode cX7_builds 155 = .ok (.aload_n 0, 1) := by decide +kernel
theorem dX7_builds_156 : decode cX7_builds 156 = .ok (.iload_n 1, 1) := by decide +kernel
theorem dX7_builds_157 : decode cX7_builds 157 = .ok (.iload 4, 2) := by decide +kernel
theorem dX7_builds_159 : decode cX7_builds 159 = .ok (.iload_n 3, 1) := by decide +kernel
theorem dX7_builds_160 : decode cX7_builds 160 = .ok (.iload_n 2, 1) := by decide +kernel
theorem dX7_builds_161 : decode cX7_builds 161 = .ok (.if_icmp .ge 15, 3) := by decide +kernel
theorem dX7_builds_164 : decode cX7_builds 164 = .ok (.aload_n 0, 1) := by decide +kernel
theorem dX7_builds_165 : decode cX7_builds 165 = .ok (.iload_n 1, 1) := by decide +kernel
theorem dX7_builds_166 : decode cX7_builds 166 = .ok (.bipush 62, 2) := by decide +kernel
theorem dX7_builds_168 : decode cX7_builds 168 = .ok (.iload_n 3, 1) := by decide +kernel
theorem dX7_builds_169 : decode cX7_builds 169 = .ok (.iadd, 1) := by decide +kernel
theorem dX7_builds_170 : decode cX7_builds 170 = .ok (.invokevirtual 46, 3) := by decide +kernel
theorem dX7_builds_173 : decode cX7_builds 173 = .ok (.goto 6, 3) := by decide +kernel
theorem dX7_builds_176 : decode cX7_builds 176 = .ok (.sipush 10000, 3) := by decide +kernel
theorem dX7_builds_179 : decode cX7_builds 179 = .ok (.invokevirtual 66, 3) := by decide +kernel
theorem dX7_builds_182 : decode cX7_builds 182 = .ok (.invokevirtual 59, 3) := by decide +kernel
theorem dX7_builds_185 : decode cX7_builds 185 = .ok (.iinc 4 1, 3) := by decide +kernel
theorem dX7_builds_188 : decode cX7_builds 188 = .ok (.goto (-51), 3) := by decide +kernel
theorem dX7_builds_191 : decode cX7_builds 191 = .ok (.iinc 3 1, 3) := by decide +kernel
theorem dX7_builds_194 : decode cX7_builds 194 = .ok (.goto (-65), 3) := by decide +kernel
theorem dX7_builds_197 : decode cX7_builds 197 = .ok (.aload_n 0, 1) := by decide +kernel
theorem dX7_builds_198 : decode cX7_builds 198 = .ok (.getfield 7, 3) := by decide +kernel
theorem dX7_builds_201 : decode cX7_builds 201 = .ok (.iconst 5, 1) := by decide +kernel
theorem dX7_builds_202 : decode cX7_builds 202 = .ok (.dup2, 1) := by decide +kernel
theorem dX7_builds_203 : decode cX7_builds 203 = .ok (.iaload, 1) := by decide +kernel
theorem dX7_builds_204 : decode cX7_builds 204 = .ok (.iconst 1, 1) := by decide +kernel
theorem dX7_builds_205 : decode cX7_builds 205 = .ok (.iadd, 1) := by decide +kernel
theorem dX7_builds_206 : decode cX7_builds 206 = .ok (.iastore, 1) := by decide +kernel
theorem dX7_builds_207 : decode cX7_builds 207 = .ok (.aload_n 0, 1) := by decide +kernel
theorem dX7_builds_208 : decode cX7_builds 208 = .ok (.getfield 7, 3) := by decide +kernel
theorem dX7_builds_211 : decode cX7_builds 211 = .ok (.bipush 6, 2) := by decide +kernel
theorem dX7_builds_213 : decode cX7_builds 213 = .ok (.dup2, 1) := by decide +kernel
theorem dX7_builds_214 : decode cX7_builds 214 = .ok (.iaload, 1) := by decide +kernel
theorem dX7_builds_215 : decode cX7_builds 215 = .ok (.iload_n 2, 1) := by decide +kernel
theorem dX7_builds_216 : decode cX7_builds 216 = .ok (.iadd, 1) := by decide +kernel
theorem dX7_builds_217 : decode cX7_builds 217 = .ok (.iastore, 1) := by decide +kernel
theorem dX7_builds_218 : decode cX7_builds 218 = .ok (.return_, 1) := by decide +kernel
theorem dX7_buildsUp_0 : decode cX7_buildsUp 0 = .ok (.iconst 0, 1) := by decide +kernel
theorem dX7_buildsUp_1 : decode cX7_buildsUp 1 = .ok (.istore_n 2, 1) := by decide +kernel
theorem dX7_buildsUp_2 : decode cX7_buildsUp 2 = .ok (.iload_n 1, 1) := by decide +kernel
theorem dX7_buildsUp_3 : decode cX7_buildsUp 3 = .ok (.istore_n 3, 1) := by decide +kernel
theorem dX7_buildsUp_4 : decode cX7_buildsUp 4 = .ok (.iload_n 3, 1) := by decide +kernel
theorem dX7_buildsUp_5 : decode cX7_buildsUp 5 = .ok (.iconst (-1), 1) := by decide +kernel
theorem dX7_buildsUp_6 : decode cX7_buildsUp 6 = .ok (.if_icmp .eq 28, 3) := by decide +kernel
theorem dX7_buildsUp_9 : decode cX7_buildsUp 9 = .ok (.aload_n 0, 1) := by decide +kernel
theorem dX7_buildsUp_10 : decode cX7_buildsUp 10 = .ok (.iload_n 3, 1) := by decide +kernel
theorem dX7_buildsUp_11 : decode cX7_buildsUp 11 = .ok (.invokevirtual 70, 3) := by decide +kernel
theorem dX7_buildsUp_14 : decode cX7_buildsUp 14 = .ok (.iload_n 2, 1) := by decide +kernel
theorem dX7_buildsUp_15 : decode cX7_buildsUp 15 = .ok (.aload_n 0, 1) := by decide +kernel
theorem dX7_buildsUp_16 : decode cX7_buildsUp 16 = .ok (.iload_n 3, 1) := by decide +kernel
theorem dX7_buildsUp_17 : decode cX7_buildsUp 17 = .ok (.bipush 61, 2) := by decide +kernel
theorem dX7_buildsUp_19 : decode cX7_buildsUp 19 = .ok (.invokevirtual 46, 3) := by decide +kernel
theorem dX7_buildsUp_22 : decode cX7_buildsUp 22 = .ok (.iadd, 1) := by decide +kernel
theorem dX7_buildsUp_23 : decode cX7_buildsUp 23 = .ok (.istore_n 2, 1) := by decide +kernel
theorem dX7_buildsUp_24 : decode cX7_buildsUp 24 = .ok (.aload_n 0, 1) := by decide +kernel
theorem dX7_buildsUp_25 : decode cX7_buildsUp 25 = .ok (.iload_n 3, 1) := by decide +kernel
theorem dX7_buildsUp_26 : decode cX7_buildsUp 26 = .ok (.iconst 0, 1) := by decide +kernel
theorem dX7_buildsUp_27 : decode cX7_buildsUp 27 = .ok (.invokevirtual 46, 3) := by decide +kernel
theorem dX7_buildsUp_30 : decode cX7_buildsUp 30 = .ok (.istore_n 3, 1) := by decide +kernel
theorem dX7_buildsUp_31 : decode cX7_buildsUp 31 = .ok (.goto (-27), 3) := by decide +kernel
theorem dX7_buildsUp_34 : decode cX7_buildsUp 34 = .ok (.iload_n 2, 1) := by decide +kernel
theorem dX7_buildsUp_35 : decode cX7_buildsUp 35 = .ok (.ireturn, 1) := by decide +kernel
theorem dX7_rebuilds_0 : decode cX7_rebuilds 0 = .ok (.iconst 0, 1) := by decide +kernel
theorem dX7_rebuilds_1 : decode cX7_rebuilds 1 = .ok (.istore_n 2, 1) := by decide +kernel
theorem dX7_rebuilds_2 : decode cX7_rebuilds 2 = .ok (.aload_n 0, 1) := by decide +kernel
theorem dX7_rebuilds_3 : decode cX7_rebuilds 3 = .ok (.iload_n 1, 1) := by decide +kernel
theorem dX7_rebuilds_4 : decode cX7_rebuilds 4 = .ok (.iconst 0, 1) := by decide +kernel
theorem dX7_rebuilds_5 : decode cX7_rebuilds 5 = .ok (.invokevirtual 74, 3) := by decide +kernel
theorem dX7_rebuilds_8 : decode cX7_rebuilds 8 = .ok (.istore_n 3, 1) := by decide +kernel
theorem dX7_rebuilds_9 : decode cX7_rebuilds 9 = .ok (.iload_n 3, 1) := by decide +kernel
theorem dX7_rebuilds_10 : decode cX7_rebuilds 10 = .ok (.iconst (-1), 1) := by decide +kernel
theorem dX7_rebuilds_11 : decode cX7_rebuilds 11 = .ok (.if_icmp .eq 25, 3) := by decide +kernel
theorem dX7_rebuilds_14 : decode cX7_rebuilds 14 = .ok (.aload_n 0, 1) := by decide +kernel
theorem dX7_rebuilds_15 : decode cX7_rebuilds 15 = .ok (.getfield 19, 3) := by decide +kernel
theorem dX7_rebuilds_18 : decode cX7_rebuilds 18 = .ok (.iload_n 2, 1) := by decide +kernel
theorem dX7_rebuilds_19 : decode cX7_rebuilds 19 = .ok (.iload_n 3, 1) := by decide +kernel
theorem dX7_rebuilds_20 : decode cX7_rebuilds 20 = .ok (.iastore, 1) := by decide +kernel
theorem dX7_rebuilds_21 : decode cX7_rebuilds 21 = .ok (.iinc 2 1, 3) := by decide +kernel
theorem dX7_rebuilds_24 : decode cX7_rebuilds 24 = .ok (.aload_n 0, 1) := by decide +kernel
theorem dX7_rebuilds_25 : decode cX7_rebuilds 25 = .ok (.iload_n 1, 1) := by decide +kernel
theorem dX7_rebuilds_26 : decode cX7_rebuilds 26 = .ok (.iload_n 3, 1) := by decide +kernel
theorem dX7_rebuilds_27 : decode cX7_rebuilds 27 = .ok (.iconst 1, 1) := by decide +kernel
theorem dX7_rebuilds_28 : decode cX7_rebuilds 28 = .ok (.iadd, 1) := by decide +kernel
theorem dX7_rebuilds_29 : decode cX7_rebuilds 29 = .ok (.invokevirtual 74, 3) := by decide +kernel
theorem dX7_rebuilds_32 : decode cX7_rebuilds 32 = .ok (.istore_n 3, 1) := by decide +kernel
theorem dX7_rebuilds_33 : decode cX7_rebuilds 33 = .ok (.goto (-24), 3) := by decide +kernel
theorem dX7_rebuilds_36 : decode cX7_rebuilds 36 = .ok (.aload_n 0, 1) := by decide +kernel
theorem dX7_rebuilds_37 : decode cX7_rebuilds 37 = .ok (.iload_n 1, 1) := by decide +kernel
theorem dX7_rebuilds_38 : decode cX7_rebuilds 38 = .ok (.iconst 3, 1) := by decide +kernel
theorem dX7_rebuilds_39 : decode cX7_rebuilds 39 = .ok (.iload_n 2, 1) := by decide +kernel
theorem dX7_rebuilds_40 : decode cX7_rebuilds 40 = .ok (.invokevirtual 59, 3) := by decide +kernel
theorem dX7_rebuilds_43 : decode cX7_rebuilds 43 = .ok (.aload_n 0, 1) := by decide +kernel
theorem dX7_rebuilds_44 : decode cX7_rebuilds 44 = .ok (.iload_n 1, 1) := by decide +kernel
theorem dX7_rebuilds_45 : decode cX7_rebuilds 45 = .ok (.bipush 52, 2) := by decide +kernel
theorem dX7_rebuilds_47 : decode cX7_rebuilds 47 = .ok (.iconst 0, 1) := by decide +kernel
theorem dX7_rebuilds_48 : decode cX7_rebuilds 48 = .ok (.invokevirtual 59, 3) := by decide +kernel
theorem dX7_rebuilds_51 : decode cX7_rebuilds 51 = .ok (.iconst 0, 1) := by decide +kernel
theorem dX7_rebuilds_52 : decode cX7_rebuilds 52 = .ok (.istore_n 3, 1) := by decide +kernel
theorem dX7_rebuilds_53 : decode cX7_rebuilds 53 = .ok (.iload_n 3, 1) := by decide +kernel
theorem dX7_rebuilds_54 : decode cX7_rebuilds 54 = .ok (.bipush 24, 2) := by decide +kernel
theorem dX7_rebuilds_56 : decode cX7_rebuilds 56 = .ok (.if_icmp .ge 42, 3) := by decide +kernel
theorem dX7_rebuilds_59 : decode cX7_rebuilds 59 = .ok (.aload_n 0, 1) := by decide +kernel
theorem dX7_rebuilds_60 : decode cX7_rebuilds 60 = .ok (.iload_n 1, 1) := by decide +kernel
theorem dX7_rebuilds_61 : decode cX7_rebuilds 61 = .ok (.iconst 4, 1) := by decide +kernel
theorem dX7_rebuilds_62 : decode cX7_rebuilds 62 = .ok (.iload_n 3, 1) := by decide +kernel
theorem dX7_rebuilds_63 : decode cX7_rebuilds 63 = .ok (.iadd, 1) := by decide +kernel
theorem dX7_rebuilds_64 : decode cX7_rebuilds 64 = .ok (.iload_n 3, 1) := by decide +kernel
theorem dX7_rebuilds_65 : decode cX7_rebuilds 65 = .ok (.iload_n 2, 1) := by decide +kernel
theorem dX7_rebuilds_66 : decode cX7_rebuilds 66 = .ok (.if_icmp .ge 12, 3) := by decide +kernel
theorem dX7_rebuilds_69 : decode cX7_rebuilds 69 = .ok (.aload_n 0, 1) := by decide +kernel
theorem dX7_rebuilds_70 : decode cX7_rebuilds 70 = .ok (.getfield 19, 3) := by decide +kernel
theorem dX7_rebuilds_73 : decode cX7_rebuilds 73 = .ok (.iload_n 3, 1) := by decide +kernel
theorem dX7_rebuilds_74 : decode cX7_rebuilds 74 = .ok (.iaload, 1) := by decide +kernel
theorem dX7_rebuilds_75 : decode cX7_rebuilds 75 = .ok (.goto 4, 3) := by decide +kernel
theorem dX7_rebuilds_78 : decode cX7_rebuilds 78 = .ok (.iconst 0, 1) := by decide +kernel
theorem dX7_rebuilds_79 : decode cX7_rebuilds 79 = .ok (.invokevirtual 59, 3) := by decide +kernel
theorem dX7_rebuilds_82 : decode cX7_rebuilds 82 = .ok (.aload_n 0, 1) := by decide +kernel
theorem dX7_rebuilds_83 : decode cX7_rebuilds 83 = .ok (.iload_n 1, 1) := by decide +kernel
theorem dX7_rebuilds_84 : decode cX7_rebuilds 84 = .ok (.bipush 28, 2) := by decide +kernel
theorem dX7_rebuilds_86 : decode cX7_rebuilds 86 = .ok (.iload_n 3, 1) := by decide +kernel
theorem dX7_rebuilds_87 : decode cX7_rebuilds 87 = .ok (.iadd, 1) := by decide +kernel
theorem dX7_rebuilds_88 : decode cX7_rebuilds 88 = .ok (.iconst 0, 1) := by decide +kernel
theorem dX7_rebuilds_89 : decode cX7_rebuilds 89 = .ok (.invokevirtual 59, 3) := by decide +kernel
theorem dX7_rebuilds_92 : decode cX7_rebuilds 92 = .ok (.iinc 3 1, 3) := by decide +kernel
theorem dX7_rebuilds_95 : decode cX7_rebuilds 95 = .ok (.goto (-42), 3) := by decide +kernel
theorem dX7_rebuilds_98 : decode cX7_rebuilds 98 = .ok (.aload_n 0, 1) := by decide +kernel
theorem dX7_rebuilds_99 : decode cX7_rebuilds 99 = .ok (.getfield 7, 3) := by decide +kernel
theorem dX7_rebuilds_102 : decode cX7_rebuilds 102 = .ok (.bipush 7, 2) := by decide +kernel
theorem dX7_rebuilds_104 : decode cX7_rebuilds 104 = .ok (.dup2, 1) := by decide +kernel
theorem dX7_rebuilds_105 : decode cX7_rebuilds 105 = .ok (.iaload, 1) := by decide +kernel
theorem dX7_rebuilds_106 : decode cX7_rebuilds 106 = .ok (.iconst 1, 1) := by decide +kernel
theorem dX7_rebuilds_107 : decode cX7_rebuilds 107 = .ok (.iadd, 1) := by decide +kernel
theorem dX7_rebuilds_108 : decode cX7_rebuilds 108 = .ok (.iastore, 1) := by decide +kernel
theorem dX7_rebuilds_109 : decode cX7_rebuilds 109 = .ok (.aload_n 0, 1) := by decide +kernel
theorem dX7_rebuilds_110 : decode cX7_rebuilds 110 = .ok (.iload_n 1, 1) := by decide +kernel
theorem dX7_rebuilds_111 : decode cX7_rebuilds 111 = .ok (.invokevirtual 77, 3) := by decide +kernel
theorem dX7_rebuilds_114 : decode cX7_rebuilds 114 = .ok (.ireturn, 1) := by decide +kernel
theorem dX7_addNode_0 : decode cX7_addNode 0 = .ok (.aload_n 0, 1) := by decide +kernel
theorem dX7_addNode_1 : decode cX7_addNode 1 = .ok (.iload_n 1, 1) := by decide +kernel
theorem dX7_addNode_2 : decode cX7_addNode 2 = .ok (.invokevirtual 80, 3) := by decide +kernel
theorem dX7_addNode_5 : decode cX7_addNode 5 = .ok (.ifCond .ne 9, 3) := by decide +kernel
theorem dX7_addNode_8 : decode cX7_addNode 8 = .ok (.aload_n 0, 1) := by decide +kernel
theorem dX7_addNode_9 : decode cX7_addNode 9 = .ok (.iconst 1, 1) := by decide +kernel
theorem dX7_addNode_10 : decode cX7_addNode 10 = .ok (.invokevirtual 84, 3) := by decide +kernel
theorem dX7_addNode_13 : decode cX7_addNode 13 = .ok (.ireturn, 1) := by decide +kernel
theorem dX7_addNode_14 : decode cX7_addNode 14 = .ok (.iload_n 2, 1) := by decide +kernel
theorem dX7_addNode_15 : decode cX7_addNode 15 = .ok (.iconst 1, 1) := by decide +kernel
theorem dX7_addNode_16 : decode cX7_addNode 16 = .ok (.iconst 2, 1) := by decide +kernel
theorem dX7_addNode_17 : decode cX7_addNode 17 = .ok (.invokestatic 42, 3) := by decide +kernel
theorem dX7_addNode_20 : decode cX7_addNode 20 = .ok (.ifCond .ne 9, 3) := by decide +kernel
theorem dX7_addNode_23 : decode cX7_addNode 23 = .ok (.aload_n 0, 1) := by decide +kernel
theorem dX7_addNode_24 : decode cX7_addNode 24 = .ok (.iconst 2, 1) := by decide +kernel
theorem dX7_addNode_25 : decode cX7_addNode 25 = .ok (.invokevirtual 84, 3) := by decide +kernel
theorem dX7_addNode_28 : decode cX7_addNode 28 = .ok (.ireturn, 1) := by decide +kernel
theorem dX7_addNode_29 : decode cX7_addNode 29 = .ok (.aload_n 0, 1) := by decide +kernel
theorem dX7_addNode_30 : decode cX7_addNode 30 = .ok (.getfield 7, 3) := by decide +kernel
theorem dX7_addNode_33 : decode cX7_addNode 33 = .ok (.iconst 0, 1) := by decide +kernel
theorem dX7_addNode_34 : decode cX7_addNode 34 = .ok (.iaload, 1) := by decide +kernel
theorem dX7_addNode_35 : decode cX7_addNode 35 = .ok (.bipush 15, 2) := by decide +kernel
theorem dX7_addNode_37 : decode cX7_addNode 37 = .ok (.if_icmp .eq 15, 3) := by decide +kernel
theorem dX7_addNode_40 : decode cX7_addNode 40 = .ok (.aload_n 0, 1) := by decide +kernel
theorem dX7_addNode_41 : decode cX7_addNode 41 = .ok (.iload_n 1, 1) := by decide +kernel
theorem dX7_addNode_42 : decode cX7_addNode 42 = .ok (.iconst 0, 1) := by decide +kernel
theorem dX7_addNode_43 : decode cX7_addNode 43 = .ok (.iload_n 2, 1) := by decide +kernel
theorem dX7_addNode_44 : decode cX7_addNode 44 = .ok (.iadd, 1) := by decide +kernel
theorem dX7_addNode_45 : decode cX7_addNode 45 = .ok (.invokevirtual 46, 3) := by decide +kernel
theorem dX7_addNode_48 : decode cX7_addNode 48 = .ok (.iconst (-1), 1) := by decide +kernel
theorem dX7_addNode_49 : decode cX7_addNode 49 = .ok (.if_icmp .eq 9, 3) := by decide +kernel
theorem dX7_addNode_52 : decode cX7_addNode 52 = .ok (.aload_n 0, 1) := by decide +kernel
theorem dX7_addNode_53 : decode cX7_addNode 53 = .ok (.iconst 3, 1) := by decide +kernel
theorem dX7_addNode_54 : decode cX7_addNode 54 = .ok (.invokevirtual 84, 3) := by decide +kernel
theorem dX7_addNode_57 : decode cX7_addNode 57 = .ok (.ireturn, 1) := by decide +kernel
theorem dX7_addNode_58 : decode cX7_addNode 58 = .ok (.aload_n 0, 1) := by decide +kernel
theorem dX7_addNode_59 : decode cX7_addNode 59 = .ok (.invokevirtual 87, 3) := by decide +kernel
theorem dX7_addNode_62 : decode cX7_addNode 62 = .ok (.aload_n 0, 1) := by decide +kernel
theorem dX7_addNode_63 : decode cX7_addNode 63 = .ok (.getfield 7, 3) := by decide +kernel
theorem dX7_addNode_66 : decode cX7_addNode 66 = .ok (.iconst 0, 1) := by decide +kernel
theorem dX7_addNode_67 : decode cX7_addNode 67 = .ok (.iaload, 1) := by decide +kernel
theorem dX7_addNode_68 : decode cX7_addNode 68 = .ok (.istore_n 3, 1) := by decide +kernel
theorem dX7_addNode_69 : decode cX7_addNode 69 = .ok (.aload_n 0, 1) := by decide +kernel
theorem dX7_addNode_70 : decode cX7_addNode 70 = .ok (.getfield 7, 3) := by decide +kernel
theorem dX7_addNode_73 : decode cX7_addNode 73 = .ok (.iconst 0, 1) := by decide +kernel
theorem dX7_addNode_74 : decode cX7_addNode 74 = .ok (.dup2, 1) := by decide +kernel
theorem dX7_addNode_75 : decode cX7_addNode 75 = .ok (.iaload, 1) := by decide +kernel
theorem dX7_addNode_76 : decode cX7_addNode 76 = .ok (.iconst 1, 1) := by decide +kernel
theorem dX7_addNode_77 : decode cX7_addNode 77 = .ok (.iadd, 1) := by decide +kernel
theorem dX7_addNode_78 : decode cX7_addNode 78 = .ok (.iastore, 1) := by decide +kernel
theorem dX7_addNode_79 : decode cX7_addNode 79 = .ok (.iconst 0, 1) := by decide +kernel
theorem dX7_addNode_80 : decode cX7_addNode 80 = .ok (.istore 4, 2) := by decide +kernel
theorem dX7_addNode_82 : decode cX7_addNode 82 = .ok (.iload 4, 2) := by decide +kernel
theorem dX7_addNode_84 : decode cX7_addNode 84 = .ok (.sipush 545, 3) := by decide +kernel
theorem dX7_addNode_87 : decode cX7_addNode 87 = .ok (.if_icmp .ge 17, 3) := by decide +kernel
theorem dX7_addNode_90 : decode cX7_addNode 90 = .ok (.aload_n 0, 1) := by decide +kernel
theorem dX7_addNode_91 : decode cX7_addNode 91 = .ok (.iload_n 3, 1) := by decide +kernel
theorem dX7_addNode_92 : decode cX7_addNode 92 = .ok (.iload 4, 2) := by decide +kernel
theorem dX7_addNode_94 : decode cX7_addNode 94 = .ok (.iconst 0, 1) := by decide +kernel
theorem dX7_addNode_95 : decode cX7_addNode 95 = .ok (.invokevirtual 59, 3) := by decide +kernel
theorem dX7_addNode_98 : decode cX7_addNode 98 = .ok (.iinc 4 1, 3) := by decide +kernel
theorem dX7_addNode_101 : decode cX7_addNode 101 = .ok (.goto (-19), 3) := by decide +kernel
theorem dX7_addNode_104 : decode cX7_addNode 104 = .ok (.aload_n 0, 1) := by decide +kernel
theorem dX7_addNode_105 : decode cX7_addNode 105 = .ok (.iload_n 3, 1) := by decide +kernel
theorem dX7_addNode_106 : decode cX7_addNode 106 = .ok (.iconst 0, 1) := by decide +kernel
theorem dX7_addNode_107 : decode cX7_addNode 107 = .ok (.iload_n 1, 1) := by decide +kernel
theorem dX7_addNode_108 : decode cX7_addNode 108 = .ok (.invokevirtual 59, 3) := by decide +kernel
theorem dX7_addNode_111 : decode cX7_addNode 111 = .ok (.aload_n 0, 1) := by decide +kernel
theorem dX7_addNode_112 : decode cX7_addNode 112 = .ok (.iload_n 3, 1) := by decide +kernel
theorem dX7_addNode_113 : decode cX7_addNode 113 = .ok (.iconst 1, 1) := by decide +kernel
theorem dX7_addNode_114 : decode cX7_addNode 114 = .ok (.iconst (-1), 1) := by decide +kernel
theorem dX7_addNode_115 : decode cX7_addNode 115 = .ok (.invokevirtual 59, 3) := by decide +kernel
theorem dX7_addNode_118 : decode cX7_addNode 118 = .ok (.aload_n 0, 1) := by decide +kernel
theorem dX7_addNode_119 : decode cX7_addNode 119 = .ok (.iload_n 3, 1) := by decide +kernel
theorem dX7_addNode_120 : decode cX7_addNode 120 = .ok (.iconst 2, 1) := by decide +kernel
theorem dX7_addNode_121 : decode cX7_addNode 121 = .ok (.iconst (-1), 1) := by decide +kernel
theorem dX7_addNode_122 : decode cX7_addNode 122 = .ok (.invokevirtual 59, 3) := by decide +kernel
theorem dX7_addNode_125 : decode cX7_addNode 125 = .ok (.aload_n 0, 1) := by decide +kernel
theorem dX7_addNode_126 : decode cX7_addNode 126 = .ok (.iload_n 1, 1) := by decide +kernel
theorem dX7_addNode_127 : decode cX7_addNode 127 = .ok (.iconst 0, 1) := by decide +kernel
theorem dX7_addNode_128 : decode cX7_addNode 128 = .ok (.iload_n 2, 1) := by decide +kernel
theorem dX7_addNode_129 : decode cX7_addNode 129 = .ok (.iadd, 1) := by decide +kernel
theorem dX7_addNode_130 : decode cX7_addNode 130 = .ok (.iload_n 3, 1) := by decide +kernel
theorem dX7_addNode_131 : decode cX7_addNode 131 = .ok (.invokevirtual 59, 3) := by decide +kernel
theorem dX7_addNode_134 : decode cX7_addNode 134 = .ok (.aload_n 0, 1) := by decide +kernel
theorem dX7_addNode_135 : decode cX7_addNode 135 = .ok (.iload_n 3, 1) := by decide +kernel
theorem dX7_addNode_136 : decode cX7_addNode 136 = .ok (.invokevirtual 77, 3) := by decide +kernel
theorem dX7_addNode_139 : decode cX7_addNode 139 = .ok (.istore 4, 2) := by decide +kernel
theorem dX7_addNode_141 : decode cX7_addNode 141 = .ok (.aload_n 0, 1) := by decide +kernel
theorem dX7_addNode_142 : decode cX7_addNode 142 = .ok (.iload 4, 2) := by decide +kernel
theorem dX7_addNode_144 : decode cX7_addNode 144 = .ok (.ifCond .ge 8, 3) := by decide +kernel
theorem dX7_addNode_147 : decode cX7_addNode 147 = .ok (.iload 4, 2) := by decide +kernel
theorem dX7_addNode_149 : decode cX7_addNode 149 = .ok (.goto 4, 3) := by decide +kernel
theorem dX7_addNode_152 : decode cX7_addNode 152 = .ok (.iload_n 3, 1) := by decide +kernel
theorem dX7_addNode_153 : decode cX7_addNode 153 = .ok (.invokevirtual 90, 3) := by decide +kernel
theorem dX7_addNode_156 : decode cX7_addNode 156 = .ok (.ireturn, 1) := by decide +kernel
theorem dX7_comes_0 : decode cX7_comes 0 = .ok (.aload_n 0, 1) := by decide +kernel
theorem dX7_comes_1 : decode cX7_comes 1 = .ok (.iload_n 1, 1) := by decide +kernel
theorem dX7_comes_2 : decode cX7_comes 2 = .ok (.iload_n 2, 1) := by decide +kernel
theorem dX7_comes_3 : decode cX7_comes 3 = .ok (.invokevirtual 53, 3) := by decide +kernel
theorem dX7_comes_6 : decode cX7_comes 6 = .ok (.istore_n 3, 1) := by decide +kernel
theorem dX7_comes_7 : decode cX7_comes 7 = .ok (.iload_n 3, 1) := by decide +kernel
theorem dX7_comes_8 : decode cX7_comes 8 = .ok (.iconst (-1), 1) := by decide +kernel
theorem dX7_comes_9 : decode cX7_comes 9 = .ok (.if_icmp .eq 14, 3) := by decide +kernel
theorem dX7_comes_12 : decode cX7_comes 12 = .ok (.aload_n 0, 1) := by decide +kernel
theorem dX7_comes_13 : decode cX7_comes 13 = .ok (.iload_n 1, 1) := by decide +kernel
theorem dX7_comes_14 : decode cX7_comes 14 = .ok (.bipush 28, 2) := by decide +kernel
theorem dX7_comes_16 : decode cX7_comes 16 = .ok (.iload_n 3, 1) := by decide +kernel
theorem dX7_comes_17 : decode cX7_comes 17 = .ok (.iadd, 1) := by decide +kernel
theorem dX7_comes_18 : decode cX7_comes 18 = .ok (.iconst 0, 1) := by decide +kernel
theorem dX7_comes_19 : decode cX7_comes 19 = .ok (.invokevirtual 59, 3) := by decide +kernel
theorem dX7_comes_22 : decode cX7_comes 22 = .ok (.return_, 1) := by decide +kernel
theorem dX7_comes_23 : decode cX7_comes 23 = .ok (.aload_n 0, 1) := by decide +kernel
theorem dX7_comes_24 : decode cX7_comes 24 = .ok (.iload_n 1, 1) := by decide +kernel
theorem dX7_comes_25 : decode cX7_comes 25 = .ok (.bipush 53, 2) := by decide +kernel
theorem dX7_comes_27 : decode cX7_comes 27 = .ok (.aload_n 0, 1) := by decide +kernel
theorem dX7_comes_28 : decode cX7_comes 28 = .ok (.iload_n 1, 1) := by decide +kernel
theorem dX7_comes_29 : decode cX7_comes 29 = .ok (.bipush 52, 2) := by decide +kernel
theorem dX7_comes_31 : decode cX7_comes 31 = .ok (.invokevirtual 46, 3) := by decide +kernel
theorem dX7_comes_34 : decode cX7_comes 34 = .ok (.iadd, 1) := by decide +kernel
theorem dX7_comes_35 : decode cX7_comes 35 = .ok (.iload_n 2, 1) := by decide +kernel
theorem dX7_comes_36 : decode cX7_comes 36 = .ok (.invokevirtual 59, 3) := by decide +kernel
theorem dX7_comes_39 : decode cX7_comes 39 = .ok (.aload_n 0, 1) := by decide +kernel
theorem dX7_comes_40 : decode cX7_comes 40 = .ok (.iload_n 1, 1) := by decide +kernel
theorem dX7_comes_41 : decode cX7_comes 41 = .ok (.bipush 52, 2) := by decide +kernel
theorem dX7_comes_43 : decode cX7_comes 43 = .ok (.aload_n 0, 1) := by decide +kernel
theorem dX7_comes_44 : decode cX7_comes 44 = .ok (.iload_n 1, 1) := by decide +kernel
theorem dX7_comes_45 : decode cX7_comes 45 = .ok (.bipush 52, 2) := by decide +kernel
theorem dX7_comes_47 : decode cX7_comes 47 = .ok (.invokevirtual 46, 3) := by decide +kernel
theorem dX7_comes_50 : decode cX7_comes 50 = .ok (.iconst 1, 1) := by decide +kernel
theorem dX7_comes_51 : decode cX7_comes 51 = .ok (.iadd, 1) := by decide +kernel
theorem dX7_comes_52 : decode cX7_comes 52 = .ok (.invokevirtual 59, 3) := by decide +kernel
theorem dX7_comes_55 : decode cX7_comes 55 = .ok (.aload_n 0, 1) := by decide +kernel
theorem dX7_comes_56 : decode cX7_comes 56 = .ok (.iload_n 1, 1) := by decide +kernel
theorem dX7_comes_57 : decode cX7_comes 57 = .ok (.bipush 52, 2) := by decide +kernel
theorem dX7_comes_59 : decode cX7_comes 59 = .ok (.invokevirtual 46, 3) := by decide +kernel
theorem dX7_comes_62 : decode cX7_comes 62 = .ok (.aload_n 0, 1) := by decide +kernel
theorem dX7_comes_63 : decode cX7_comes 63 = .ok (.getfield 7, 3) := by decide +kernel
theorem dX7_comes_66 : decode cX7_comes 66 = .ok (.iconst 1, 1) := by decide +kernel
