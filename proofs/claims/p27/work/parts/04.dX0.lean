theorem dX0_init_0 : decode cX0_init 0 = .ok (.aload_n 0, 1) := by decide +kernel
theorem dX0_init_1 : decode cX0_init 1 = .ok (.invokespecial 3, 3) := by decide +kernel
theorem dX0_init_4 : decode cX0_init 4 = .ok (.aload_n 0, 1) := by decide +kernel
theorem dX0_init_5 : decode cX0_init 5 = .ok (.iconst (-1), 1) := by decide +kernel
theorem dX0_init_6 : decode cX0_init 6 = .ok (.putfield 9, 3) := by decide +kernel
theorem dX0_init_9 : decode cX0_init 9 = .ok (.aload_n 0, 1) := by decide +kernel
theorem dX0_init_10 : decode cX0_init 10 = .ok (.iconst (-1), 1) := by decide +kernel
theorem dX0_init_11 : decode cX0_init 11 = .ok (.putfield 15, 3) := by decide +kernel
theorem dX0_init_14 : decode cX0_init 14 = .ok (.aload_n 0, 1) := by decide +kernel
theorem dX0_init_15 : decode cX0_init 15 = .ok (.iconst (-1), 1) := by decide +kernel
theorem dX0_init_16 : decode cX0_init 16 = .ok (.putfield 18, 3) := by decide +kernel
theorem dX0_init_19 : decode cX0_init 19 = .ok (.aload_n 0, 1) := by decide +kernel
theorem dX0_init_20 : decode cX0_init 20 = .ok (.new 21, 3) := by decide +kernel
theorem dX0_init_23 : decode cX0_init 23 = .ok (.dup, 1) := by decide +kernel
theorem dX0_init_24 : decode cX0_init 24 = .ok (.bipush 24, 2) := by decide +kernel
theorem dX0_init_26 : decode cX0_init 26 = .ok (.invokespecial 23, 3) := by decide +kernel
theorem dX0_init_29 : decode cX0_init 29 = .ok (.putfield 26, 3) := by decide +kernel
theorem dX0_init_32 : decode cX0_init 32 = .ok (.aload_n 0, 1) := by decide +kernel
theorem dX0_init_33 : decode cX0_init 33 = .ok (.new 21, 3) := by decide +kernel
theorem dX0_init_36 : decode cX0_init 36 = .ok (.dup, 1) := by decide +kernel
theorem dX0_init_37 : decode cX0_init 37 = .ok (.bipush 24, 2) := by decide +kernel
theorem dX0_init_39 : decode cX0_init 39 = .ok (.invokespecial 23, 3) := by decide +kernel
theorem dX0_init_42 : decode cX0_init 42 = .ok (.putfield 30, 3) := by decide +kernel
theorem dX0_init_45 : decode cX0_init 45 = .ok (.aload_n 0, 1) := by decide +kernel
theorem dX0_init_46 : decode cX0_init 46 = .ok (.new 21, 3) := by decide +kernel
theorem dX0_init_49 : decode cX0_init 49 = .ok (.dup, 1) := by decide +kernel
theorem dX0_init_50 : decode cX0_init 50 = .ok (.bipush 8, 2) := by decide +kernel
theorem dX0_init_52 : decode cX0_init 52 = .ok (.invokespecial 23, 3) := by decide +kernel
theorem dX0_init_55 : decode cX0_init 55 = .ok (.putfield 33, 3) := by decide +kernel
theorem dX0_init_58 : decode cX0_init 58 = .ok (.aload_n 0, 1) := by decide +kernel
theorem dX0_init_59 : decode cX0_init 59 = .ok (.new 36, 3) := by decide +kernel
theorem dX0_init_62 : decode cX0_init 62 = .ok (.dup, 1) := by decide +kernel
theorem dX0_init_63 : decode cX0_init 63 = .ok (.invokespecial 38, 3) := by decide +kernel
theorem dX0_init_66 : decode cX0_init 66 = .ok (.putfield 39, 3) := by decide +kernel
theorem dX0_init_69 : decode cX0_init 69 = .ok (.return_, 1) := by decide +kernel
theorem dX0_child_0 : decode cX0_child 0 = .ok (.iload_n 1, 1) := by decide +kernel
theorem dX0_child_1 : decode cX0_child 1 = .ok (.iconst 1, 1) := by decide +kernel
theorem dX0_child_2 : decode cX0_child 2 = .ok (.if_icmp .ne 10, 3) := by decide +kernel
theorem dX0_child_5 : decode cX0_child 5 = .ok (.aload_n 0, 1) := by decide +kernel
theorem dX0_child_6 : decode cX0_child 6 = .ok (.getfield 15, 3) := by decide +kernel
theorem dX0_child_9 : decode cX0_child 9 = .ok (.goto 7, 3) := by decide +kernel
theorem dX0_child_12 : decode cX0_child 12 = .ok (.aload_n 0, 1) := by decide +kernel
theorem dX0_child_13 : decode cX0_child 13 = .ok (.getfield 18, 3) := by decide +kernel
theorem dX0_child_16 : decode cX0_child 16 = .ok (.ireturn, 1) := by decide +kernel
theorem dX0_isMarked_0 : decode cX0_isMarked 0 = .ok (.aload_n 0, 1) := by decide +kernel
theorem dX0_isMarked_1 : decode cX0_isMarked 1 = .ok (.getfield 30, 3) := by decide +kernel
theorem dX0_isMarked_4 : decode cX0_isMarked 4 = .ok (.iload_n 1, 1) := by decide +kernel
theorem dX0_isMarked_5 : decode cX0_isMarked 5 = .ok (.iconst 0, 1) := by decide +kernel
theorem dX0_isMarked_6 : decode cX0_isMarked 6 = .ok (.invokevirtual 43, 3) := by decide +kernel
theorem dX0_isMarked_9 : decode cX0_isMarked 9 = .ok (.iconst 1, 1) := by decide +kernel
theorem dX0_isMarked_10 : decode cX0_isMarked 10 = .ok (.if_icmp .ne 7, 3) := by decide +kernel
theorem dX0_isMarked_13 : decode cX0_isMarked 13 = .ok (.iconst 1, 1) := by decide +kernel
theorem dX0_isMarked_14 : decode cX0_isMarked 14 = .ok (.goto 4, 3) := by decide +kernel
theorem dX0_isMarked_17 : decode cX0_isMarked 17 = .ok (.iconst 0, 1) := by decide +kernel
theorem dX0_isMarked_18 : decode cX0_isMarked 18 = .ok (.ireturn, 1) := by decide +kernel
theorem dX0_keyCount_0 : decode cX0_keyCount 0 = .ok (.aload_n 0, 1) := by decide +kernel
theorem dX0_keyCount_1 : decode cX0_keyCount 1 = .ok (.getfield 26, 3) := by decide +kernel
theorem dX0_keyCount_4 : decode cX0_keyCount 4 = .ok (.invokevirtual 47, 3) := by decide +kernel
theorem dX0_keyCount_7 : decode cX0_keyCount 7 = .ok (.aload_n 0, 1) := by decide +kernel
theorem dX0_keyCount_8 : decode cX0_keyCount 8 = .ok (.getfield 51, 3) := by decide +kernel
theorem dX0_keyCount_11 : decode cX0_keyCount 11 = .ok (.isub, 1) := by decide +kernel
theorem dX0_keyCount_12 : decode cX0_keyCount 12 = .ok (.aload_n 0, 1) := by decide +kernel
theorem dX0_keyCount_13 : decode cX0_keyCount 13 = .ok (.getfield 33, 3) := by decide +kernel
theorem dX0_keyCount_16 : decode cX0_keyCount 16 = .ok (.invokevirtual 47, 3) := by decide +kernel
theorem dX0_keyCount_19 : decode cX0_keyCount 19 = .ok (.iadd, 1) := by decide +kernel
theorem dX0_keyCount_20 : decode cX0_keyCount 20 = .ok (.ireturn, 1) := by decide +kernel
theorem dX0_isFull_0 : decode cX0_isFull 0 = .ok (.aload_n 0, 1) := by decide +kernel
theorem dX0_isFull_1 : decode cX0_isFull 1 = .ok (.invokevirtual 54, 3) := by decide +kernel
theorem dX0_isFull_4 : decode cX0_isFull 4 = .ok (.bipush 24, 2) := by decide +kernel
theorem dX0_isFull_6 : decode cX0_isFull 6 = .ok (.if_icmp .lt 7, 3) := by decide +kernel
theorem dX0_isFull_9 : decode cX0_isFull 9 = .ok (.iconst 1, 1) := by decide +kernel
theorem dX0_isFull_10 : decode cX0_isFull 10 = .ok (.goto 4, 3) := by decide +kernel
theorem dX0_isFull_13 : decode cX0_isFull 13 = .ok (.iconst 0, 1) := by decide +kernel
theorem dX0_isFull_14 : decode cX0_isFull 14 = .ok (.ireturn, 1) := by decide +kernel
theorem dX0_holds_0 : decode cX0_holds 0 = .ok (.aload_n 0, 1) := by decide +kernel
theorem dX0_holds_1 : decode cX0_holds 1 = .ok (.getfield 26, 3) := by decide +kernel
theorem dX0_holds_4 : decode cX0_holds 4 = .ok (.iload_n 1, 1) := by decide +kernel
theorem dX0_holds_5 : decode cX0_holds 5 = .ok (.invokevirtual 57, 3) := by decide +kernel
theorem dX0_holds_8 : decode cX0_holds 8 = .ok (.istore_n 2, 1) := by decide +kernel
theorem dX0_holds_9 : decode cX0_holds 9 = .ok (.iload_n 2, 1) := by decide +kernel
theorem dX0_holds_10 : decode cX0_holds 10 = .ok (.iconst (-1), 1) := by decide +kernel
theorem dX0_holds_11 : decode cX0_holds 11 = .ok (.if_icmp .eq 11, 3) := by decide +kernel
theorem dX0_holds_14 : decode cX0_holds 14 = .ok (.aload_n 0, 1) := by decide +kernel
theorem dX0_holds_15 : decode cX0_holds 15 = .ok (.iload_n 2, 1) := by decide +kernel
theorem dX0_holds_16 : decode cX0_holds 16 = .ok (.invokevirtual 61, 3) := by decide +kernel
theorem dX0_holds_19 : decode cX0_holds 19 = .ok (.ifCond .eq 15, 3) := by decide +kernel
theorem dX0_holds_22 : decode cX0_holds 22 = .ok (.aload_n 0, 1) := by decide +kernel
theorem dX0_holds_23 : decode cX0_holds 23 = .ok (.getfield 33, 3) := by decide +kernel
theorem dX0_holds_26 : decode cX0_holds 26 = .ok (.iload_n 1, 1) := by decide +kernel
theorem dX0_holds_27 : decode cX0_holds 27 = .ok (.invokevirtual 57, 3) := by decide +kernel
theorem dX0_holds_30 : decode cX0_holds 30 = .ok (.iconst (-1), 1) := by decide +kernel
theorem dX0_holds_31 : decode cX0_holds 31 = .ok (.if_icmp .eq 7, 3) := by decide +kernel
theorem dX0_holds_34 : decode cX0_holds 34 = .ok (.iconst 1, 1) := by decide +kernel
theorem dX0_holds_35 : decode cX0_holds 35 = .ok (.goto 4, 3) := by decide +kernel
theorem dX0_holds_38 : decode cX0_holds 38 = .ok (.iconst 0, 1) := by decide +kernel
theorem dX0_holds_39 : decode cX0_holds 39 = .ok (.ireturn, 1) := by decide +kernel
theorem dX0_takeIn_0 : decode cX0_takeIn 0 = .ok (.aload_n 0, 1) := by decide +kernel
theorem dX0_takeIn_1 : decode cX0_takeIn 1 = .ok (.getfield 26, 3) := by decide +kernel
theorem dX0_takeIn_4 : decode cX0_takeIn 4 = .ok (.iload_n 1, 1) := by decide +kernel
theorem dX0_takeIn_5 : decode cX0_takeIn 5 = .ok (.invokevirtual 57, 3) := by decide +kernel
theorem dX0_takeIn_8 : decode cX0_takeIn 8 = .ok (.istore_n 2, 1) := by decide +kernel
theorem dX0_takeIn_9 : decode cX0_takeIn 9 = .ok (.iload_n 2, 1) := by decide +kernel
theorem dX0_takeIn_10 : decode cX0_takeIn 10 = .ok (.iconst (-1), 1) := by decide +kernel
theorem dX0_takeIn_11 : decode cX0_takeIn 11 = .ok (.if_icmp .ne 13, 3) := by decide +kernel
theorem dX0_takeIn_14 : decode cX0_takeIn 14 = .ok (.aload_n 0, 1) := by decide +kernel
theorem dX0_takeIn_15 : decode cX0_takeIn 15 = .ok (.getfield 33, 3) := by decide +kernel
theorem dX0_takeIn_18 : decode cX0_takeIn 18 = .ok (.iload_n 1, 1) := by decide +kernel
theorem dX0_takeIn_19 : decode cX0_takeIn 19 = .ok (.invokevirtual 65, 3) := by decide +kernel
theorem dX0_takeIn_22 : decode cX0_takeIn 22 = .ok (.iconst 1, 1) := by decide +kernel
theorem dX0_takeIn_23 : decode cX0_takeIn 23 = .ok (.ireturn, 1) := by decide +kernel
theorem dX0_takeIn_24 : decode cX0_takeIn 24 = .ok (.aload_n 0, 1) := by decide +kernel
theorem dX0_takeIn_25 : decode cX0_takeIn 25 = .ok (.getfield 30, 3) := by decide +kernel
theorem dX0_takeIn_28 : decode cX0_takeIn 28 = .ok (.iload_n 2, 1) := by decide +kernel
theorem dX0_takeIn_29 : decode cX0_takeIn 29 = .ok (.iconst 0, 1) := by decide +kernel
theorem dX0_takeIn_30 : decode cX0_takeIn 30 = .ok (.invokevirtual 68, 3) := by decide +kernel
theorem dX0_takeIn_33 : decode cX0_takeIn 33 = .ok (.aload_n 0, 1) := by decide +kernel
theorem dX0_takeIn_34 : decode cX0_takeIn 34 = .ok (.dup, 1) := by decide +kernel
theorem dX0_takeIn_35 : decode cX0_takeIn 35 = .ok (.getfield 51, 3) := by decide +kernel
theorem dX0_takeIn_38 : decode cX0_takeIn 38 = .ok (.iconst 1, 1) := by decide +kernel
theorem dX0_takeIn_39 : decode cX0_takeIn 39 = .ok (.isub, 1) := by decide +kernel
theorem dX0_takeIn_40 : decode cX0_takeIn 40 = .ok (.putfield 51, 3) := by decide +kernel
theorem dX0_takeIn_43 : decode cX0_takeIn 43 = .ok (.iconst 0, 1) := by decide +kernel
theorem dX0_takeIn_44 : decode cX0_takeIn 44 = .ok (.ireturn, 1) := by decide +kernel
theorem dX0_letGo_0 : decode cX0_letGo 0 = .ok (.aload_n 0, 1) := by decide +kernel
theorem dX0_letGo_1 : decode cX0_letGo 1 = .ok (.getfield 33, 3) := by decide +kernel
theorem dX0_letGo_4 : decode cX0_letGo 4 = .ok (.iload_n 1, 1) := by decide +kernel
theorem dX0_letGo_5 : decode cX0_letGo 5 = .ok (.invokevirtual 57, 3) := by decide +kernel
theorem dX0_letGo_8 : decode cX0_letGo 8 = .ok (.istore_n 2, 1) := by decide +kernel
theorem dX0_letGo_9 : decode cX0_letGo 9 = .ok (.iload_n 2, 1) := by decide +kernel
theorem dX0_letGo_10 : decode cX0_letGo 10 = .ok (.iconst (-1), 1) := by decide +kernel
theorem dX0_letGo_11 : decode cX0_letGo 11 = .ok (.if_icmp .eq 13, 3) := by decide +kernel
theorem dX0_letGo_14 : decode cX0_letGo 14 = .ok (.aload_n 0, 1) := by decide +kernel
theorem dX0_letGo_15 : decode cX0_letGo 15 = .ok (.getfield 33, 3) := by decide +kernel
theorem dX0_letGo_18 : decode cX0_letGo 18 = .ok (.iload_n 2, 1) := by decide +kernel
theorem dX0_letGo_19 : decode cX0_letGo 19 = .ok (.invokevirtual 72, 3) := by decide +kernel
theorem dX0_letGo_22 : decode cX0_letGo 22 = .ok (.iconst 0, 1) := by decide +kernel
theorem dX0_letGo_23 : decode cX0_letGo 23 = .ok (.ireturn, 1) := by decide +kernel
theorem dX0_letGo_24 : decode cX0_letGo 24 = .ok (.aload_n 0, 1) := by decide +kernel
theorem dX0_letGo_25 : decode cX0_letGo 25 = .ok (.getfield 30, 3) := by decide +kernel
theorem dX0_letGo_28 : decode cX0_letGo 28 = .ok (.aload_n 0, 1) := by decide +kernel
theorem dX0_letGo_29 : decode cX0_letGo 29 = .ok (.getfield 26, 3) := by decide +kernel
theorem dX0_letGo_32 : decode cX0_letGo 32 = .ok (.iload_n 1, 1) := by decide +kernel
theorem dX0_letGo_33 : decode cX0_letGo 33 = .ok (.invokevirtual 57, 3) := by decide +kernel
theorem dX0_letGo_36 : decode cX0_letGo 36 = .ok (.iconst 1, 1) := by decide +kernel
theorem dX0_letGo_37 : decode cX0_letGo 37 = .ok (.invokevirtual 68, 3) := by decide +kernel
theorem dX0_letGo_40 : decode cX0_letGo 40 = .ok (.aload_n 0, 1) := by decide +kernel
theorem dX0_letGo_41 : decode cX0_letGo 41 = .ok (.dup, 1) := by decide +kernel
theorem dX0_letGo_42 : decode cX0_letGo 42 = .ok (.getfield 51, 3) := by decide +kernel
theorem dX0_letGo_45 : decode cX0_letGo 45 = .ok (.iconst 1, 1) := by decide +kernel
theorem dX0_letGo_46 : decode cX0_letGo 46 = .ok (.iadd, 1) := by decide +kernel
theorem dX0_letGo_47 : decode cX0_letGo 47 = .ok (.putfield 51, 3) := by decide +kernel
theorem dX0_letGo_50 : decode cX0_letGo 50 = .ok (.iconst 1, 1) := by decide +kernel
theorem dX0_letGo_51 : decode cX0_letGo 51 = .ok (.ireturn, 1) := by decide +kernel
theorem dX0_settle_0 : decode cX0_settle 0 = .ok (.iconst 0, 1) := by decide +kernel
theorem dX0_settle_1 : decode cX0_settle 1 = .ok (.istore_n 1, 1) := by decide +kernel
theorem dX0_settle_2 : decode cX0_settle 2 = .ok (.iconst 0, 1) := by decide +kernel
theorem dX0_settle_3 : decode cX0_settle 3 = .ok (.istore_n 2, 1) := by decide +kernel
theorem dX0_settle_4 : decode cX0_settle 4 = .ok (.iload_n 2, 1) := by decide +kernel
theorem dX0_settle_5 : decode cX0_settle 5 = .ok (.aload_n 0, 1) := by decide +kernel
theorem dX0_settle_6 : decode cX0_settle 6 = .ok (.getfield 26, 3) := by decide +kernel
theorem dX0_settle_9 : decode cX0_settle 9 = .ok (.invokevirtual 47, 3) := by decide +kernel
theorem dX0_settle_12 : decode cX0_settle 12 = .ok (.if_icmp .ge 37, 3) := by decide +kernel
theorem dX0_settle_15 : decode cX0_settle 15 = .ok (.aload_n 0, 1) := by decide +kernel
theorem dX0_settle_16 : decode cX0_settle 16 = .ok (.iload_n 2, 1) := by decide +kernel
theorem dX0_settle_17 : decode cX0_settle 17 = .ok (.invokevirtual 61, 3) := by decide +kernel
theorem dX0_settle_20 : decode cX0_settle 20 = .ok (.ifCond .ne 23, 3) := by decide +kernel
theorem dX0_settle_23 : decode cX0_settle 23 = .ok (.aload_n 0, 1) := by decide +kernel
theorem dX0_settle_24 : decode cX0_settle 24 = .ok (.getfield 26, 3) := by decide +kernel
theorem dX0_settle_27 : decode cX0_settle 27 = .ok (.iload_n 1, 1) := by decide +kernel
theorem dX0_settle_28 : decode cX0_settle 28 = .ok (.aload_n 0, 1) := by decide +kernel
theorem dX0_settle_29 : decode cX0_settle 29 = .ok (.getfield 26, 3) := by decide +kernel
theorem dX0_settle_32 : decode cX0_settle 32 = .ok (.iload_n 2, 1) := by decide +kernel
theorem dX0_settle_33 : decode cX0_settle 33 = .ok (.iconst 0, 1) := by decide +kernel
theorem dX0_settle_34 : decode cX0_settle 34 = .ok (.invokevirtual 43, 3) := by decide +kernel
theorem dX0_settle_37 : decode cX0_settle 37 = .ok (.invokevirtual 68, 3) := by decide +kernel
theorem dX0_settle_40 : decode cX0_settle 40 = .ok (.iinc 1 1, 3) := by decide +kernel
theorem dX0_settle_43 : decode cX0_settle 43 = .ok (.iinc 2 1, 3) := by decide +kernel
theorem dX0_settle_46 : decode cX0_settle 46 = .ok (.goto (-42), 3) := by decide +kernel
theorem dX0_settle_49 : decode cX0_settle 49 = .ok (.aload_n 0, 1) := by decide +kernel
theorem dX0_settle_50 : decode cX0_settle 50 = .ok (.getfield 26, 3) := by decide +kernel
theorem dX0_settle_53 : decode cX0_settle 53 = .ok (.iload_n 1, 1) := by decide +kernel
theorem dX0_settle_54 : decode cX0_settle 54 = .ok (.invokevirtual 75, 3) := by decide +kernel
theorem dX0_settle_57 : decode cX0_settle 57 = .ok (.iconst 0, 1) := by decide +kernel
theorem dX0_settle_58 : decode cX0_settle 58 = .ok (.istore_n 2, 1) := by decide +kernel
theorem dX0_settle_59 : decode cX0_settle 59 = .ok (.iload_n 2, 1) := by decide +kernel
theorem dX0_settle_60 : decode cX0_settle 60 = .ok (.aload_n 0, 1) := by decide +kernel
theorem dX0_settle_61 : decode cX0_settle 61 = .ok (.getfield 33, 3) := by decide +kernel
theorem dX0_settle_64 : decode cX0_settle 64 = .ok (.invokevirtual 47, 3) := by decide +kernel
theorem dX0_settle_67 : decode cX0_settle 67 = .ok (.if_icmp .ge 36, 3) := by decide +kernel
theorem dX0_settle_70 : decode cX0_settle 70 = .ok (.aload_n 0, 1) := by decide +kernel
theorem dX0_settle_71 : decode cX0_settle 71 = .ok (.getfield 33, 3) := by decide +kernel
theorem dX0_settle_74 : decode cX0_settle 74 = .ok (.iload_n 2, 1) := by decide +kernel
theorem dX0_settle_75 : decode cX0_settle 75 = .ok (.iconst 0, 1) := by decide +kernel
theorem dX0_settle_76 : decode cX0_settle 76 = .ok (.invokevirtual 43, 3) := by decide +kernel
theorem dX0_settle_79 : decode cX0_settle 79 = .ok (.istore_n 3, 1) := by decide +kernel
theorem dX0_settle_80 : decode cX0_settle 80 = .ok (.aload_n 0, 1) := by decide +kernel
theorem dX0_settle_81 : decode cX0_settle 81 = .ok (.getfield 26, 3) := by decide +kernel
theorem dX0_settle_84 : decode cX0_settle 84 = .ok (.aload_n 0, 1) := by decide +kernel
theorem dX0_settle_85 : decode cX0_settle 85 = .ok (.getfield 26, 3) := by decide +kernel
theorem dX0_settle_88 : decode cX0_settle 88 = .ok (.iload_n 3, 1) := by decide +kernel
theorem dX0_settle_89 : decode cX0_settle 89 = .ok (.iconst 0, 1) := by decide +kernel
theorem dX0_settle_90 : decode cX0_settle 90 = .ok (.invokevirtual 78, 3) := by decide +kernel
theorem dX0_settle_93 : decode cX0_settle 93 = .ok (.iload_n 3, 1) := by decide +kernel
theorem dX0_settle_94 : decode cX0_settle 94 = .ok (.invokevirtual 81, 3) := by decide +kernel
theorem dX0_settle_97 : decode cX0_settle 97 = .ok (.iinc 2 1, 3) := by decide +kernel
theorem dX0_settle_100 : decode cX0_settle 100 = .ok (.goto (-41), 3) := by decide +kernel
theorem dX0_settle_103 : decode cX0_settle 103 = .ok (.aload_n 0, 1) := by decide +kernel
theorem dX0_settle_104 : decode cX0_settle 104 = .ok (.getfield 33, 3) := by decide +kernel
theorem dX0_settle_107 : decode cX0_settle 107 = .ok (.iconst 0, 1) := by decide +kernel
theorem dX0_settle_108 : decode cX0_settle 108 = .ok (.invokevirtual 75, 3) := by decide +kernel
theorem dX0_settle_111 : decode cX0_settle 111 = .ok (.aload_n 0, 1) := by decide +kernel
theorem dX0_settle_112 : decode cX0_settle 112 = .ok (.getfield 30, 3) := by decide +kernel
theorem dX0_settle_115 : decode cX0_settle 115 = .ok (.iconst 0, 1) := by decide +kernel
theorem dX0_settle_116 : decode cX0_settle 116 = .ok (.invokevirtual 75, 3) := by decide +kernel
theorem dX0_settle_119 : decode cX0_settle 119 = .ok (.iconst 0, 1) := by decide +kernel
theorem dX0_settle_120 : decode cX0_settle 120 = .ok (.istore_n 2, 1) := by decide +kernel
theorem dX0_settle_121 : decode cX0_settle 121 = .ok (.iload_n 2, 1) := by decide +kernel
theorem dX0_settle_122 : decode cX0_settle 122 = .ok (.aload_n 0, 1) := by decide +kernel
theorem dX0_settle_123 : decode cX0_settle 123 = .ok (.getfield 26, 3) := by decide +kernel
theorem dX0_settle_126 : decode cX0_settle 126 = .ok (.invokevirtual 47, 3) := by decide +kernel
theorem dX0_settle_129 : decode cX0_settle 129 = .ok (.if_icmp .ge 17, 3) := by decide +kernel
theorem dX0_settle_132 : decode cX0_settle 132 = .ok (.aload_n 0, 1) := by decide +kernel
theorem dX0_settle_133 : decode cX0_settle 133 = .ok (.getfield 30, 3) := by decide +kernel
theorem dX0_settle_136 : decode cX0_settle 136 = .ok (.iconst 0, 1) := by decide +kernel
theorem dX0_settle_137 : decode cX0_settle 137 = .ok (.invokevirtual 65, 3) := by decide +kernel
theorem dX0_settle_140 : decode cX0_settle 140 = .ok (.iinc 2 1, 3) := by decide +kernel
theorem dX0_settle_143 : decode cX0_settle 143 = .ok (.goto (-22), 3) := by decide +kernel
theorem dX0_settle_146 : decode cX0_settle 146 = .ok (.aload_n 0, 1) := by decide +kernel
theorem dX0_settle_147 : decode cX0_settle 147 = .ok (.iconst 0, 1) := by decide +kernel
theorem dX0_settle_148 : decode cX0_settle 148 = .ok (.putfield 51, 3) := by decide +kernel
theorem dX0_settle_151 : decode cX0_settle 151 = .ok (.return_, 1) := by decide +kernel
theorem dX0_firstUnmarked_0 : decode cX0_firstUnmarked 0 = .ok (.iload_n 1, 1) := by decide +kernel
theorem dX0_firstUnmarked_1 : decode cX0_firstUnmarked 1 = .ok (.istore_n 2, 1) := by decide +kernel
theorem dX0_firstUnmarked_2 : decode cX0_firstUnmarked 2 = .ok (.iload_n 2, 1) := by decide +kernel
theorem dX0_firstUnmarked_3 : decode cX0_firstUnmarked 3 = .ok (.aload_n 0, 1) := by decide +kernel
theorem dX0_firstUnmarked_4 : decode cX0_firstUnmarked 4 = .ok (.getfield 26, 3) := by decide +kernel
theorem dX0_firstUnmarked_7 : decode cX0_firstUnmarked 7 = .ok (.invokevirtual 47, 3) := by decide +kernel
theorem dX0_firstUnmarked_10 : decode cX0_firstUnmarked 10 = .ok (.if_icmp .ge 22, 3) := by decide +kernel
theorem dX0_firstUnmarked_13 : decode cX0_firstUnmarked 13 = .ok (.aload_n 0, 1) := by decide +kernel
theorem dX0_firstUnmarked_14 : decode cX0_firstUnmarked 14 = .ok (.getfield 30, 3) := by decide +kernel
theorem dX0_firstUnmarked_17 : decode cX0_firstUnmarked 17 = .ok (.iload_n 2, 1) := by decide +kernel
theorem dX0_firstUnmarked_18 : decode cX0_firstUnmarked 18 = .ok (.iconst 0, 1) := by decide +kernel
theorem dX0_firstUnmarked_19 : decode cX0_firstUnmarked 19 = .ok (.invokevirtual 43, 3) := by decide +kernel
theorem dX0_firstUnmarked_22 : decode cX0_firstUnmarked 22 = .ok (.iconst 1, 1) := by decide +kernel
theorem dX0_firstUnmarked_23 : decode cX0_firstUnmarked 23 = .ok (.if_icmp .ne 9, 3) := by decide +kernel
theorem dX0_firstUnmarked_26 : decode cX0_firstUnmarked 26 = .ok (.iinc 2 1, 3) := by decide +kernel
theorem dX0_firstUnmarked_29 : decode cX0_firstUnmarked 29 = .ok (.goto (-27), 3) := by decide +kernel
theorem dX0_firstUnmarked_32 : decode cX0_firstUnmarked 32 = .ok (.iload_n 2, 1) := by decide +kernel
theorem dX0_firstUnmarked_33 : decode cX0_firstUnmarked 33 = .ok (.ireturn, 1) := by decide +kernel
theorem dX0_leastBuffered_0 : decode cX0_leastBuffered 0 = .ok (.iload_n 2, 1) := by decide +kernel
theorem dX0_leastBuffered_1 : decode cX0_leastBuffered 1 = .ok (.istore_n 3, 1) := by decide +kernel
theorem dX0_leastBuffered_2 : decode cX0_leastBuffered 2 = .ok (.iconst 0, 1) := by decide +kernel
theorem dX0_leastBuffered_3 : decode cX0_leastBuffered 3 = .ok (.istore 4, 2) := by decide +kernel
theorem dX0_leastBuffered_5 : decode cX0_leastBuffered 5 = .ok (.iload 4, 2) := by decide +kernel
theorem dX0_leastBuffered_7 : decode cX0_leastBuffered 7 = .ok (.aload_n 0, 1) := by decide +kernel
theorem dX0_leastBuffered_8 : decode cX0_leastBuffered 8 = .ok (.getfield 33, 3) := by decide +kernel
theorem dX0_leastBuffered_11 : decode cX0_leastBuffered 11 = .ok (.invokevirtual 47, 3) := by decide +kernel
theorem dX0_leastBuffered_14 : decode cX0_leastBuffered 14 = .ok (.if_icmp .ge 36, 3) := by decide +kernel
theorem dX0_leastBuffered_17 : decode cX0_leastBuffered 17 = .ok (.aload_n 0, 1) := by decide +kernel
theorem dX0_leastBuffered_18 : decode cX0_leastBuffered 18 = .ok (.getfield 33, 3) := by decide +kernel
theorem dX0_leastBuffered_21 : decode cX0_leastBuffered 21 = .ok (.iload 4, 2) := by decide +kernel
theorem dX0_leastBuffered_23 : decode cX0_leastBuffered 23 = .ok (.iconst 0, 1) := by decide +kernel
theorem dX0_leastBuffered_24 : decode cX0_leastBuffered 24 = .ok (.invokevirtual 43, 3) := by decide +kernel
theorem dX0_leastBuffered_27 : decode cX0_leastBuffered 27 = .ok (.istore 5, 2) := by decide +kernel
theorem dX0_leastBuffered_29 : decode cX0_leastBuffered 29 = .ok (.iload 5, 2) := by decide +kernel
theorem dX0_leastBuffered_31 : decode cX0_leastBuffered 31 = .ok (.iload_n 1, 1) := by decide +kernel
theorem dX0_leastBuffered_32 : decode cX0_leastBuffered 32 = .ok (.if_icmp .lt 12, 3) := by decide +kernel
theorem dX0_leastBuffered_35 : decode cX0_leastBuffered 35 = .ok (.iload 5, 2) := by decide +kernel
theorem dX0_leastBuffered_37 : decode cX0_leastBuffered 37 = .ok (.iload_n 3, 1) := by decide +kernel
theorem dX0_leastBuffered_38 : decode cX0_leastBuffered 38 = .ok (.if_icmp .ge 6, 3) := by decide +kernel
theorem dX0_leastBuffered_41 : decode cX0_leastBuffered 41 = .ok (.iload 5, 2) := by decide +kernel
theorem dX0_leastBuffered_43 : decode cX0_leastBuffered 43 = .ok (.istore_n 3, 1) := by decide +kernel
theorem dX0_leastBuffered_44 : decode cX0_leastBuffered 44 = .ok (.iinc 4 1, 3) := by decide +kernel
theorem dX0_leastBuffered_47 : decode cX0_leastBuffered 47 = .ok (.goto (-42), 3) := by decide +kernel
theorem dX0_leastBuffered_50 : decode cX0_leastBuffered 50 = .ok (.iload_n 3, 1) := by decide +kernel
theorem dX0_leastBuffered_51 : decode cX0_leastBuffered 51 = .ok (.ireturn, 1) := by decide +kernel
theorem dX0_keyInOrder_0 : decode cX0_keyInOrder 0 = .ok (.iload_n 1, 1) := by decide +kernel
theorem dX0_keyInOrder_1 : decode cX0_keyInOrder 1 = .ok (.aload_n 0, 1) := by decide +kernel
theorem dX0_keyInOrder_2 : decode cX0_keyInOrder 2 = .ok (.invokevirtual 54, 3) := by decide +kernel
theorem dX0_keyInOrder_5 : decode cX0_keyInOrder 5 = .ok (.if_icmp .lt 5, 3) := by decide +kernel
theorem dX0_keyInOrder_8 : decode cX0_keyInOrder 8 = .ok (.iconst (-1), 1) := by decide +kernel
theorem dX0_keyInOrder_9 : decode cX0_keyInOrder 9 = .ok (.ireturn, 1) := by decide +kernel
theorem dX0_keyInOrder_10 : decode cX0_keyInOrder 10 = .ok (.iconst (-1), 1) := by decide +kernel
theorem dX0_keyInOrder_11 : decode cX0_keyInOrder 11 = .ok (.istore_n 2, 1) := by decide +kernel
theorem dX0_keyInOrder_12 : decode cX0_keyInOrder 12 = .ok (.iconst 0, 1) := by decide +kernel
theorem dX0_keyInOrder_13 : decode cX0_keyInOrder 13 = .ok (.istore_n 3, 1) := by decide +kernel
theorem dX0_keyInOrder_14 : decode cX0_keyInOrder 14 = .ok (.iload_n 3, 1) := by decide +kernel
theorem dX0_keyInOrder_15 : decode cX0_keyInOrder 15 = .ok (.iload_n 1, 1) := by decide +kernel
theorem dX0_keyInOrder_16 : decode cX0_keyInOrder 16 = .ok (.if_icmp .gt 49, 3) := by decide +kernel
theorem dX0_keyInOrder_19 : decode cX0_keyInOrder 19 = .ok (.iload_n 2, 1) := by decide +kernel
theorem dX0_keyInOrder_20 : decode cX0_keyInOrder 20 = .ok (.iconst 1, 1) := by decide +kernel
theorem dX0_keyInOrder_21 : decode cX0_keyInOrder 21 = .ok (.iadd, 1) := by decide +kernel
theorem dX0_keyInOrder_22 : decode cX0_keyInOrder 22 = .ok (.istore 4, 2) := by decide +kernel
theorem dX0_keyInOrder_24 : decode cX0_keyInOrder 24 = .ok (.aload_n 0, 1) := by decide +kernel
theorem dX0_keyInOrder_25 : decode cX0_keyInOrder 25 = .ok (.aload_n 0, 1) := by decide +kernel
theorem dX0_keyInOrder_26 : decode cX0_keyInOrder 26 = .ok (.getfield 26, 3) := by decide +kernel
theorem dX0_keyInOrder_29 : decode cX0_keyInOrder 29 = .ok (.iload 4, 2) := by decide +kernel
theorem dX0_keyInOrder_31 : decode cX0_keyInOrder 31 = .ok (.iconst 0, 1) := by decide +kernel
theorem dX0_keyInOrder_32 : decode cX0_keyInOrder 32 = .ok (.invokevirtual 78, 3) := by decide +kernel
theorem dX0_keyInOrder_35 : decode cX0_keyInOrder 35 = .ok (.invokevirtual 84, 3) := by decide +kernel
theorem dX0_keyInOrder_38 : decode cX0_keyInOrder 38 = .ok (.istore 5, 2) := by decide +kernel
theorem dX0_keyInOrder_40 : decode cX0_keyInOrder 40 = .ok (.aload_n 0, 1) := by decide +kernel
theorem dX0_keyInOrder_41 : decode cX0_keyInOrder 41 = .ok (.iload 4, 2) := by decide +kernel
theorem dX0_keyInOrder_43 : decode cX0_keyInOrder 43 = .ok (.aload_n 0, 1) := by decide +kernel
theorem dX0_keyInOrder_44 : decode cX0_keyInOrder 44 = .ok (.getfield 26, 3) := by decide +kernel
theorem dX0_keyInOrder_47 : decode cX0_keyInOrder 47 = .ok (.iload 5, 2) := by decide +kernel
theorem dX0_keyInOrder_49 : decode cX0_keyInOrder 49 = .ok (.sipush 10000, 3) := by decide +kernel
theorem dX0_keyInOrder_52 : decode cX0_keyInOrder 52 = .ok (.invokevirtual 43, 3) := by decide +kernel
theorem dX0_keyInOrder_55 : decode cX0_keyInOrder 55 = .ok (.invokevirtual 87, 3) := by decide +kernel
theorem dX0_keyInOrder_58 : decode cX0_keyInOrder 58 = .ok (.istore_n 2, 1) := by decide +kernel
theorem dX0_keyInOrder_59 : decode cX0_keyInOrder 59 = .ok (.iinc 3 1, 3) := by decide +kernel
theorem dX0_keyInOrder_62 : decode cX0_keyInOrder 62 = .ok (.goto (-48), 3) := by decide +kernel
theorem dX0_keyInOrder_65 : decode cX0_keyInOrder 65 = .ok (.iload_n 2, 1) := by decide +kernel
theorem dX0_keyInOrder_66 : decode cX0_keyInOrder 66 = .ok (.ireturn, 1) := by decide +kernel
theorem dX0_begin_0 : decode cX0_begin 0 = .ok (.aload_n 0, 1) := by decide +kernel
theorem dX0_begin_1 : decode cX0_begin 1 = .ok (.iload_n 1, 1) := by decide +kernel
theorem dX0_begin_2 : decode cX0_begin 2 = .ok (.putfield 9, 3) := by decide +kernel
theorem dX0_begin_5 : decode cX0_begin 5 = .ok (.aload_n 0, 1) := by decide +kernel
theorem dX0_begin_6 : decode cX0_begin 6 = .ok (.iconst (-1), 1) := by decide +kernel
theorem dX0_begin_7 : decode cX0_begin 7 = .ok (.putfield 15, 3) := by decide +kernel
theorem dX0_begin_10 : decode cX0_begin 10 = .ok (.aload_n 0, 1) := by decide +kernel
theorem dX0_begin_11 : decode cX0_begin 11 = .ok (.iconst (-1), 1) := by decide +kernel
theorem dX0_begin_12 : decode cX0_begin 12 = .ok (.putfield 18, 3) := by decide +kernel
theorem dX0_begin_15 : decode cX0_begin 15 = .ok (.aload_n 0, 1) := by decide +kernel
theorem dX0_begin_16 : decode cX0_begin 16 = .ok (.iload_n 2, 1) := by decide +kernel
theorem dX0_begin_17 : decode cX0_begin 17 = .ok (.putfield 90, 3) := by decide +kernel
theorem dX0_begin_20 : decode cX0_begin 20 = .ok (.aload_n 0, 1) := by decide +kernel
theorem dX0_begin_21 : decode cX0_begin 21 = .ok (.iconst 0, 1) := by decide +kernel
theorem dX0_begin_22 : decode cX0_begin 22 = .ok (.putfield 51, 3) := by decide +kernel
theorem dX0_begin_25 : decode cX0_begin 25 = .ok (.aload_n 0, 1) := by decide +kernel
theorem dX0_begin_26 : decode cX0_begin 26 = .ok (.getfield 26, 3) := by decide +kernel
theorem dX0_begin_29 : decode cX0_begin 29 = .ok (.iconst 0, 1) := by decide +kernel
theorem dX0_begin_30 : decode cX0_begin 30 = .ok (.invokevirtual 75, 3) := by decide +kernel
theorem dX0_begin_33 : decode cX0_begin 33 = .ok (.aload_n 0, 1) := by decide +kernel
theorem dX0_begin_34 : decode cX0_begin 34 = .ok (.getfield 30, 3) := by decide +kernel
theorem dX0_begin_37 : decode cX0_begin 37 = .ok (.iconst 0, 1) := by decide +kernel
theorem dX0_begin_38 : decode cX0_begin 38 = .ok (.invokevirtual 75, 3) := by decide +kernel
theorem dX0_begin_41 : decode cX0_begin 41 = .ok (.aload_n 0, 1) := by decide +kernel
theorem dX0_begin_42 : decode cX0_begin 42 = .ok (.getfield 33, 3) := by decide +kernel
theorem dX0_begin_45 : decode cX0_begin 45 = .ok (.iconst 0, 1) := by decide +kernel
theorem dX0_begin_46 : decode cX0_begin 46 = .ok (.invokevirtual 75, 3) := by decide +kernel
theorem dX0_begin_49 : decode cX0_begin 49 = .ok (.return_, 1) := by decide +kernel
theorem dX0_copyFrom_0 : decode cX0_copyFrom 0 = .ok (.aload_n 0, 1) := by decide +kernel
theorem dX0_copyFrom_1 : decode cX0_copyFrom 1 = .ok (.aload_n 1, 1) := by decide +kernel
theorem dX0_copyFrom_2 : decode cX0_copyFrom 2 = .ok (.getfield 9, 3) := by decide +kernel
theorem dX0_copyFrom_5 : decode cX0_copyFrom 5 = .ok (.putfield 9, 3) := by decide +kernel
theorem dX0_copyFrom_8 : decode cX0_copyFrom 8 = .ok (.aload_n 0, 1) := by decide +kernel
theorem dX0_copyFrom_9 : decode cX0_copyFrom 9 = .ok (.aload_n 1, 1) := by decide +kernel
theorem dX0_copyFrom_10 : decode cX0_copyFrom 10 = .ok (.getfield 15, 3) := by decide +kernel
theorem dX0_copyFrom_13 : decode cX0_copyFrom 13 = .ok (.putfield 15, 3) := by decide +kernel
theorem dX0_copyFrom_16 : decode cX0_copyFrom 16 = .ok (.aload_n 0, 1) := by decide +kernel
theorem dX0_copyFrom_17 : decode cX0_copyFrom 17 = .ok (.aload_n 1, 1) := by decide +kernel
theorem dX0_copyFrom_18 : decode cX0_copyFrom 18 = .ok (.getfield 18, 3) := by decide +kernel
theorem dX0_copyFrom_21 : decode cX0_copyFrom 21 = .ok (.putfield 18, 3) := by decide +kernel
theorem dX0_copyFrom_24 : decode cX0_copyFrom 24 = .ok (.aload_n 0, 1) := by decide +kernel
theorem dX0_copyFrom_25 : decode cX0_copyFrom 25 = .ok (.aload_n 1, 1) := by decide +kernel
theorem dX0_copyFrom_26 : decode cX0_copyFrom 26 = .ok (.getfield 90, 3) := by decide +kernel
theorem dX0_copyFrom_29 : decode cX0_copyFrom 29 = .ok (.putfield 90, 3) := by decide +kernel
theorem dX0_copyFrom_32 : decode cX0_copyFrom 32 = .ok (.aload_n 0, 1) := by decide +kernel
theorem dX0_copyFrom_33 : decode cX0_copyFrom 33 = .ok (.aload_n 1, 1) := by decide +kernel
theorem dX0_copyFrom_34 : decode cX0_copyFrom 34 = .ok (.getfield 51, 3) := by decide +kernel
theorem dX0_copyFrom_37 : decode cX0_copyFrom 37 = .ok (.putfield 51, 3) := by decide +kernel
theorem dX0_copyFrom_40 : decode cX0_copyFrom 40 = .ok (.aload_n 0, 1) := by decide +kernel
theorem dX0_copyFrom_41 : decode cX0_copyFrom 41 = .ok (.getfield 26, 3) := by decide +kernel
theorem dX0_copyFrom_44 : decode cX0_copyFrom 44 = .ok (.aload_n 1, 1) := by decide +kernel
theorem dX0_copyFrom_45 : decode cX0_copyFrom 45 = .ok (.getfield 26, 3) := by decide +kernel
theorem dX0_copyFrom_48 : decode cX0_copyFrom 48 = .ok (.invokevirtual 93, 3) := by decide +kernel
theorem dX0_copyFrom_51 : decode cX0_copyFrom 51 = .ok (.aload_n 0, 1) := by decide +kernel
theorem dX0_copyFrom_52 : decode cX0_copyFrom 52 = .ok (.getfield 30, 3) := by decide +kernel
theorem dX0_copyFrom_55 : decode cX0_copyFrom 55 = .ok (.aload_n 1, 1) := by decide +kernel
theorem dX0_copyFrom_56 : decode cX0_copyFrom 56 = .ok (.getfield 30, 3) := by decide +kernel
theorem dX0_copyFrom_59 : decode cX0_copyFrom 59 = .ok (.invokevirtual 93, 3) := by decide +kernel
theorem dX0_copyFrom_62 : decode cX0_copyFrom 62 = .ok (.aload_n 0, 1) := by decide +kernel
theorem dX0_copyFrom_63 : decode cX0_copyFrom 63 = .ok (.getfield 33, 3) := by decide +kernel
theorem dX0_copyFrom_66 : decode cX0_copyFrom 66 = .ok (.aload_n 1, 1) := by decide +kernel
theorem dX0_copyFrom_67 : decode cX0_copyFrom 67 = .ok (.getfield 33, 3) := by decide +kernel
theorem dX0_copyFrom_70 : decode cX0_copyFrom 70 = .ok (.invokevirtual 93, 3) := by decide +kernel
theorem dX0_copyFrom_73 : decode cX0_copyFrom 73 = .ok (.aload_n 0, 1) := by decide +kernel
theorem dX0_copyFrom_74 : decode cX0_copyFrom 74 = .ok (.getfield 39, 3) := by decide +kernel
theorem dX0_copyFrom_77 : decode cX0_copyFrom 77 = .ok (.aload_n 1, 1) := by decide +kernel
theorem dX0_copyFrom_78 : decode cX0_copyFrom 78 = .ok (.getfield 39, 3) := by decide +kernel
theorem dX0_copyFrom_81 : decode cX0_copyFrom 81 = .ok (.invokevirtual 97, 3) := by decide +kernel
theorem dX0_copyFrom_84 : decode cX0_copyFrom 84 = .ok (.return_, 1) := by decide +kernel
