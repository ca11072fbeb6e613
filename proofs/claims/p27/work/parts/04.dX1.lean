theorem dX1_init_0 : decode cX1_init 0 = .ok (.aload_n 0, 1) := by decide +kernel
theorem dX1_init_1 : decode cX1_init 1 = .ok (.invokespecial 3, 3) := by decide +kernel
theorem dX1_init_4 : decode cX1_init 4 = .ok (.aload_n 0, 1) := by decide +kernel
theorem dX1_init_5 : decode cX1_init 5 = .ok (.iconst 4, 1) := by decide +kernel
theorem dX1_init_6 : decode cX1_init 6 = .ok (.anewarray 9, 3) := by decide +kernel
theorem dX1_init_9 : decode cX1_init 9 = .ok (.putfield 11, 3) := by decide +kernel
theorem dX1_init_12 : decode cX1_init 12 = .ok (.iconst 0, 1) := by decide +kernel
theorem dX1_init_13 : decode cX1_init 13 = .ok (.istore_n 1, 1) := by decide +kernel
theorem dX1_init_14 : decode cX1_init 14 = .ok (.iload_n 1, 1) := by decide +kernel
theorem dX1_init_15 : decode cX1_init 15 = .ok (.aload_n 0, 1) := by decide +kernel
theorem dX1_init_16 : decode cX1_init 16 = .ok (.getfield 11, 3) := by decide +kernel
theorem dX1_init_19 : decode cX1_init 19 = .ok (.arraylength, 1) := by decide +kernel
theorem dX1_init_20 : decode cX1_init 20 = .ok (.if_icmp .ge 22, 3) := by decide +kernel
theorem dX1_init_23 : decode cX1_init 23 = .ok (.aload_n 0, 1) := by decide +kernel
theorem dX1_init_24 : decode cX1_init 24 = .ok (.getfield 11, 3) := by decide +kernel
theorem dX1_init_27 : decode cX1_init 27 = .ok (.iload_n 1, 1) := by decide +kernel
theorem dX1_init_28 : decode cX1_init 28 = .ok (.new 9, 3) := by decide +kernel
theorem dX1_init_31 : decode cX1_init 31 = .ok (.dup, 1) := by decide +kernel
theorem dX1_init_32 : decode cX1_init 32 = .ok (.invokespecial 17, 3) := by decide +kernel
theorem dX1_init_35 : decode cX1_init 35 = .ok (.aastore, 1) := by decide +kernel
theorem dX1_init_36 : decode cX1_init 36 = .ok (.iinc 1 1, 3) := by decide +kernel
theorem dX1_init_39 : decode cX1_init 39 = .ok (.goto (-25), 3) := by decide +kernel
theorem dX1_init_42 : decode cX1_init 42 = .ok (.return_, 1) := by decide +kernel
theorem dX1_save_0 : decode cX1_save 0 = .ok (.aload_n 0, 1) := by decide +kernel
theorem dX1_save_1 : decode cX1_save 1 = .ok (.aload_n 0, 1) := by decide +kernel
theorem dX1_save_2 : decode cX1_save 2 = .ok (.getfield 18, 3) := by decide +kernel
theorem dX1_save_5 : decode cX1_save 5 = .ok (.invokevirtual 22, 3) := by decide +kernel
theorem dX1_save_8 : decode cX1_save 8 = .ok (.astore_n 2, 1) := by decide +kernel
theorem dX1_save_9 : decode cX1_save 9 = .ok (.aload_n 2, 1) := by decide +kernel
theorem dX1_save_10 : decode cX1_save 10 = .ok (.ifnonnull 4, 3) := by decide +kernel
theorem dX1_save_13 : decode cX1_save 13 = .ok (.return_, 1) := by decide +kernel
theorem dX1_save_14 : decode cX1_save 14 = .ok (.aload_n 2, 1) := by decide +kernel
theorem dX1_save_15 : decode cX1_save 15 = .ok (.aload_n 1, 1) := by decide +kernel
theorem dX1_save_16 : decode cX1_save 16 = .ok (.invokevirtual 26, 3) := by decide +kernel
theorem dX1_save_19 : decode cX1_save 19 = .ok (.aload_n 0, 1) := by decide +kernel
theorem dX1_save_20 : decode cX1_save 20 = .ok (.aload_n 0, 1) := by decide +kernel
theorem dX1_save_21 : decode cX1_save 21 = .ok (.getfield 18, 3) := by decide +kernel
theorem dX1_save_24 : decode cX1_save 24 = .ok (.iconst 3, 1) := by decide +kernel
theorem dX1_save_25 : decode cX1_save 25 = .ok (.if_icmp .ge 12, 3) := by decide +kernel
theorem dX1_save_28 : decode cX1_save 28 = .ok (.aload_n 0, 1) := by decide +kernel
theorem dX1_save_29 : decode cX1_save 29 = .ok (.getfield 18, 3) := by decide +kernel
theorem dX1_save_32 : decode cX1_save 32 = .ok (.iconst 1, 1) := by decide +kernel
theorem dX1_save_33 : decode cX1_save 33 = .ok (.iadd, 1) := by decide +kernel
theorem dX1_save_34 : decode cX1_save 34 = .ok (.goto 4, 3) := by decide +kernel
theorem dX1_save_37 : decode cX1_save 37 = .ok (.iconst 0, 1) := by decide +kernel
theorem dX1_save_38 : decode cX1_save 38 = .ok (.putfield 18, 3) := by decide +kernel
theorem dX1_save_41 : decode cX1_save 41 = .ok (.aload_n 0, 1) := by decide +kernel
theorem dX1_save_42 : decode cX1_save 42 = .ok (.aload_n 0, 1) := by decide +kernel
theorem dX1_save_43 : decode cX1_save 43 = .ok (.getfield 30, 3) := by decide +kernel
theorem dX1_save_46 : decode cX1_save 46 = .ok (.iconst 1, 1) := by decide +kernel
theorem dX1_save_47 : decode cX1_save 47 = .ok (.iadd, 1) := by decide +kernel
theorem dX1_save_48 : decode cX1_save 48 = .ok (.iconst 4, 1) := by decide +kernel
theorem dX1_save_49 : decode cX1_save 49 = .ok (.invokestatic 33, 3) := by decide +kernel
theorem dX1_save_52 : decode cX1_save 52 = .ok (.putfield 30, 3) := by decide +kernel
theorem dX1_save_55 : decode cX1_save 55 = .ok (.return_, 1) := by decide +kernel
theorem dX1_savedAt_0 : decode cX1_savedAt 0 = .ok (.iload_n 1, 1) := by decide +kernel
theorem dX1_savedAt_1 : decode cX1_savedAt 1 = .ok (.ifCond .lt 21, 3) := by decide +kernel
theorem dX1_savedAt_4 : decode cX1_savedAt 4 = .ok (.iload_n 1, 1) := by decide +kernel
theorem dX1_savedAt_5 : decode cX1_savedAt 5 = .ok (.aload_n 0, 1) := by decide +kernel
theorem dX1_savedAt_6 : decode cX1_savedAt 6 = .ok (.getfield 11, 3) := by decide +kernel
theorem dX1_savedAt_9 : decode cX1_savedAt 9 = .ok (.arraylength, 1) := by decide +kernel
theorem dX1_savedAt_10 : decode cX1_savedAt 10 = .ok (.if_icmp .ge 12, 3) := by decide +kernel
theorem dX1_savedAt_13 : decode cX1_savedAt 13 = .ok (.aload_n 0, 1) := by decide +kernel
theorem dX1_savedAt_14 : decode cX1_savedAt 14 = .ok (.getfield 11, 3) := by decide +kernel
theorem dX1_savedAt_17 : decode cX1_savedAt 17 = .ok (.iload_n 1, 1) := by decide +kernel
theorem dX1_savedAt_18 : decode cX1_savedAt 18 = .ok (.aaload, 1) := by decide +kernel
theorem dX1_savedAt_19 : decode cX1_savedAt 19 = .ok (.goto 4, 3) := by decide +kernel
theorem dX1_savedAt_22 : decode cX1_savedAt 22 = .ok (.aconst_null, 1) := by decide +kernel
theorem dX1_savedAt_23 : decode cX1_savedAt 23 = .ok (.areturn, 1) := by decide +kernel
