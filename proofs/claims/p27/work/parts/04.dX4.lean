theorem dX4_init_0 : decode cX4_init 0 = .ok (.aload_n 0, 1) := by decide +kernel
theorem dX4_init_1 : decode cX4_init 1 = .ok (.invokespecial 3, 3) := by decide +kernel
theorem dX4_init_4 : decode cX4_init 4 = .ok (.aload_n 0, 1) := by decide +kernel
theorem dX4_init_5 : decode cX4_init 5 = .ok (.bipush 15, 2) := by decide +kernel
theorem dX4_init_7 : decode cX4_init 7 = .ok (.anewarray 9, 3) := by decide +kernel
theorem dX4_init_10 : decode cX4_init 10 = .ok (.putfield 11, 3) := by decide +kernel
theorem dX4_init_13 : decode cX4_init 13 = .ok (.aload_n 0, 1) := by decide +kernel
theorem dX4_init_14 : decode cX4_init 14 = .ok (.new 9, 3) := by decide +kernel
theorem dX4_init_17 : decode cX4_init 17 = .ok (.dup, 1) := by decide +kernel
theorem dX4_init_18 : decode cX4_init 18 = .ok (.invokespecial 17, 3) := by decide +kernel
theorem dX4_init_21 : decode cX4_init 21 = .ok (.putfield 18, 3) := by decide +kernel
theorem dX4_init_24 : decode cX4_init 24 = .ok (.aload_n 0, 1) := by decide +kernel
theorem dX4_init_25 : decode cX4_init 25 = .ok (.new 22, 3) := by decide +kernel
theorem dX4_init_28 : decode cX4_init 28 = .ok (.dup, 1) := by decide +kernel
theorem dX4_init_29 : decode cX4_init 29 = .ok (.iconst 0, 1) := by decide +kernel
theorem dX4_init_30 : decode cX4_init 30 = .ok (.invokespecial 24, 3) := by decide +kernel
theorem dX4_init_33 : decode cX4_init 33 = .ok (.putfield 27, 3) := by decide +kernel
theorem dX4_init_36 : decode cX4_init 36 = .ok (.aload_n 0, 1) := by decide +kernel
theorem dX4_init_37 : decode cX4_init 37 = .ok (.iconst 1, 1) := by decide +kernel
theorem dX4_init_38 : decode cX4_init 38 = .ok (.putfield 31, 3) := by decide +kernel
theorem dX4_init_41 : decode cX4_init 41 = .ok (.aload_n 0, 1) := by decide +kernel
theorem dX4_init_42 : decode cX4_init 42 = .ok (.iconst 4, 1) := by decide +kernel
theorem dX4_init_43 : decode cX4_init 43 = .ok (.putfield 35, 3) := by decide +kernel
theorem dX4_init_46 : decode cX4_init 46 = .ok (.aload_n 0, 1) := by decide +kernel
theorem dX4_init_47 : decode cX4_init 47 = .ok (.iconst 2, 1) := by decide +kernel
theorem dX4_init_48 : decode cX4_init 48 = .ok (.putfield 38, 3) := by decide +kernel
theorem dX4_init_51 : decode cX4_init 51 = .ok (.aload_n 0, 1) := by decide +kernel
theorem dX4_init_52 : decode cX4_init 52 = .ok (.getfield 11, 3) := by decide +kernel
theorem dX4_init_55 : decode cX4_init 55 = .ok (.iconst 0, 1) := by decide +kernel
theorem dX4_init_56 : decode cX4_init 56 = .ok (.aload_n 0, 1) := by decide +kernel
theorem dX4_init_57 : decode cX4_init 57 = .ok (.getfield 18, 3) := by decide +kernel
theorem dX4_init_60 : decode cX4_init 60 = .ok (.aastore, 1) := by decide +kernel
theorem dX4_init_61 : decode cX4_init 61 = .ok (.iconst 1, 1) := by decide +kernel
theorem dX4_init_62 : decode cX4_init 62 = .ok (.istore_n 1, 1) := by decide +kernel
theorem dX4_init_63 : decode cX4_init 63 = .ok (.iload_n 1, 1) := by decide +kernel
theorem dX4_init_64 : decode cX4_init 64 = .ok (.aload_n 0, 1) := by decide +kernel
theorem dX4_init_65 : decode cX4_init 65 = .ok (.getfield 11, 3) := by decide +kernel
theorem dX4_init_68 : decode cX4_init 68 = .ok (.arraylength, 1) := by decide +kernel
theorem dX4_init_69 : decode cX4_init 69 = .ok (.if_icmp .ge 22, 3) := by decide +kernel
theorem dX4_init_72 : decode cX4_init 72 = .ok (.aload_n 0, 1) := by decide +kernel
theorem dX4_init_73 : decode cX4_init 73 = .ok (.getfield 11, 3) := by decide +kernel
theorem dX4_init_76 : decode cX4_init 76 = .ok (.iload_n 1, 1) := by decide +kernel
theorem dX4_init_77 : decode cX4_init 77 = .ok (.new 9, 3) := by decide +kernel
theorem dX4_init_80 : decode cX4_init 80 = .ok (.dup, 1) := by decide +kernel
theorem dX4_init_81 : decode cX4_init 81 = .ok (.invokespecial 17, 3) := by decide +kernel
theorem dX4_init_84 : decode cX4_init 84 = .ok (.aastore, 1) := by decide +kernel
theorem dX4_init_85 : decode cX4_init 85 = .ok (.iinc 1 1, 3) := by decide +kernel
theorem dX4_init_88 : decode cX4_init 88 = .ok (.goto (-25), 3) := by decide +kernel
theorem dX4_init_91 : decode cX4_init 91 = .ok (.return_, 1) := by decide +kernel
theorem dX4_at_0 : decode cX4_at 0 = .ok (.iload_n 1, 1) := by decide +kernel
theorem dX4_at_1 : decode cX4_at 1 = .ok (.ifCond .lt 21, 3) := by decide +kernel
theorem dX4_at_4 : decode cX4_at 4 = .ok (.iload_n 1, 1) := by decide +kernel
theorem dX4_at_5 : decode cX4_at 5 = .ok (.aload_n 0, 1) := by decide +kernel
theorem dX4_at_6 : decode cX4_at 6 = .ok (.getfield 11, 3) := by decide +kernel
theorem dX4_at_9 : decode cX4_at 9 = .ok (.arraylength, 1) := by decide +kernel
theorem dX4_at_10 : decode cX4_at 10 = .ok (.if_icmp .ge 12, 3) := by decide +kernel
theorem dX4_at_13 : decode cX4_at 13 = .ok (.aload_n 0, 1) := by decide +kernel
theorem dX4_at_14 : decode cX4_at 14 = .ok (.getfield 11, 3) := by decide +kernel
theorem dX4_at_17 : decode cX4_at 17 = .ok (.iload_n 1, 1) := by decide +kernel
theorem dX4_at_18 : decode cX4_at 18 = .ok (.aaload, 1) := by decide +kernel
theorem dX4_at_19 : decode cX4_at 19 = .ok (.goto 4, 3) := by decide +kernel
theorem dX4_at_22 : decode cX4_at 22 = .ok (.aconst_null, 1) := by decide +kernel
theorem dX4_at_23 : decode cX4_at 23 = .ok (.astore_n 2, 1) := by decide +kernel
theorem dX4_at_24 : decode cX4_at 24 = .ok (.aload_n 2, 1) := by decide +kernel
theorem dX4_at_25 : decode cX4_at 25 = .ok (.ifnull 7, 3) := by decide +kernel
theorem dX4_at_28 : decode cX4_at 28 = .ok (.aload_n 2, 1) := by decide +kernel
theorem dX4_at_29 : decode cX4_at 29 = .ok (.goto 7, 3) := by decide +kernel
theorem dX4_at_32 : decode cX4_at 32 = .ok (.aload_n 0, 1) := by decide +kernel
theorem dX4_at_33 : decode cX4_at 33 = .ok (.getfield 18, 3) := by decide +kernel
theorem dX4_at_36 : decode cX4_at 36 = .ok (.areturn, 1) := by decide +kernel
theorem dX4_grow_0 : decode cX4_grow 0 = .ok (.aload_n 0, 1) := by decide +kernel
theorem dX4_grow_1 : decode cX4_grow 1 = .ok (.getfield 31, 3) := by decide +kernel
theorem dX4_grow_4 : decode cX4_grow 4 = .ok (.istore_n 3, 1) := by decide +kernel
theorem dX4_grow_5 : decode cX4_grow 5 = .ok (.aload_n 0, 1) := by decide +kernel
theorem dX4_grow_6 : decode cX4_grow 6 = .ok (.iload_n 1, 1) := by decide +kernel
theorem dX4_grow_7 : decode cX4_grow 7 = .ok (.invokevirtual 41, 3) := by decide +kernel
theorem dX4_grow_10 : decode cX4_grow 10 = .ok (.astore 4, 2) := by decide +kernel
theorem dX4_grow_12 : decode cX4_grow 12 = .ok (.iload_n 2, 1) := by decide +kernel
theorem dX4_grow_13 : decode cX4_grow 13 = .ok (.iconst 1, 1) := by decide +kernel
theorem dX4_grow_14 : decode cX4_grow 14 = .ok (.if_icmp .ne 12, 3) := by decide +kernel
theorem dX4_grow_17 : decode cX4_grow 17 = .ok (.aload 4, 2) := by decide +kernel
theorem dX4_grow_19 : decode cX4_grow 19 = .ok (.iload_n 3, 1) := by decide +kernel
theorem dX4_grow_20 : decode cX4_grow 20 = .ok (.putfield 45, 3) := by decide +kernel
theorem dX4_grow_23 : decode cX4_grow 23 = .ok (.goto 9, 3) := by decide +kernel
theorem dX4_grow_26 : decode cX4_grow 26 = .ok (.aload 4, 2) := by decide +kernel
theorem dX4_grow_28 : decode cX4_grow 28 = .ok (.iload_n 3, 1) := by decide +kernel
theorem dX4_grow_29 : decode cX4_grow 29 = .ok (.putfield 48, 3) := by decide +kernel
theorem dX4_grow_32 : decode cX4_grow 32 = .ok (.aload_n 0, 1) := by decide +kernel
theorem dX4_grow_33 : decode cX4_grow 33 = .ok (.iload_n 3, 1) := by decide +kernel
theorem dX4_grow_34 : decode cX4_grow 34 = .ok (.invokevirtual 41, 3) := by decide +kernel
theorem dX4_grow_37 : decode cX4_grow 37 = .ok (.iload_n 1, 1) := by decide +kernel
theorem dX4_grow_38 : decode cX4_grow 38 = .ok (.aload 4, 2) := by decide +kernel
theorem dX4_grow_40 : decode cX4_grow 40 = .ok (.getfield 51, 3) := by decide +kernel
theorem dX4_grow_43 : decode cX4_grow 43 = .ok (.iconst 1, 1) := by decide +kernel
theorem dX4_grow_44 : decode cX4_grow 44 = .ok (.iadd, 1) := by decide +kernel
theorem dX4_grow_45 : decode cX4_grow 45 = .ok (.invokevirtual 54, 3) := by decide +kernel
theorem dX4_grow_48 : decode cX4_grow 48 = .ok (.aload_n 0, 1) := by decide +kernel
theorem dX4_grow_49 : decode cX4_grow 49 = .ok (.dup, 1) := by decide +kernel
theorem dX4_grow_50 : decode cX4_grow 50 = .ok (.getfield 31, 3) := by decide +kernel
theorem dX4_grow_53 : decode cX4_grow 53 = .ok (.iconst 1, 1) := by decide +kernel
theorem dX4_grow_54 : decode cX4_grow 54 = .ok (.iadd, 1) := by decide +kernel
theorem dX4_grow_55 : decode cX4_grow 55 = .ok (.putfield 31, 3) := by decide +kernel
theorem dX4_grow_58 : decode cX4_grow 58 = .ok (.aload_n 0, 1) := by decide +kernel
theorem dX4_grow_59 : decode cX4_grow 59 = .ok (.iload_n 3, 1) := by decide +kernel
theorem dX4_grow_60 : decode cX4_grow 60 = .ok (.invokevirtual 58, 3) := by decide +kernel
theorem dX4_grow_63 : decode cX4_grow 63 = .ok (.pop, 1) := by decide +kernel
theorem dX4_grow_64 : decode cX4_grow 64 = .ok (.iload_n 3, 1) := by decide +kernel
theorem dX4_grow_65 : decode cX4_grow 65 = .ok (.ireturn, 1) := by decide +kernel
theorem dX4_takeIn_0 : decode cX4_takeIn 0 = .ok (.aload_n 0, 1) := by decide +kernel
theorem dX4_takeIn_1 : decode cX4_takeIn 1 = .ok (.iload_n 1, 1) := by decide +kernel
theorem dX4_takeIn_2 : decode cX4_takeIn 2 = .ok (.invokevirtual 41, 3) := by decide +kernel
theorem dX4_takeIn_5 : decode cX4_takeIn 5 = .ok (.astore_n 3, 1) := by decide +kernel
theorem dX4_takeIn_6 : decode cX4_takeIn 6 = .ok (.aload_n 3, 1) := by decide +kernel
theorem dX4_takeIn_7 : decode cX4_takeIn 7 = .ok (.iload_n 2, 1) := by decide +kernel
theorem dX4_takeIn_8 : decode cX4_takeIn 8 = .ok (.invokevirtual 62, 3) := by decide +kernel
theorem dX4_takeIn_11 : decode cX4_takeIn 11 = .ok (.ifCond .eq 5, 3) := by decide +kernel
theorem dX4_takeIn_14 : decode cX4_takeIn 14 = .ok (.iconst 0, 1) := by decide +kernel
theorem dX4_takeIn_15 : decode cX4_takeIn 15 = .ok (.ireturn, 1) := by decide +kernel
theorem dX4_takeIn_16 : decode cX4_takeIn 16 = .ok (.aload_n 3, 1) := by decide +kernel
theorem dX4_takeIn_17 : decode cX4_takeIn 17 = .ok (.iload_n 2, 1) := by decide +kernel
theorem dX4_takeIn_18 : decode cX4_takeIn 18 = .ok (.invokevirtual 66, 3) := by decide +kernel
theorem dX4_takeIn_21 : decode cX4_takeIn 21 = .ok (.istore 4, 2) := by decide +kernel
theorem dX4_takeIn_23 : decode cX4_takeIn 23 = .ok (.iload 4, 2) := by decide +kernel
theorem dX4_takeIn_25 : decode cX4_takeIn 25 = .ok (.ifCond .eq 23, 3) := by decide +kernel
theorem dX4_takeIn_28 : decode cX4_takeIn 28 = .ok (.aload_n 3, 1) := by decide +kernel
theorem dX4_takeIn_29 : decode cX4_takeIn 29 = .ok (.getfield 69, 3) := by decide +kernel
theorem dX4_takeIn_32 : decode cX4_takeIn 32 = .ok (.invokevirtual 72, 3) := by decide +kernel
theorem dX4_takeIn_35 : decode cX4_takeIn 35 = .ok (.aload_n 0, 1) := by decide +kernel
theorem dX4_takeIn_36 : decode cX4_takeIn 36 = .ok (.getfield 35, 3) := by decide +kernel
theorem dX4_takeIn_39 : decode cX4_takeIn 39 = .ok (.if_icmp .lt 9, 3) := by decide +kernel
theorem dX4_takeIn_42 : decode cX4_takeIn 42 = .ok (.aload_n 0, 1) := by decide +kernel
theorem dX4_takeIn_43 : decode cX4_takeIn 43 = .ok (.iload_n 1, 1) := by decide +kernel
theorem dX4_takeIn_44 : decode cX4_takeIn 44 = .ok (.invokevirtual 75, 3) := by decide +kernel
theorem dX4_takeIn_47 : decode cX4_takeIn 47 = .ok (.pop, 1) := by decide +kernel
theorem dX4_takeIn_48 : decode cX4_takeIn 48 = .ok (.iconst 1, 1) := by decide +kernel
theorem dX4_takeIn_49 : decode cX4_takeIn 49 = .ok (.ireturn, 1) := by decide +kernel
theorem dX4_drop_0 : decode cX4_drop 0 = .ok (.aload_n 0, 1) := by decide +kernel
theorem dX4_drop_1 : decode cX4_drop 1 = .ok (.iload_n 1, 1) := by decide +kernel
theorem dX4_drop_2 : decode cX4_drop 2 = .ok (.invokevirtual 41, 3) := by decide +kernel
theorem dX4_drop_5 : decode cX4_drop 5 = .ok (.astore_n 3, 1) := by decide +kernel
theorem dX4_drop_6 : decode cX4_drop 6 = .ok (.aload_n 3, 1) := by decide +kernel
theorem dX4_drop_7 : decode cX4_drop 7 = .ok (.iload_n 2, 1) := by decide +kernel
theorem dX4_drop_8 : decode cX4_drop 8 = .ok (.invokevirtual 62, 3) := by decide +kernel
theorem dX4_drop_11 : decode cX4_drop 11 = .ok (.ifCond .ne 5, 3) := by decide +kernel
theorem dX4_drop_14 : decode cX4_drop 14 = .ok (.iconst 0, 1) := by decide +kernel
theorem dX4_drop_15 : decode cX4_drop 15 = .ok (.ireturn, 1) := by decide +kernel
theorem dX4_drop_16 : decode cX4_drop 16 = .ok (.aload_n 3, 1) := by decide +kernel
theorem dX4_drop_17 : decode cX4_drop 17 = .ok (.iload_n 2, 1) := by decide +kernel
theorem dX4_drop_18 : decode cX4_drop 18 = .ok (.invokevirtual 78, 3) := by decide +kernel
theorem dX4_drop_21 : decode cX4_drop 21 = .ok (.istore 4, 2) := by decide +kernel
theorem dX4_drop_23 : decode cX4_drop 23 = .ok (.iload 4, 2) := by decide +kernel
theorem dX4_drop_25 : decode cX4_drop 25 = .ok (.ifCond .eq 25, 3) := by decide +kernel
theorem dX4_drop_28 : decode cX4_drop 28 = .ok (.iconst 2, 1) := by decide +kernel
theorem dX4_drop_29 : decode cX4_drop 29 = .ok (.aload_n 3, 1) := by decide +kernel
theorem dX4_drop_30 : decode cX4_drop 30 = .ok (.getfield 81, 3) := by decide +kernel
theorem dX4_drop_33 : decode cX4_drop 33 = .ok (.imul, 1) := by decide +kernel
theorem dX4_drop_34 : decode cX4_drop 34 = .ok (.aload_n 3, 1) := by decide +kernel
theorem dX4_drop_35 : decode cX4_drop 35 = .ok (.getfield 84, 3) := by decide +kernel
theorem dX4_drop_38 : decode cX4_drop 38 = .ok (.invokevirtual 72, 3) := by decide +kernel
theorem dX4_drop_41 : decode cX4_drop 41 = .ok (.if_icmp .le 9, 3) := by decide +kernel
theorem dX4_drop_44 : decode cX4_drop 44 = .ok (.aload_n 0, 1) := by decide +kernel
theorem dX4_drop_45 : decode cX4_drop 45 = .ok (.iload_n 1, 1) := by decide +kernel
theorem dX4_drop_46 : decode cX4_drop 46 = .ok (.invokevirtual 75, 3) := by decide +kernel
theorem dX4_drop_49 : decode cX4_drop 49 = .ok (.pop, 1) := by decide +kernel
theorem dX4_drop_50 : decode cX4_drop 50 = .ok (.iconst 1, 1) := by decide +kernel
theorem dX4_drop_51 : decode cX4_drop 51 = .ok (.ireturn, 1) := by decide +kernel
theorem dX4_renew_0 : decode cX4_renew 0 = .ok (.aload_n 0, 1) := by decide +kernel
theorem dX4_renew_1 : decode cX4_renew 1 = .ok (.iload_n 1, 1) := by decide +kernel
theorem dX4_renew_2 : decode cX4_renew 2 = .ok (.invokevirtual 41, 3) := by decide +kernel
theorem dX4_renew_5 : decode cX4_renew 5 = .ok (.invokevirtual 87, 3) := by decide +kernel
theorem dX4_renew_8 : decode cX4_renew 8 = .ok (.aload_n 0, 1) := by decide +kernel
theorem dX4_renew_9 : decode cX4_renew 9 = .ok (.dup, 1) := by decide +kernel
theorem dX4_renew_10 : decode cX4_renew 10 = .ok (.getfield 90, 3) := by decide +kernel
theorem dX4_renew_13 : decode cX4_renew 13 = .ok (.iconst 1, 1) := by decide +kernel
theorem dX4_renew_14 : decode cX4_renew 14 = .ok (.iadd, 1) := by decide +kernel
theorem dX4_renew_15 : decode cX4_renew 15 = .ok (.putfield 90, 3) := by decide +kernel
theorem dX4_renew_18 : decode cX4_renew 18 = .ok (.aload_n 0, 1) := by decide +kernel
theorem dX4_renew_19 : decode cX4_renew 19 = .ok (.iload_n 1, 1) := by decide +kernel
theorem dX4_renew_20 : decode cX4_renew 20 = .ok (.invokevirtual 58, 3) := by decide +kernel
theorem dX4_renew_23 : decode cX4_renew 23 = .ok (.ireturn, 1) := by decide +kernel
theorem dX4_buildUpFrom_0 : decode cX4_buildUpFrom 0 = .ok (.iconst 0, 1) := by decide +kernel
theorem dX4_buildUpFrom_1 : decode cX4_buildUpFrom 1 = .ok (.istore_n 2, 1) := by decide +kernel
theorem dX4_buildUpFrom_2 : decode cX4_buildUpFrom 2 = .ok (.aload_n 0, 1) := by decide +kernel
theorem dX4_buildUpFrom_3 : decode cX4_buildUpFrom 3 = .ok (.iload_n 1, 1) := by decide +kernel
theorem dX4_buildUpFrom_4 : decode cX4_buildUpFrom 4 = .ok (.invokevirtual 41, 3) := by decide +kernel
theorem dX4_buildUpFrom_7 : decode cX4_buildUpFrom 7 = .ok (.astore_n 3, 1) := by decide +kernel
theorem dX4_buildUpFrom_8 : decode cX4_buildUpFrom 8 = .ok (.aload_n 3, 1) := by decide +kernel
theorem dX4_buildUpFrom_9 : decode cX4_buildUpFrom 9 = .ok (.getfield 51, 3) := by decide +kernel
theorem dX4_buildUpFrom_12 : decode cX4_buildUpFrom 12 = .ok (.istore 4, 2) := by decide +kernel
theorem dX4_buildUpFrom_14 : decode cX4_buildUpFrom 14 = .ok (.iload 4, 2) := by decide +kernel
theorem dX4_buildUpFrom_16 : decode cX4_buildUpFrom 16 = .ok (.ifCond .lt 69, 3) := by decide +kernel
theorem dX4_buildUpFrom_19 : decode cX4_buildUpFrom 19 = .ok (.aload_n 3, 1) := by decide +kernel
theorem dX4_buildUpFrom_20 : decode cX4_buildUpFrom 20 = .ok (.getfield 93, 3) := by decide +kernel
theorem dX4_buildUpFrom_23 : decode cX4_buildUpFrom 23 = .ok (.aload_n 3, 1) := by decide +kernel
theorem dX4_buildUpFrom_24 : decode cX4_buildUpFrom 24 = .ok (.getfield 84, 3) := by decide +kernel
theorem dX4_buildUpFrom_27 : decode cX4_buildUpFrom 27 = .ok (.aload_n 0, 1) := by decide +kernel
theorem dX4_buildUpFrom_28 : decode cX4_buildUpFrom 28 = .ok (.aload_n 3, 1) := by decide +kernel
theorem dX4_buildUpFrom_29 : decode cX4_buildUpFrom 29 = .ok (.getfield 45, 3) := by decide +kernel
theorem dX4_buildUpFrom_32 : decode cX4_buildUpFrom 32 = .ok (.invokevirtual 97, 3) := by decide +kernel
theorem dX4_buildUpFrom_35 : decode cX4_buildUpFrom 35 = .ok (.aload_n 0, 1) := by decide +kernel
theorem dX4_buildUpFrom_36 : decode cX4_buildUpFrom 36 = .ok (.aload_n 3, 1) := by decide +kernel
theorem dX4_buildUpFrom_37 : decode cX4_buildUpFrom 37 = .ok (.getfield 48, 3) := by decide +kernel
theorem dX4_buildUpFrom_40 : decode cX4_buildUpFrom 40 = .ok (.invokevirtual 97, 3) := by decide +kernel
theorem dX4_buildUpFrom_43 : decode cX4_buildUpFrom 43 = .ok (.aload_n 0, 1) := by decide +kernel
theorem dX4_buildUpFrom_44 : decode cX4_buildUpFrom 44 = .ok (.getfield 38, 3) := by decide +kernel
theorem dX4_buildUpFrom_47 : decode cX4_buildUpFrom 47 = .ok (.invokevirtual 101, 3) := by decide +kernel
theorem dX4_buildUpFrom_50 : decode cX4_buildUpFrom 50 = .ok (.aload_n 0, 1) := by decide +kernel
theorem dX4_buildUpFrom_51 : decode cX4_buildUpFrom 51 = .ok (.dup, 1) := by decide +kernel
theorem dX4_buildUpFrom_52 : decode cX4_buildUpFrom 52 = .ok (.getfield 107, 3) := by decide +kernel
theorem dX4_buildUpFrom_55 : decode cX4_buildUpFrom 55 = .ok (.iconst 1, 1) := by decide +kernel
theorem dX4_buildUpFrom_56 : decode cX4_buildUpFrom 56 = .ok (.iadd, 1) := by decide +kernel
theorem dX4_buildUpFrom_57 : decode cX4_buildUpFrom 57 = .ok (.putfield 107, 3) := by decide +kernel
theorem dX4_buildUpFrom_60 : decode cX4_buildUpFrom 60 = .ok (.iload_n 2, 1) := by decide +kernel
theorem dX4_buildUpFrom_61 : decode cX4_buildUpFrom 61 = .ok (.aload_n 3, 1) := by decide +kernel
theorem dX4_buildUpFrom_62 : decode cX4_buildUpFrom 62 = .ok (.getfield 93, 3) := by decide +kernel
theorem dX4_buildUpFrom_65 : decode cX4_buildUpFrom 65 = .ok (.invokevirtual 110, 3) := by decide +kernel
theorem dX4_buildUpFrom_68 : decode cX4_buildUpFrom 68 = .ok (.iadd, 1) := by decide +kernel
theorem dX4_buildUpFrom_69 : decode cX4_buildUpFrom 69 = .ok (.istore_n 2, 1) := by decide +kernel
theorem dX4_buildUpFrom_70 : decode cX4_buildUpFrom 70 = .ok (.aload_n 0, 1) := by decide +kernel
theorem dX4_buildUpFrom_71 : decode cX4_buildUpFrom 71 = .ok (.aload_n 3, 1) := by decide +kernel
theorem dX4_buildUpFrom_72 : decode cX4_buildUpFrom 72 = .ok (.getfield 111, 3) := by decide +kernel
theorem dX4_buildUpFrom_75 : decode cX4_buildUpFrom 75 = .ok (.invokevirtual 41, 3) := by decide +kernel
theorem dX4_buildUpFrom_78 : decode cX4_buildUpFrom 78 = .ok (.astore_n 3, 1) := by decide +kernel
theorem dX4_buildUpFrom_79 : decode cX4_buildUpFrom 79 = .ok (.iinc 4 (-1), 3) := by decide +kernel
theorem dX4_buildUpFrom_82 : decode cX4_buildUpFrom 82 = .ok (.goto (-68), 3) := by decide +kernel
theorem dX4_buildUpFrom_85 : decode cX4_buildUpFrom 85 = .ok (.aload_n 0, 1) := by decide +kernel
theorem dX4_buildUpFrom_86 : decode cX4_buildUpFrom 86 = .ok (.dup, 1) := by decide +kernel
theorem dX4_buildUpFrom_87 : decode cX4_buildUpFrom 87 = .ok (.getfield 114, 3) := by decide +kernel
theorem dX4_buildUpFrom_90 : decode cX4_buildUpFrom 90 = .ok (.iload_n 2, 1) := by decide +kernel
theorem dX4_buildUpFrom_91 : decode cX4_buildUpFrom 91 = .ok (.iadd, 1) := by decide +kernel
theorem dX4_buildUpFrom_92 : decode cX4_buildUpFrom 92 = .ok (.putfield 114, 3) := by decide +kernel
theorem dX4_buildUpFrom_95 : decode cX4_buildUpFrom 95 = .ok (.iload_n 2, 1) := by decide +kernel
theorem dX4_buildUpFrom_96 : decode cX4_buildUpFrom 96 = .ok (.ireturn, 1) := by decide +kernel
theorem dX4_entriesOf_0 : decode cX4_entriesOf 0 = .ok (.iload_n 1, 1) := by decide +kernel
theorem dX4_entriesOf_1 : decode cX4_entriesOf 1 = .ok (.iconst (-1), 1) := by decide +kernel
theorem dX4_entriesOf_2 : decode cX4_entriesOf 2 = .ok (.if_icmp .ne 10, 3) := by decide +kernel
theorem dX4_entriesOf_5 : decode cX4_entriesOf 5 = .ok (.aload_n 0, 1) := by decide +kernel
theorem dX4_entriesOf_6 : decode cX4_entriesOf 6 = .ok (.getfield 27, 3) := by decide +kernel
theorem dX4_entriesOf_9 : decode cX4_entriesOf 9 = .ok (.goto 14, 3) := by decide +kernel
theorem dX4_entriesOf_12 : decode cX4_entriesOf 12 = .ok (.aload_n 0, 1) := by decide +kernel
theorem dX4_entriesOf_13 : decode cX4_entriesOf 13 = .ok (.iload_n 1, 1) := by decide +kernel
theorem dX4_entriesOf_14 : decode cX4_entriesOf 14 = .ok (.invokevirtual 41, 3) := by decide +kernel
theorem dX4_entriesOf_17 : decode cX4_entriesOf 17 = .ok (.getfield 93, 3) := by decide +kernel
theorem dX4_entriesOf_20 : decode cX4_entriesOf 20 = .ok (.getfield 117, 3) := by decide +kernel
theorem dX4_entriesOf_23 : decode cX4_entriesOf 23 = .ok (.areturn, 1) := by decide +kernel
theorem dX4_keysOfAll_0 : decode cX4_keysOfAll 0 = .ok (.iconst 0, 1) := by decide +kernel
theorem dX4_keysOfAll_1 : decode cX4_keysOfAll 1 = .ok (.istore_n 1, 1) := by decide +kernel
theorem dX4_keysOfAll_2 : decode cX4_keysOfAll 2 = .ok (.iconst 0, 1) := by decide +kernel
theorem dX4_keysOfAll_3 : decode cX4_keysOfAll 3 = .ok (.istore_n 2, 1) := by decide +kernel
theorem dX4_keysOfAll_4 : decode cX4_keysOfAll 4 = .ok (.iload_n 2, 1) := by decide +kernel
theorem dX4_keysOfAll_5 : decode cX4_keysOfAll 5 = .ok (.aload_n 0, 1) := by decide +kernel
theorem dX4_keysOfAll_6 : decode cX4_keysOfAll 6 = .ok (.getfield 31, 3) := by decide +kernel
theorem dX4_keysOfAll_9 : decode cX4_keysOfAll 9 = .ok (.if_icmp .ge 20, 3) := by decide +kernel
theorem dX4_keysOfAll_12 : decode cX4_keysOfAll 12 = .ok (.iload_n 1, 1) := by decide +kernel
theorem dX4_keysOfAll_13 : decode cX4_keysOfAll 13 = .ok (.aload_n 0, 1) := by decide +kernel
theorem dX4_keysOfAll_14 : decode cX4_keysOfAll 14 = .ok (.iload_n 2, 1) := by decide +kernel
theorem dX4_keysOfAll_15 : decode cX4_keysOfAll 15 = .ok (.invokevirtual 41, 3) := by decide +kernel
theorem dX4_keysOfAll_18 : decode cX4_keysOfAll 18 = .ok (.invokevirtual 120, 3) := by decide +kernel
theorem dX4_keysOfAll_21 : decode cX4_keysOfAll 21 = .ok (.iadd, 1) := by decide +kernel
theorem dX4_keysOfAll_22 : decode cX4_keysOfAll 22 = .ok (.istore_n 1, 1) := by decide +kernel
theorem dX4_keysOfAll_23 : decode cX4_keysOfAll 23 = .ok (.iinc 2 1, 3) := by decide +kernel
theorem dX4_keysOfAll_26 : decode cX4_keysOfAll 26 = .ok (.goto (-22), 3) := by decide +kernel
theorem dX4_keysOfAll_29 : decode cX4_keysOfAll 29 = .ok (.iload_n 1, 1) := by decide +kernel
theorem dX4_keysOfAll_30 : decode cX4_keysOfAll 30 = .ok (.ireturn, 1) := by decide +kernel
theorem dX4_entriesOfAll_0 : decode cX4_entriesOfAll 0 = .ok (.iconst 0, 1) := by decide +kernel
theorem dX4_entriesOfAll_1 : decode cX4_entriesOfAll 1 = .ok (.istore_n 1, 1) := by decide +kernel
theorem dX4_entriesOfAll_2 : decode cX4_entriesOfAll 2 = .ok (.iconst 0, 1) := by decide +kernel
theorem dX4_entriesOfAll_3 : decode cX4_entriesOfAll 3 = .ok (.istore_n 2, 1) := by decide +kernel
theorem dX4_entriesOfAll_4 : decode cX4_entriesOfAll 4 = .ok (.iload_n 2, 1) := by decide +kernel
theorem dX4_entriesOfAll_5 : decode cX4_entriesOfAll 5 = .ok (.aload_n 0, 1) := by decide +kernel
theorem dX4_entriesOfAll_6 : decode cX4_entriesOfAll 6 = .ok (.getfield 31, 3) := by decide +kernel
theorem dX4_entriesOfAll_9 : decode cX4_entriesOfAll 9 = .ok (.if_icmp .ge 23, 3) := by decide +kernel
theorem dX4_entriesOfAll_12 : decode cX4_entriesOfAll 12 = .ok (.iload_n 1, 1) := by decide +kernel
theorem dX4_entriesOfAll_13 : decode cX4_entriesOfAll 13 = .ok (.aload_n 0, 1) := by decide +kernel
theorem dX4_entriesOfAll_14 : decode cX4_entriesOfAll 14 = .ok (.iload_n 2, 1) := by decide +kernel
theorem dX4_entriesOfAll_15 : decode cX4_entriesOfAll 15 = .ok (.invokevirtual 41, 3) := by decide +kernel
theorem dX4_entriesOfAll_18 : decode cX4_entriesOfAll 18 = .ok (.getfield 93, 3) := by decide +kernel
theorem dX4_entriesOfAll_21 : decode cX4_entriesOfAll 21 = .ok (.invokevirtual 110, 3) := by decide +kernel
theorem dX4_entriesOfAll_24 : decode cX4_entriesOfAll 24 = .ok (.iadd, 1) := by decide +kernel
theorem dX4_entriesOfAll_25 : decode cX4_entriesOfAll 25 = .ok (.istore_n 1, 1) := by decide +kernel
theorem dX4_entriesOfAll_26 : decode cX4_entriesOfAll 26 = .ok (.iinc 2 1, 3) := by decide +kernel
theorem dX4_entriesOfAll_29 : decode cX4_entriesOfAll 29 = .ok (.goto (-25), 3) := by decide +kernel
theorem dX4_entriesOfAll_32 : decode cX4_entriesOfAll 32 = .ok (.iload_n 1, 1) := by decide +kernel
theorem dX4_entriesOfAll_33 : decode cX4_entriesOfAll 33 = .ok (.ireturn, 1) := by decide +kernel
theorem dX4_copyFrom_0 : decode cX4_copyFrom 0 = .ok (.aload_n 0, 1) := by decide +kernel
theorem dX4_copyFrom_1 : decode cX4_copyFrom 1 = .ok (.aload_n 1, 1) := by decide +kernel
theorem dX4_copyFrom_2 : decode cX4_copyFrom 2 = .ok (.getfield 31, 3) := by decide +kernel
theorem dX4_copyFrom_5 : decode cX4_copyFrom 5 = .ok (.putfield 31, 3) := by decide +kernel
theorem dX4_copyFrom_8 : decode cX4_copyFrom 8 = .ok (.aload_n 0, 1) := by decide +kernel
theorem dX4_copyFrom_9 : decode cX4_copyFrom 9 = .ok (.aload_n 1, 1) := by decide +kernel
theorem dX4_copyFrom_10 : decode cX4_copyFrom 10 = .ok (.getfield 35, 3) := by decide +kernel
theorem dX4_copyFrom_13 : decode cX4_copyFrom 13 = .ok (.putfield 35, 3) := by decide +kernel
theorem dX4_copyFrom_16 : decode cX4_copyFrom 16 = .ok (.aload_n 0, 1) := by decide +kernel
theorem dX4_copyFrom_17 : decode cX4_copyFrom 17 = .ok (.aload_n 1, 1) := by decide +kernel
theorem dX4_copyFrom_18 : decode cX4_copyFrom 18 = .ok (.getfield 38, 3) := by decide +kernel
theorem dX4_copyFrom_21 : decode cX4_copyFrom 21 = .ok (.putfield 38, 3) := by decide +kernel
theorem dX4_copyFrom_24 : decode cX4_copyFrom 24 = .ok (.aload_n 0, 1) := by decide +kernel
theorem dX4_copyFrom_25 : decode cX4_copyFrom 25 = .ok (.aload_n 1, 1) := by decide +kernel
theorem dX4_copyFrom_26 : decode cX4_copyFrom 26 = .ok (.getfield 123, 3) := by decide +kernel
theorem dX4_copyFrom_29 : decode cX4_copyFrom 29 = .ok (.putfield 123, 3) := by decide +kernel
theorem dX4_copyFrom_32 : decode cX4_copyFrom 32 = .ok (.aload_n 0, 1) := by decide +kernel
theorem dX4_copyFrom_33 : decode cX4_copyFrom 33 = .ok (.aload_n 1, 1) := by decide +kernel
theorem dX4_copyFrom_34 : decode cX4_copyFrom 34 = .ok (.getfield 126, 3) := by decide +kernel
theorem dX4_copyFrom_37 : decode cX4_copyFrom 37 = .ok (.putfield 126, 3) := by decide +kernel
theorem dX4_copyFrom_40 : decode cX4_copyFrom 40 = .ok (.aload_n 0, 1) := by decide +kernel
theorem dX4_copyFrom_41 : decode cX4_copyFrom 41 = .ok (.aload_n 1, 1) := by decide +kernel
theorem dX4_copyFrom_42 : decode cX4_copyFrom 42 = .ok (.getfield 107, 3) := by decide +kernel
theorem dX4_copyFrom_45 : decode cX4_copyFrom 45 = .ok (.putfield 107, 3) := by decide +kernel
theorem dX4_copyFrom_48 : decode cX4_copyFrom 48 = .ok (.aload_n 0, 1) := by decide +kernel
theorem dX4_copyFrom_49 : decode cX4_copyFrom 49 = .ok (.aload_n 1, 1) := by decide +kernel
theorem dX4_copyFrom_50 : decode cX4_copyFrom 50 = .ok (.getfield 114, 3) := by decide +kernel
theorem dX4_copyFrom_53 : decode cX4_copyFrom 53 = .ok (.putfield 114, 3) := by decide +kernel
theorem dX4_copyFrom_56 : decode cX4_copyFrom 56 = .ok (.aload_n 0, 1) := by decide +kernel
theorem dX4_copyFrom_57 : decode cX4_copyFrom 57 = .ok (.aload_n 1, 1) := by decide +kernel
theorem dX4_copyFrom_58 : decode cX4_copyFrom 58 = .ok (.getfield 90, 3) := by decide +kernel
theorem dX4_copyFrom_61 : decode cX4_copyFrom 61 = .ok (.putfield 90, 3) := by decide +kernel
theorem dX4_copyFrom_64 : decode cX4_copyFrom 64 = .ok (.iconst 0, 1) := by decide +kernel
theorem dX4_copyFrom_65 : decode cX4_copyFrom 65 = .ok (.istore_n 2, 1) := by decide +kernel
theorem dX4_copyFrom_66 : decode cX4_copyFrom 66 = .ok (.iload_n 2, 1) := by decide +kernel
theorem dX4_copyFrom_67 : decode cX4_copyFrom 67 = .ok (.aload_n 0, 1) := by decide +kernel
theorem dX4_copyFrom_68 : decode cX4_copyFrom 68 = .ok (.getfield 31, 3) := by decide +kernel
theorem dX4_copyFrom_71 : decode cX4_copyFrom 71 = .ok (.if_icmp .ge 22, 3) := by decide +kernel
theorem dX4_copyFrom_74 : decode cX4_copyFrom 74 = .ok (.aload_n 0, 1) := by decide +kernel
theorem dX4_copyFrom_75 : decode cX4_copyFrom 75 = .ok (.iload_n 2, 1) := by decide +kernel
theorem dX4_copyFrom_76 : decode cX4_copyFrom 76 = .ok (.invokevirtual 41, 3) := by decide +kernel
theorem dX4_copyFrom_79 : decode cX4_copyFrom 79 = .ok (.aload_n 1, 1) := by decide +kernel
theorem dX4_copyFrom_80 : decode cX4_copyFrom 80 = .ok (.iload_n 2, 1) := by decide +kernel
theorem dX4_copyFrom_81 : decode cX4_copyFrom 81 = .ok (.invokevirtual 41, 3) := by decide +kernel
theorem dX4_copyFrom_84 : decode cX4_copyFrom 84 = .ok (.invokevirtual 129, 3) := by decide +kernel
theorem dX4_copyFrom_87 : decode cX4_copyFrom 87 = .ok (.iinc 2 1, 3) := by decide +kernel
theorem dX4_copyFrom_90 : decode cX4_copyFrom 90 = .ok (.goto (-24), 3) := by decide +kernel
theorem dX4_copyFrom_93 : decode cX4_copyFrom 93 = .ok (.return_, 1) := by decide +kernel
