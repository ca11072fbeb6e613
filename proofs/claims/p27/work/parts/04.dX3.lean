theorem dX3_init_0 : decode cX3_init 0 = .ok (.aload_n 0, 1) := by decide +kernel
theorem dX3_init_1 : decode cX3_init 1 = .ok (.invokespecial 3, 3) := by decide +kernel
theorem dX3_init_4 : decode cX3_init 4 = .ok (.aload_n 0, 1) := by decide +kernel
theorem dX3_init_5 : decode cX3_init 5 = .ok (.iload_n 1, 1) := by decide +kernel
theorem dX3_init_6 : decode cX3_init 6 = .ok (.ifCond .le 7, 3) := by decide +kernel
theorem dX3_init_9 : decode cX3_init 9 = .ok (.iload_n 1, 1) := by decide +kernel
theorem dX3_init_10 : decode cX3_init 10 = .ok (.goto 4, 3) := by decide +kernel
theorem dX3_init_13 : decode cX3_init 13 = .ok (.iconst 0, 1) := by decide +kernel
theorem dX3_init_14 : decode cX3_init 14 = .ok (.newarray .int, 2) := by decide +kernel
theorem dX3_init_16 : decode cX3_init 16 = .ok (.putfield 9, 3) := by decide +kernel
theorem dX3_init_19 : decode cX3_init 19 = .ok (.return_, 1) := by decide +kernel
theorem dX3_size_0 : decode cX3_size 0 = .ok (.aload_n 0, 1) := by decide +kernel
theorem dX3_size_1 : decode cX3_size 1 = .ok (.getfield 15, 3) := by decide +kernel
theorem dX3_size_4 : decode cX3_size 4 = .ok (.ireturn, 1) := by decide +kernel
theorem dX3_at_0 : decode cX3_at 0 = .ok (.iload_n 1, 1) := by decide +kernel
theorem dX3_at_1 : decode cX3_at 1 = .ok (.ifCond .lt 29, 3) := by decide +kernel
theorem dX3_at_4 : decode cX3_at 4 = .ok (.iload_n 1, 1) := by decide +kernel
theorem dX3_at_5 : decode cX3_at 5 = .ok (.aload_n 0, 1) := by decide +kernel
theorem dX3_at_6 : decode cX3_at 6 = .ok (.getfield 15, 3) := by decide +kernel
theorem dX3_at_9 : decode cX3_at 9 = .ok (.if_icmp .ge 21, 3) := by decide +kernel
theorem dX3_at_12 : decode cX3_at 12 = .ok (.iload_n 1, 1) := by decide +kernel
theorem dX3_at_13 : decode cX3_at 13 = .ok (.aload_n 0, 1) := by decide +kernel
theorem dX3_at_14 : decode cX3_at 14 = .ok (.getfield 9, 3) := by decide +kernel
theorem dX3_at_17 : decode cX3_at 17 = .ok (.arraylength, 1) := by decide +kernel
theorem dX3_at_18 : decode cX3_at 18 = .ok (.if_icmp .ge 12, 3) := by decide +kernel
theorem dX3_at_21 : decode cX3_at 21 = .ok (.aload_n 0, 1) := by decide +kernel
theorem dX3_at_22 : decode cX3_at 22 = .ok (.getfield 9, 3) := by decide +kernel
theorem dX3_at_25 : decode cX3_at 25 = .ok (.iload_n 1, 1) := by decide +kernel
theorem dX3_at_26 : decode cX3_at 26 = .ok (.iaload, 1) := by decide +kernel
theorem dX3_at_27 : decode cX3_at 27 = .ok (.goto 4, 3) := by decide +kernel
theorem dX3_at_30 : decode cX3_at 30 = .ok (.iload_n 2, 1) := by decide +kernel
theorem dX3_at_31 : decode cX3_at 31 = .ok (.ireturn, 1) := by decide +kernel
theorem dX3_put_0 : decode cX3_put 0 = .ok (.iload_n 1, 1) := by decide +kernel
theorem dX3_put_1 : decode cX3_put 1 = .ok (.ifCond .lt 27, 3) := by decide +kernel
theorem dX3_put_4 : decode cX3_put 4 = .ok (.iload_n 1, 1) := by decide +kernel
theorem dX3_put_5 : decode cX3_put 5 = .ok (.aload_n 0, 1) := by decide +kernel
theorem dX3_put_6 : decode cX3_put 6 = .ok (.getfield 15, 3) := by decide +kernel
theorem dX3_put_9 : decode cX3_put 9 = .ok (.if_icmp .ge 19, 3) := by decide +kernel
theorem dX3_put_12 : decode cX3_put 12 = .ok (.iload_n 1, 1) := by decide +kernel
theorem dX3_put_13 : decode cX3_put 13 = .ok (.aload_n 0, 1) := by decide +kernel
theorem dX3_put_14 : decode cX3_put 14 = .ok (.getfield 9, 3) := by decide +kernel
theorem dX3_put_17 : decode cX3_put 17 = .ok (.arraylength, 1) := by decide +kernel
theorem dX3_put_18 : decode cX3_put 18 = .ok (.if_icmp .ge 10, 3) := by decide +kernel
theorem dX3_put_21 : decode cX3_put 21 = .ok (.aload_n 0, 1) := by decide +kernel
theorem dX3_put_22 : decode cX3_put 22 = .ok (.getfield 9, 3) := by decide +kernel
theorem dX3_put_25 : decode cX3_put 25 = .ok (.iload_n 1, 1) := by decide +kernel
theorem dX3_put_26 : decode cX3_put 26 = .ok (.iload_n 2, 1) := by decide +kernel
theorem dX3_put_27 : decode cX3_put 27 = .ok (.iastore, 1) := by decide +kernel
theorem dX3_put_28 : decode cX3_put 28 = .ok (.return_, 1) := by decide +kernel
theorem dX3_append_0 : decode cX3_append 0 = .ok (.aload_n 0, 1) := by decide +kernel
theorem dX3_append_1 : decode cX3_append 1 = .ok (.getfield 15, 3) := by decide +kernel
theorem dX3_append_4 : decode cX3_append 4 = .ok (.ifCond .lt 35, 3) := by decide +kernel
theorem dX3_append_7 : decode cX3_append 7 = .ok (.aload_n 0, 1) := by decide +kernel
theorem dX3_append_8 : decode cX3_append 8 = .ok (.getfield 15, 3) := by decide +kernel
theorem dX3_append_11 : decode cX3_append 11 = .ok (.aload_n 0, 1) := by decide +kernel
theorem dX3_append_12 : decode cX3_append 12 = .ok (.getfield 9, 3) := by decide +kernel
theorem dX3_append_15 : decode cX3_append 15 = .ok (.arraylength, 1) := by decide +kernel
theorem dX3_append_16 : decode cX3_append 16 = .ok (.if_icmp .ge 23, 3) := by decide +kernel
theorem dX3_append_19 : decode cX3_append 19 = .ok (.aload_n 0, 1) := by decide +kernel
theorem dX3_append_20 : decode cX3_append 20 = .ok (.getfield 9, 3) := by decide +kernel
theorem dX3_append_23 : decode cX3_append 23 = .ok (.aload_n 0, 1) := by decide +kernel
theorem dX3_append_24 : decode cX3_append 24 = .ok (.getfield 15, 3) := by decide +kernel
theorem dX3_append_27 : decode cX3_append 27 = .ok (.iload_n 1, 1) := by decide +kernel
theorem dX3_append_28 : decode cX3_append 28 = .ok (.iastore, 1) := by decide +kernel
theorem dX3_append_29 : decode cX3_append 29 = .ok (.aload_n 0, 1) := by decide +kernel
theorem dX3_append_30 : decode cX3_append 30 = .ok (.dup, 1) := by decide +kernel
theorem dX3_append_31 : decode cX3_append 31 = .ok (.getfield 15, 3) := by decide +kernel
theorem dX3_append_34 : decode cX3_append 34 = .ok (.iconst 1, 1) := by decide +kernel
theorem dX3_append_35 : decode cX3_append 35 = .ok (.iadd, 1) := by decide +kernel
theorem dX3_append_36 : decode cX3_append 36 = .ok (.putfield 15, 3) := by decide +kernel
theorem dX3_append_39 : decode cX3_append 39 = .ok (.return_, 1) := by decide +kernel
theorem dX3_insert_0 : decode cX3_insert 0 = .ok (.iload_n 1, 1) := by decide +kernel
theorem dX3_insert_1 : decode cX3_insert 1 = .ok (.ifCond .lt 23, 3) := by decide +kernel
theorem dX3_insert_4 : decode cX3_insert 4 = .ok (.iload_n 1, 1) := by decide +kernel
theorem dX3_insert_5 : decode cX3_insert 5 = .ok (.aload_n 0, 1) := by decide +kernel
theorem dX3_insert_6 : decode cX3_insert 6 = .ok (.getfield 15, 3) := by decide +kernel
theorem dX3_insert_9 : decode cX3_insert 9 = .ok (.if_icmp .gt 15, 3) := by decide +kernel
theorem dX3_insert_12 : decode cX3_insert 12 = .ok (.aload_n 0, 1) := by decide +kernel
theorem dX3_insert_13 : decode cX3_insert 13 = .ok (.getfield 15, 3) := by decide +kernel
theorem dX3_insert_16 : decode cX3_insert 16 = .ok (.aload_n 0, 1) := by decide +kernel
theorem dX3_insert_17 : decode cX3_insert 17 = .ok (.getfield 9, 3) := by decide +kernel
theorem dX3_insert_20 : decode cX3_insert 20 = .ok (.arraylength, 1) := by decide +kernel
theorem dX3_insert_21 : decode cX3_insert 21 = .ok (.if_icmp .lt 4, 3) := by decide +kernel
theorem dX3_insert_24 : decode cX3_insert 24 = .ok (.return_, 1) := by decide +kernel
theorem dX3_insert_25 : decode cX3_insert 25 = .ok (.aload_n 0, 1) := by decide +kernel
theorem dX3_insert_26 : decode cX3_insert 26 = .ok (.dup, 1) := by decide +kernel
theorem dX3_insert_27 : decode cX3_insert 27 = .ok (.getfield 15, 3) := by decide +kernel
theorem dX3_insert_30 : decode cX3_insert 30 = .ok (.iconst 1, 1) := by decide +kernel
theorem dX3_insert_31 : decode cX3_insert 31 = .ok (.iadd, 1) := by decide +kernel
theorem dX3_insert_32 : decode cX3_insert 32 = .ok (.putfield 15, 3) := by decide +kernel
theorem dX3_insert_35 : decode cX3_insert 35 = .ok (.aload_n 0, 1) := by decide +kernel
theorem dX3_insert_36 : decode cX3_insert 36 = .ok (.getfield 15, 3) := by decide +kernel
theorem dX3_insert_39 : decode cX3_insert 39 = .ok (.iconst 1, 1) := by decide +kernel
theorem dX3_insert_40 : decode cX3_insert 40 = .ok (.isub, 1) := by decide +kernel
theorem dX3_insert_41 : decode cX3_insert 41 = .ok (.istore_n 3, 1) := by decide +kernel
theorem dX3_insert_42 : decode cX3_insert 42 = .ok (.iload_n 3, 1) := by decide +kernel
theorem dX3_insert_43 : decode cX3_insert 43 = .ok (.iload_n 1, 1) := by decide +kernel
theorem dX3_insert_44 : decode cX3_insert 44 = .ok (.if_icmp .le 22, 3) := by decide +kernel
theorem dX3_insert_47 : decode cX3_insert 47 = .ok (.aload_n 0, 1) := by decide +kernel
theorem dX3_insert_48 : decode cX3_insert 48 = .ok (.iload_n 3, 1) := by decide +kernel
theorem dX3_insert_49 : decode cX3_insert 49 = .ok (.aload_n 0, 1) := by decide +kernel
theorem dX3_insert_50 : decode cX3_insert 50 = .ok (.iload_n 3, 1) := by decide +kernel
theorem dX3_insert_51 : decode cX3_insert 51 = .ok (.iconst 1, 1) := by decide +kernel
theorem dX3_insert_52 : decode cX3_insert 52 = .ok (.isub, 1) := by decide +kernel
theorem dX3_insert_53 : decode cX3_insert 53 = .ok (.iconst 0, 1) := by decide +kernel
theorem dX3_insert_54 : decode cX3_insert 54 = .ok (.invokevirtual 19, 3) := by decide +kernel
theorem dX3_insert_57 : decode cX3_insert 57 = .ok (.invokevirtual 23, 3) := by decide +kernel
theorem dX3_insert_60 : decode cX3_insert 60 = .ok (.iinc 3 (-1), 3) := by decide +kernel
theorem dX3_insert_63 : decode cX3_insert 63 = .ok (.goto (-21), 3) := by decide +kernel
theorem dX3_insert_66 : decode cX3_insert 66 = .ok (.aload_n 0, 1) := by decide +kernel
theorem dX3_insert_67 : decode cX3_insert 67 = .ok (.iload_n 1, 1) := by decide +kernel
theorem dX3_insert_68 : decode cX3_insert 68 = .ok (.iload_n 2, 1) := by decide +kernel
theorem dX3_insert_69 : decode cX3_insert 69 = .ok (.invokevirtual 23, 3) := by decide +kernel
theorem dX3_insert_72 : decode cX3_insert 72 = .ok (.return_, 1) := by decide +kernel
theorem dX3_cutOut_0 : decode cX3_cutOut 0 = .ok (.iload_n 1, 1) := by decide +kernel
theorem dX3_cutOut_1 : decode cX3_cutOut 1 = .ok (.ifCond .lt 11, 3) := by decide +kernel
theorem dX3_cutOut_4 : decode cX3_cutOut 4 = .ok (.iload_n 1, 1) := by decide +kernel
theorem dX3_cutOut_5 : decode cX3_cutOut 5 = .ok (.aload_n 0, 1) := by decide +kernel
theorem dX3_cutOut_6 : decode cX3_cutOut 6 = .ok (.getfield 15, 3) := by decide +kernel
theorem dX3_cutOut_9 : decode cX3_cutOut 9 = .ok (.if_icmp .lt 4, 3) := by decide +kernel
theorem dX3_cutOut_12 : decode cX3_cutOut 12 = .ok (.return_, 1) := by decide +kernel
theorem dX3_cutOut_13 : decode cX3_cutOut 13 = .ok (.iload_n 1, 1) := by decide +kernel
theorem dX3_cutOut_14 : decode cX3_cutOut 14 = .ok (.istore_n 2, 1) := by decide +kernel
theorem dX3_cutOut_15 : decode cX3_cutOut 15 = .ok (.iload_n 2, 1) := by decide +kernel
theorem dX3_cutOut_16 : decode cX3_cutOut 16 = .ok (.aload_n 0, 1) := by decide +kernel
theorem dX3_cutOut_17 : decode cX3_cutOut 17 = .ok (.getfield 15, 3) := by decide +kernel
theorem dX3_cutOut_20 : decode cX3_cutOut 20 = .ok (.iconst 1, 1) := by decide +kernel
theorem dX3_cutOut_21 : decode cX3_cutOut 21 = .ok (.isub, 1) := by decide +kernel
theorem dX3_cutOut_22 : decode cX3_cutOut 22 = .ok (.if_icmp .ge 22, 3) := by decide +kernel
theorem dX3_cutOut_25 : decode cX3_cutOut 25 = .ok (.aload_n 0, 1) := by decide +kernel
theorem dX3_cutOut_26 : decode cX3_cutOut 26 = .ok (.iload_n 2, 1) := by decide +kernel
theorem dX3_cutOut_27 : decode cX3_cutOut 27 = .ok (.aload_n 0, 1) := by decide +kernel
theorem dX3_cutOut_28 : decode cX3_cutOut 28 = .ok (.iload_n 2, 1) := by decide +kernel
theorem dX3_cutOut_29 : decode cX3_cutOut 29 = .ok (.iconst 1, 1) := by decide +kernel
theorem dX3_cutOut_30 : decode cX3_cutOut 30 = .ok (.iadd, 1) := by decide +kernel
theorem dX3_cutOut_31 : decode cX3_cutOut 31 = .ok (.iconst 0, 1) := by decide +kernel
theorem dX3_cutOut_32 : decode cX3_cutOut 32 = .ok (.invokevirtual 19, 3) := by decide +kernel
theorem dX3_cutOut_35 : decode cX3_cutOut 35 = .ok (.invokevirtual 23, 3) := by decide +kernel
theorem dX3_cutOut_38 : decode cX3_cutOut 38 = .ok (.iinc 2 1, 3) := by decide +kernel
theorem dX3_cutOut_41 : decode cX3_cutOut 41 = .ok (.goto (-26), 3) := by decide +kernel
theorem dX3_cutOut_44 : decode cX3_cutOut 44 = .ok (.aload_n 0, 1) := by decide +kernel
theorem dX3_cutOut_45 : decode cX3_cutOut 45 = .ok (.dup, 1) := by decide +kernel
theorem dX3_cutOut_46 : decode cX3_cutOut 46 = .ok (.getfield 15, 3) := by decide +kernel
theorem dX3_cutOut_49 : decode cX3_cutOut 49 = .ok (.iconst 1, 1) := by decide +kernel
theorem dX3_cutOut_50 : decode cX3_cutOut 50 = .ok (.isub, 1) := by decide +kernel
theorem dX3_cutOut_51 : decode cX3_cutOut 51 = .ok (.putfield 15, 3) := by decide +kernel
theorem dX3_cutOut_54 : decode cX3_cutOut 54 = .ok (.return_, 1) := by decide +kernel
theorem dX3_cutTo_0 : decode cX3_cutTo 0 = .ok (.iload_n 1, 1) := by decide +kernel
theorem dX3_cutTo_1 : decode cX3_cutTo 1 = .ok (.ifCond .lt 16, 3) := by decide +kernel
theorem dX3_cutTo_4 : decode cX3_cutTo 4 = .ok (.iload_n 1, 1) := by decide +kernel
theorem dX3_cutTo_5 : decode cX3_cutTo 5 = .ok (.aload_n 0, 1) := by decide +kernel
theorem dX3_cutTo_6 : decode cX3_cutTo 6 = .ok (.getfield 15, 3) := by decide +kernel
theorem dX3_cutTo_9 : decode cX3_cutTo 9 = .ok (.if_icmp .ge 8, 3) := by decide +kernel
theorem dX3_cutTo_12 : decode cX3_cutTo 12 = .ok (.aload_n 0, 1) := by decide +kernel
theorem dX3_cutTo_13 : decode cX3_cutTo 13 = .ok (.iload_n 1, 1) := by decide +kernel
theorem dX3_cutTo_14 : decode cX3_cutTo 14 = .ok (.putfield 15, 3) := by decide +kernel
theorem dX3_cutTo_17 : decode cX3_cutTo 17 = .ok (.return_, 1) := by decide +kernel
theorem dX3_indexOf_0 : decode cX3_indexOf 0 = .ok (.iconst 0, 1) := by decide +kernel
theorem dX3_indexOf_1 : decode cX3_indexOf 1 = .ok (.istore_n 2, 1) := by decide +kernel
theorem dX3_indexOf_2 : decode cX3_indexOf 2 = .ok (.iload_n 2, 1) := by decide +kernel
theorem dX3_indexOf_3 : decode cX3_indexOf 3 = .ok (.aload_n 0, 1) := by decide +kernel
theorem dX3_indexOf_4 : decode cX3_indexOf 4 = .ok (.getfield 15, 3) := by decide +kernel
theorem dX3_indexOf_7 : decode cX3_indexOf 7 = .ok (.if_icmp .ge 21, 3) := by decide +kernel
theorem dX3_indexOf_10 : decode cX3_indexOf 10 = .ok (.aload_n 0, 1) := by decide +kernel
theorem dX3_indexOf_11 : decode cX3_indexOf 11 = .ok (.iload_n 2, 1) := by decide +kernel
theorem dX3_indexOf_12 : decode cX3_indexOf 12 = .ok (.iconst 0, 1) := by decide +kernel
theorem dX3_indexOf_13 : decode cX3_indexOf 13 = .ok (.invokevirtual 19, 3) := by decide +kernel
theorem dX3_indexOf_16 : decode cX3_indexOf 16 = .ok (.iload_n 1, 1) := by decide +kernel
theorem dX3_indexOf_17 : decode cX3_indexOf 17 = .ok (.if_icmp .ne 5, 3) := by decide +kernel
theorem dX3_indexOf_20 : decode cX3_indexOf 20 = .ok (.iload_n 2, 1) := by decide +kernel
theorem dX3_indexOf_21 : decode cX3_indexOf 21 = .ok (.ireturn, 1) := by decide +kernel
theorem dX3_indexOf_22 : decode cX3_indexOf 22 = .ok (.iinc 2 1, 3) := by decide +kernel
theorem dX3_indexOf_25 : decode cX3_indexOf 25 = .ok (.goto (-23), 3) := by decide +kernel
theorem dX3_indexOf_28 : decode cX3_indexOf 28 = .ok (.iconst (-1), 1) := by decide +kernel
theorem dX3_indexOf_29 : decode cX3_indexOf 29 = .ok (.ireturn, 1) := by decide +kernel
theorem dX3_firstAtLeast_0 : decode cX3_firstAtLeast 0 = .ok (.iload_n 2, 1) := by decide +kernel
theorem dX3_firstAtLeast_1 : decode cX3_firstAtLeast 1 = .ok (.istore_n 3, 1) := by decide +kernel
theorem dX3_firstAtLeast_2 : decode cX3_firstAtLeast 2 = .ok (.iload_n 3, 1) := by decide +kernel
theorem dX3_firstAtLeast_3 : decode cX3_firstAtLeast 3 = .ok (.ifCond .lt 36, 3) := by decide +kernel
theorem dX3_firstAtLeast_6 : decode cX3_firstAtLeast 6 = .ok (.iload_n 3, 1) := by decide +kernel
theorem dX3_firstAtLeast_7 : decode cX3_firstAtLeast 7 = .ok (.aload_n 0, 1) := by decide +kernel
theorem dX3_firstAtLeast_8 : decode cX3_firstAtLeast 8 = .ok (.getfield 15, 3) := by decide +kernel
theorem dX3_firstAtLeast_11 : decode cX3_firstAtLeast 11 = .ok (.if_icmp .ge 28, 3) := by decide +kernel
theorem dX3_firstAtLeast_14 : decode cX3_firstAtLeast 14 = .ok (.iload_n 3, 1) := by decide +kernel
theorem dX3_firstAtLeast_15 : decode cX3_firstAtLeast 15 = .ok (.aload_n 0, 1) := by decide +kernel
theorem dX3_firstAtLeast_16 : decode cX3_firstAtLeast 16 = .ok (.getfield 9, 3) := by decide +kernel
theorem dX3_firstAtLeast_19 : decode cX3_firstAtLeast 19 = .ok (.arraylength, 1) := by decide +kernel
theorem dX3_firstAtLeast_20 : decode cX3_firstAtLeast 20 = .ok (.if_icmp .ge 19, 3) := by decide +kernel
theorem dX3_firstAtLeast_23 : decode cX3_firstAtLeast 23 = .ok (.aload_n 0, 1) := by decide +kernel
theorem dX3_firstAtLeast_24 : decode cX3_firstAtLeast 24 = .ok (.getfield 9, 3) := by decide +kernel
theorem dX3_firstAtLeast_27 : decode cX3_firstAtLeast 27 = .ok (.iload_n 3, 1) := by decide +kernel
theorem dX3_firstAtLeast_28 : decode cX3_firstAtLeast 28 = .ok (.iaload, 1) := by decide +kernel
theorem dX3_firstAtLeast_29 : decode cX3_firstAtLeast 29 = .ok (.iload_n 1, 1) := by decide +kernel
theorem dX3_firstAtLeast_30 : decode cX3_firstAtLeast 30 = .ok (.if_icmp .ge 9, 3) := by decide +kernel
theorem dX3_firstAtLeast_33 : decode cX3_firstAtLeast 33 = .ok (.iinc 3 1, 3) := by decide +kernel
theorem dX3_firstAtLeast_36 : decode cX3_firstAtLeast 36 = .ok (.goto (-34), 3) := by decide +kernel
theorem dX3_firstAtLeast_39 : decode cX3_firstAtLeast 39 = .ok (.iload_n 3, 1) := by decide +kernel
theorem dX3_firstAtLeast_40 : decode cX3_firstAtLeast 40 = .ok (.ireturn, 1) := by decide +kernel
theorem dX3_copyFrom_0 : decode cX3_copyFrom 0 = .ok (.aload_n 1, 1) := by decide +kernel
theorem dX3_copyFrom_1 : decode cX3_copyFrom 1 = .ok (.getfield 15, 3) := by decide +kernel
theorem dX3_copyFrom_4 : decode cX3_copyFrom 4 = .ok (.aload_n 1, 1) := by decide +kernel
theorem dX3_copyFrom_5 : decode cX3_copyFrom 5 = .ok (.getfield 9, 3) := by decide +kernel
theorem dX3_copyFrom_8 : decode cX3_copyFrom 8 = .ok (.arraylength, 1) := by decide +kernel
theorem dX3_copyFrom_9 : decode cX3_copyFrom 9 = .ok (.aload_n 0, 1) := by decide +kernel
theorem dX3_copyFrom_10 : decode cX3_copyFrom 10 = .ok (.getfield 9, 3) := by decide +kernel
theorem dX3_copyFrom_13 : decode cX3_copyFrom 13 = .ok (.arraylength, 1) := by decide +kernel
theorem dX3_copyFrom_14 : decode cX3_copyFrom 14 = .ok (.invokestatic 27, 3) := by decide +kernel
theorem dX3_copyFrom_17 : decode cX3_copyFrom 17 = .ok (.invokestatic 27, 3) := by decide +kernel
theorem dX3_copyFrom_20 : decode cX3_copyFrom 20 = .ok (.istore_n 2, 1) := by decide +kernel
theorem dX3_copyFrom_21 : decode cX3_copyFrom 21 = .ok (.iload_n 2, 1) := by decide +kernel
theorem dX3_copyFrom_22 : decode cX3_copyFrom 22 = .ok (.ifCond .lt 22, 3) := by decide +kernel
theorem dX3_copyFrom_25 : decode cX3_copyFrom 25 = .ok (.aload_n 1, 1) := by decide +kernel
theorem dX3_copyFrom_26 : decode cX3_copyFrom 26 = .ok (.getfield 9, 3) := by decide +kernel
theorem dX3_copyFrom_29 : decode cX3_copyFrom 29 = .ok (.iconst 0, 1) := by decide +kernel
theorem dX3_copyFrom_30 : decode cX3_copyFrom 30 = .ok (.aload_n 0, 1) := by decide +kernel
theorem dX3_copyFrom_31 : decode cX3_copyFrom 31 = .ok (.getfield 9, 3) := by decide +kernel
theorem dX3_copyFrom_34 : decode cX3_copyFrom 34 = .ok (.iconst 0, 1) := by decide +kernel
theorem dX3_copyFrom_35 : decode cX3_copyFrom 35 = .ok (.iload_n 2, 1) := by decide +kernel
theorem dX3_copyFrom_36 : decode cX3_copyFrom 36 = .ok (.invokestatic 32, 3) := by decide +kernel
theorem dX3_copyFrom_39 : decode cX3_copyFrom 39 = .ok (.aload_n 0, 1) := by decide +kernel
theorem dX3_copyFrom_40 : decode cX3_copyFrom 40 = .ok (.iload_n 2, 1) := by decide +kernel
theorem dX3_copyFrom_41 : decode cX3_copyFrom 41 = .ok (.putfield 15, 3) := by decide +kernel
theorem dX3_copyFrom_44 : decode cX3_copyFrom 44 = .ok (.return_, 1) := by decide +kernel
