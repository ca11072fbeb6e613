theorem dX7_nearestOnPath_8 : decode cX7_nearestOnPath 8 = .ok (.ifCond .le 9, 3) := by decide +kernel
theorem dX7_nearestOnPath_11 : decode cX7_nearestOnPath 11 = .ok (.aload_n 0, 1) := by decide +kernel
theorem dX7_nearestOnPath_12 : decode cX7_nearestOnPath 12 = .ok (.iload_n 3, 1) := by decide +kernel
theorem dX7_nearestOnPath_13 : decode cX7_nearestOnPath 13 = .ok (.invokevirtual 84, 3) := by decide +kernel
theorem dX7_nearestOnPath_16 : decode cX7_nearestOnPath 16 = .ok (.ireturn, 1) := by decide +kernel
theorem dX7_nearestOnPath_17 : decode cX7_nearestOnPath 17 = .ok (.aload_n 0, 1) := by decide +kernel
theorem dX7_nearestOnPath_18 : decode cX7_nearestOnPath 18 = .ok (.invokevirtual 145, 3) := by decide +kernel
theorem dX7_nearestOnPath_21 : decode cX7_nearestOnPath 21 = .ok (.istore 4, 2) := by decide +kernel
theorem dX7_nearestOnPath_23 : decode cX7_nearestOnPath 23 = .ok (.aload_n 0, 1) := by decide +kernel
theorem dX7_nearestOnPath_24 : decode cX7_nearestOnPath 24 = .ok (.iload 4, 2) := by decide +kernel
theorem dX7_nearestOnPath_26 : decode cX7_nearestOnPath 26 = .ok (.iconst (-1), 1) := by decide +kernel
theorem dX7_nearestOnPath_27 : decode cX7_nearestOnPath 27 = .ok (.if_icmp .ne 7, 3) := by decide +kernel
theorem dX7_nearestOnPath_30 : decode cX7_nearestOnPath 30 = .ok (.iconst (-1), 1) := by decide +kernel
theorem dX7_nearestOnPath_31 : decode cX7_nearestOnPath 31 = .ok (.goto 10, 3) := by decide +kernel
theorem dX7_nearestOnPath_34 : decode cX7_nearestOnPath 34 = .ok (.aload_n 0, 1) := by decide +kernel
theorem dX7_nearestOnPath_35 : decode cX7_nearestOnPath 35 = .ok (.getfield 22, 3) := by decide +kernel
theorem dX7_nearestOnPath_38 : decode cX7_nearestOnPath 38 = .ok (.iload 4, 2) := by decide +kernel
theorem dX7_nearestOnPath_40 : decode cX7_nearestOnPath 40 = .ok (.iaload, 1) := by decide +kernel
theorem dX7_nearestOnPath_41 : decode cX7_nearestOnPath 41 = .ok (.invokevirtual 38, 3) := by decide +kernel
theorem dX7_nearestOnPath_44 : decode cX7_nearestOnPath 44 = .ok (.ireturn, 1) := by decide +kernel
theorem dX7_worstOf_0 : decode cX7_worstOf 0 = .ok (.aload_n 0, 1) := by decide +kernel
theorem dX7_worstOf_1 : decode cX7_worstOf 1 = .ok (.iload_n 1, 1) := by decide +kernel
theorem dX7_worstOf_2 : decode cX7_worstOf 2 = .ok (.invokevirtual 136, 3) := by decide +kernel
theorem dX7_worstOf_5 : decode cX7_worstOf 5 = .ok (.aload_n 0, 1) := by decide +kernel
theorem dX7_worstOf_6 : decode cX7_worstOf 6 = .ok (.iconst 0, 1) := by decide +kernel
theorem dX7_worstOf_7 : decode cX7_worstOf 7 = .ok (.invokevirtual 139, 3) := by decide +kernel
theorem dX7_worstOf_10 : decode cX7_worstOf 10 = .ok (.aload_n 0, 1) := by decide +kernel
theorem dX7_worstOf_11 : decode cX7_worstOf 11 = .ok (.getfield 120, 3) := by decide +kernel
theorem dX7_worstOf_14 : decode cX7_worstOf 14 = .ok (.istore_n 2, 1) := by decide +kernel
theorem dX7_worstOf_15 : decode cX7_worstOf 15 = .ok (.iconst 0, 1) := by decide +kernel
theorem dX7_worstOf_16 : decode cX7_worstOf 16 = .ok (.istore_n 3, 1) := by decide +kernel
theorem dX7_worstOf_17 : decode cX7_worstOf 17 = .ok (.iload_n 3, 1) := by decide +kernel
theorem dX7_worstOf_18 : decode cX7_worstOf 18 = .ok (.aload_n 0, 1) := by decide +kernel
theorem dX7_worstOf_19 : decode cX7_worstOf 19 = .ok (.getfield 117, 3) := by decide +kernel
theorem dX7_worstOf_22 : decode cX7_worstOf 22 = .ok (.if_icmp .ge 73, 3) := by decide +kernel
theorem dX7_worstOf_25 : decode cX7_worstOf 25 = .ok (.iconst 0, 1) := by decide +kernel
theorem dX7_worstOf_26 : decode cX7_worstOf 26 = .ok (.istore 4, 2) := by decide +kernel
theorem dX7_worstOf_28 : decode cX7_worstOf 28 = .ok (.iload 4, 2) := by decide +kernel
theorem dX7_worstOf_30 : decode cX7_worstOf 30 = .ok (.aload_n 0, 1) := by decide +kernel
theorem dX7_worstOf_31 : decode cX7_worstOf 31 = .ok (.aload_n 0, 1) := by decide +kernel
theorem dX7_worstOf_32 : decode cX7_worstOf 32 = .ok (.getfield 22, 3) := by decide +kernel
theorem dX7_worstOf_35 : decode cX7_worstOf 35 = .ok (.iload_n 3, 1) := by decide +kernel
theorem dX7_worstOf_36 : decode cX7_worstOf 36 = .ok (.iaload, 1) := by decide +kernel
theorem dX7_worstOf_37 : decode cX7_worstOf 37 = .ok (.bipush 61, 2) := by decide +kernel
theorem dX7_worstOf_39 : decode cX7_worstOf 39 = .ok (.invokevirtual 46, 3) := by decide +kernel
theorem dX7_worstOf_42 : decode cX7_worstOf 42 = .ok (.if_icmp .ge 47, 3) := by decide +kernel
theorem dX7_worstOf_45 : decode cX7_worstOf 45 = .ok (.aload_n 0, 1) := by decide +kernel
theorem dX7_worstOf_46 : decode cX7_worstOf 46 = .ok (.aload_n 0, 1) := by decide +kernel
theorem dX7_worstOf_47 : decode cX7_worstOf 47 = .ok (.aload_n 0, 1) := by decide +kernel
theorem dX7_worstOf_48 : decode cX7_worstOf 48 = .ok (.getfield 22, 3) := by decide +kernel
theorem dX7_worstOf_51 : decode cX7_worstOf 51 = .ok (.iload_n 3, 1) := by decide +kernel
theorem dX7_worstOf_52 : decode cX7_worstOf 52 = .ok (.iaload, 1) := by decide +kernel
theorem dX7_worstOf_53 : decode cX7_worstOf 53 = .ok (.bipush 62, 2) := by decide +kernel
theorem dX7_worstOf_55 : decode cX7_worstOf 55 = .ok (.iload 4, 2) := by decide +kernel
theorem dX7_worstOf_57 : decode cX7_worstOf 57 = .ok (.iadd, 1) := by decide +kernel
theorem dX7_worstOf_58 : decode cX7_worstOf 58 = .ok (.invokevirtual 46, 3) := by decide +kernel
theorem dX7_worstOf_61 : decode cX7_worstOf 61 = .ok (.iconst 1, 1) := by decide +kernel
theorem dX7_worstOf_62 : decode cX7_worstOf 62 = .ok (.iadd, 1) := by decide +kernel
theorem dX7_worstOf_63 : decode cX7_worstOf 63 = .ok (.invokevirtual 139, 3) := by decide +kernel
theorem dX7_worstOf_66 : decode cX7_worstOf 66 = .ok (.aload_n 0, 1) := by decide +kernel
theorem dX7_worstOf_67 : decode cX7_worstOf 67 = .ok (.getfield 120, 3) := by decide +kernel
theorem dX7_worstOf_70 : decode cX7_worstOf 70 = .ok (.iload_n 2, 1) := by decide +kernel
theorem dX7_worstOf_71 : decode cX7_worstOf 71 = .ok (.if_icmp .le 10, 3) := by decide +kernel
theorem dX7_worstOf_74 : decode cX7_worstOf 74 = .ok (.aload_n 0, 1) := by decide +kernel
theorem dX7_worstOf_75 : decode cX7_worstOf 75 = .ok (.getfield 120, 3) := by decide +kernel
theorem dX7_worstOf_78 : decode cX7_worstOf 78 = .ok (.goto 4, 3) := by decide +kernel
theorem dX7_worstOf_81 : decode cX7_worstOf 81 = .ok (.iload_n 2, 1) := by decide +kernel
theorem dX7_worstOf_82 : decode cX7_worstOf 82 = .ok (.istore_n 2, 1) := by decide +kernel
theorem dX7_worstOf_83 : decode cX7_worstOf 83 = .ok (.iinc 4 1, 3) := by decide +kernel
theorem dX7_worstOf_86 : decode cX7_worstOf 86 = .ok (.goto (-58), 3) := by decide +kernel
theorem dX7_worstOf_89 : decode cX7_worstOf 89 = .ok (.iinc 3 1, 3) := by decide +kernel
theorem dX7_worstOf_92 : decode cX7_worstOf 92 = .ok (.goto (-75), 3) := by decide +kernel
theorem dX7_worstOf_95 : decode cX7_worstOf 95 = .ok (.iload_n 2, 1) := by decide +kernel
theorem dX7_worstOf_96 : decode cX7_worstOf 96 = .ok (.ireturn, 1) := by decide +kernel
theorem dX7_worst_0 : decode cX7_worst 0 = .ok (.aload_n 0, 1) := by decide +kernel
theorem dX7_worst_1 : decode cX7_worst 1 = .ok (.iload_n 1, 1) := by decide +kernel
theorem dX7_worst_2 : decode cX7_worst 2 = .ok (.invokevirtual 80, 3) := by decide +kernel
theorem dX7_worst_5 : decode cX7_worst 5 = .ok (.ifCond .eq 15, 3) := by decide +kernel
theorem dX7_worst_8 : decode cX7_worst 8 = .ok (.aload_n 0, 1) := by decide +kernel
theorem dX7_worst_9 : decode cX7_worst 9 = .ok (.aload_n 0, 1) := by decide +kernel
theorem dX7_worst_10 : decode cX7_worst 10 = .ok (.iload_n 1, 1) := by decide +kernel
theorem dX7_worst_11 : decode cX7_worst 11 = .ok (.invokevirtual 148, 3) := by decide +kernel
theorem dX7_worst_14 : decode cX7_worst 14 = .ok (.invokevirtual 38, 3) := by decide +kernel
theorem dX7_worst_17 : decode cX7_worst 17 = .ok (.goto 8, 3) := by decide +kernel
theorem dX7_worst_20 : decode cX7_worst 20 = .ok (.aload_n 0, 1) := by decide +kernel
theorem dX7_worst_21 : decode cX7_worst 21 = .ok (.iconst 1, 1) := by decide +kernel
theorem dX7_worst_22 : decode cX7_worst 22 = .ok (.invokevirtual 84, 3) := by decide +kernel
theorem dX7_worst_25 : decode cX7_worst 25 = .ok (.ireturn, 1) := by decide +kernel
theorem dX7_nodes_0 : decode cX7_nodes 0 = .ok (.aload_n 0, 1) := by decide +kernel
theorem dX7_nodes_1 : decode cX7_nodes 1 = .ok (.aload_n 0, 1) := by decide +kernel
theorem dX7_nodes_2 : decode cX7_nodes 2 = .ok (.getfield 7, 3) := by decide +kernel
theorem dX7_nodes_5 : decode cX7_nodes 5 = .ok (.iconst 0, 1) := by decide +kernel
theorem dX7_nodes_6 : decode cX7_nodes 6 = .ok (.iaload, 1) := by decide +kernel
theorem dX7_nodes_7 : decode cX7_nodes 7 = .ok (.invokevirtual 38, 3) := by decide +kernel
theorem dX7_nodes_10 : decode cX7_nodes 10 = .ok (.ireturn, 1) := by decide +kernel
theorem dX7_depth_0 : decode cX7_depth 0 = .ok (.aload_n 0, 1) := by decide +kernel
theorem dX7_depth_1 : decode cX7_depth 1 = .ok (.iload_n 1, 1) := by decide +kernel
theorem dX7_depth_2 : decode cX7_depth 2 = .ok (.invokevirtual 136, 3) := by decide +kernel
theorem dX7_depth_5 : decode cX7_depth 5 = .ok (.aload_n 0, 1) := by decide +kernel
theorem dX7_depth_6 : decode cX7_depth 6 = .ok (.getfield 117, 3) := by decide +kernel
theorem dX7_depth_9 : decode cX7_depth 9 = .ok (.iconst 1, 1) := by decide +kernel
theorem dX7_depth_10 : decode cX7_depth 10 = .ok (.isub, 1) := by decide +kernel
theorem dX7_depth_11 : decode cX7_depth 11 = .ok (.ireturn, 1) := by decide +kernel
theorem dX7_value_0 : decode cX7_value 0 = .ok (.iload_n 2, 1) := by decide +kernel
theorem dX7_value_1 : decode cX7_value 1 = .ok (.tableswitch 87 0 7 #[47, 47, 47, 54, 60, 66, 73, 79], 47) := by decide +kernel
theorem dX7_value_48 : decode cX7_value 48 = .ok (.aload_n 0, 1) := by decide +kernel
theorem dX7_value_49 : decode cX7_value 49 = .ok (.iload_n 1, 1) := by decide +kernel
theorem dX7_value_50 : decode cX7_value 50 = .ok (.iload_n 2, 1) := by decide +kernel
theorem dX7_value_51 : decode cX7_value 51 = .ok (.invokevirtual 46, 3) := by decide +kernel
theorem dX7_value_54 : decode cX7_value 54 = .ok (.ireturn, 1) := by decide +kernel
theorem dX7_value_55 : decode cX7_value 55 = .ok (.aload_n 0, 1) := by decide +kernel
theorem dX7_value_56 : decode cX7_value 56 = .ok (.iload_n 1, 1) := by decide +kernel
theorem dX7_value_57 : decode cX7_value 57 = .ok (.invokevirtual 151, 3) := by decide +kernel
theorem dX7_value_60 : decode cX7_value 60 = .ok (.ireturn, 1) := by decide +kernel
theorem dX7_value_61 : decode cX7_value 61 = .ok (.aload_n 0, 1) := by decide +kernel
theorem dX7_value_62 : decode cX7_value 62 = .ok (.iload_n 1, 1) := by decide +kernel
theorem dX7_value_63 : decode cX7_value 63 = .ok (.invokevirtual 103, 3) := by decide +kernel
theorem dX7_value_66 : decode cX7_value 66 = .ok (.ireturn, 1) := by decide +kernel
theorem dX7_value_67 : decode cX7_value 67 = .ok (.aload_n 0, 1) := by decide +kernel
theorem dX7_value_68 : decode cX7_value 68 = .ok (.iload_n 1, 1) := by decide +kernel
theorem dX7_value_69 : decode cX7_value 69 = .ok (.iconst 3, 1) := by decide +kernel
theorem dX7_value_70 : decode cX7_value 70 = .ok (.invokevirtual 46, 3) := by decide +kernel
theorem dX7_value_73 : decode cX7_value 73 = .ok (.ireturn, 1) := by decide +kernel
theorem dX7_value_74 : decode cX7_value 74 = .ok (.aload_n 0, 1) := by decide +kernel
theorem dX7_value_75 : decode cX7_value 75 = .ok (.iload_n 1, 1) := by decide +kernel
theorem dX7_value_76 : decode cX7_value 76 = .ok (.invokevirtual 50, 3) := by decide +kernel
theorem dX7_value_79 : decode cX7_value 79 = .ok (.ireturn, 1) := by decide +kernel
theorem dX7_value_80 : decode cX7_value 80 = .ok (.aload_n 0, 1) := by decide +kernel
theorem dX7_value_81 : decode cX7_value 81 = .ok (.iload_n 1, 1) := by decide +kernel
theorem dX7_value_82 : decode cX7_value 82 = .ok (.bipush 52, 2) := by decide +kernel
theorem dX7_value_84 : decode cX7_value 84 = .ok (.invokevirtual 46, 3) := by decide +kernel
theorem dX7_value_87 : decode cX7_value 87 = .ok (.ireturn, 1) := by decide +kernel
theorem dX7_value_88 : decode cX7_value 88 = .ok (.aload_n 0, 1) := by decide +kernel
theorem dX7_value_89 : decode cX7_value 89 = .ok (.iload_n 1, 1) := by decide +kernel
theorem dX7_value_90 : decode cX7_value 90 = .ok (.bipush 61, 2) := by decide +kernel
theorem dX7_value_92 : decode cX7_value 92 = .ok (.invokevirtual 46, 3) := by decide +kernel
theorem dX7_value_95 : decode cX7_value 95 = .ok (.ireturn, 1) := by decide +kernel
theorem dX7_node_0 : decode cX7_node 0 = .ok (.aload_n 0, 1) := by decide +kernel
theorem dX7_node_1 : decode cX7_node 1 = .ok (.iload_n 1, 1) := by decide +kernel
theorem dX7_node_2 : decode cX7_node 2 = .ok (.invokevirtual 80, 3) := by decide +kernel
theorem dX7_node_5 : decode cX7_node 5 = .ok (.ifCond .ne 9, 3) := by decide +kernel
theorem dX7_node_8 : decode cX7_node 8 = .ok (.aload_n 0, 1) := by decide +kernel
theorem dX7_node_9 : decode cX7_node 9 = .ok (.iconst 1, 1) := by decide +kernel
theorem dX7_node_10 : decode cX7_node 10 = .ok (.invokevirtual 84, 3) := by decide +kernel
theorem dX7_node_13 : decode cX7_node 13 = .ok (.ireturn, 1) := by decide +kernel
theorem dX7_node_14 : decode cX7_node 14 = .ok (.iload_n 2, 1) := by decide +kernel
theorem dX7_node_15 : decode cX7_node 15 = .ok (.iconst 0, 1) := by decide +kernel
theorem dX7_node_16 : decode cX7_node 16 = .ok (.bipush 8, 2) := by decide +kernel
theorem dX7_node_18 : decode cX7_node 18 = .ok (.invokestatic 42, 3) := by decide +kernel
theorem dX7_node_21 : decode cX7_node 21 = .ok (.ifCond .eq 16, 3) := by decide +kernel
theorem dX7_node_24 : decode cX7_node 24 = .ok (.aload_n 0, 1) := by decide +kernel
theorem dX7_node_25 : decode cX7_node 25 = .ok (.aload_n 0, 1) := by decide +kernel
theorem dX7_node_26 : decode cX7_node 26 = .ok (.iload_n 1, 1) := by decide +kernel
theorem dX7_node_27 : decode cX7_node 27 = .ok (.iload_n 2, 1) := by decide +kernel
theorem dX7_node_28 : decode cX7_node 28 = .ok (.invokevirtual 154, 3) := by decide +kernel
theorem dX7_node_31 : decode cX7_node 31 = .ok (.invokevirtual 38, 3) := by decide +kernel
theorem dX7_node_34 : decode cX7_node 34 = .ok (.goto 8, 3) := by decide +kernel
theorem dX7_node_37 : decode cX7_node 37 = .ok (.aload_n 0, 1) := by decide +kernel
theorem dX7_node_38 : decode cX7_node 38 = .ok (.iconst 2, 1) := by decide +kernel
theorem dX7_node_39 : decode cX7_node 39 = .ok (.invokevirtual 84, 3) := by decide +kernel
theorem dX7_node_42 : decode cX7_node 42 = .ok (.ireturn, 1) := by decide +kernel
theorem dX7_key_0 : decode cX7_key 0 = .ok (.aload_n 0, 1) := by decide +kernel
theorem dX7_key_1 : decode cX7_key 1 = .ok (.iload_n 1, 1) := by decide +kernel
theorem dX7_key_2 : decode cX7_key 2 = .ok (.invokevirtual 80, 3) := by decide +kernel
theorem dX7_key_5 : decode cX7_key 5 = .ok (.ifCond .ne 9, 3) := by decide +kernel
theorem dX7_key_8 : decode cX7_key 8 = .ok (.aload_n 0, 1) := by decide +kernel
theorem dX7_key_9 : decode cX7_key 9 = .ok (.iconst 1, 1) := by decide +kernel
theorem dX7_key_10 : decode cX7_key 10 = .ok (.invokevirtual 84, 3) := by decide +kernel
theorem dX7_key_13 : decode cX7_key 13 = .ok (.ireturn, 1) := by decide +kernel
theorem dX7_key_14 : decode cX7_key 14 = .ok (.iload_n 2, 1) := by decide +kernel
theorem dX7_key_15 : decode cX7_key 15 = .ok (.ifCond .ge 9, 3) := by decide +kernel
theorem dX7_key_18 : decode cX7_key 18 = .ok (.aload_n 0, 1) := by decide +kernel
theorem dX7_key_19 : decode cX7_key 19 = .ok (.iconst 2, 1) := by decide +kernel
theorem dX7_key_20 : decode cX7_key 20 = .ok (.invokevirtual 84, 3) := by decide +kernel
theorem dX7_key_23 : decode cX7_key 23 = .ok (.ireturn, 1) := by decide +kernel
theorem dX7_key_24 : decode cX7_key 24 = .ok (.aload_n 0, 1) := by decide +kernel
theorem dX7_key_25 : decode cX7_key 25 = .ok (.iload_n 1, 1) := by decide +kernel
theorem dX7_key_26 : decode cX7_key 26 = .ok (.iconst 0, 1) := by decide +kernel
theorem dX7_key_27 : decode cX7_key 27 = .ok (.invokevirtual 74, 3) := by decide +kernel
theorem dX7_key_30 : decode cX7_key 30 = .ok (.istore_n 3, 1) := by decide +kernel
theorem dX7_key_31 : decode cX7_key 31 = .ok (.iconst 0, 1) := by decide +kernel
theorem dX7_key_32 : decode cX7_key 32 = .ok (.istore 4, 2) := by decide +kernel
theorem dX7_key_34 : decode cX7_key 34 = .ok (.iload 4, 2) := by decide +kernel
theorem dX7_key_36 : decode cX7_key 36 = .ok (.iload_n 2, 1) := by decide +kernel
theorem dX7_key_37 : decode cX7_key 37 = .ok (.if_icmp .ge 23, 3) := by decide +kernel
theorem dX7_key_40 : decode cX7_key 40 = .ok (.iload_n 3, 1) := by decide +kernel
theorem dX7_key_41 : decode cX7_key 41 = .ok (.iconst (-1), 1) := by decide +kernel
theorem dX7_key_42 : decode cX7_key 42 = .ok (.if_icmp .eq 18, 3) := by decide +kernel
theorem dX7_key_45 : decode cX7_key 45 = .ok (.aload_n 0, 1) := by decide +kernel
theorem dX7_key_46 : decode cX7_key 46 = .ok (.iload_n 1, 1) := by decide +kernel
theorem dX7_key_47 : decode cX7_key 47 = .ok (.iload_n 3, 1) := by decide +kernel
theorem dX7_key_48 : decode cX7_key 48 = .ok (.iconst 1, 1) := by decide +kernel
theorem dX7_key_49 : decode cX7_key 49 = .ok (.iadd, 1) := by decide +kernel
theorem dX7_key_50 : decode cX7_key 50 = .ok (.invokevirtual 74, 3) := by decide +kernel
theorem dX7_key_53 : decode cX7_key 53 = .ok (.istore_n 3, 1) := by decide +kernel
theorem dX7_key_54 : decode cX7_key 54 = .ok (.iinc 4 1, 3) := by decide +kernel
theorem dX7_key_57 : decode cX7_key 57 = .ok (.goto (-23), 3) := by decide +kernel
theorem dX7_key_60 : decode cX7_key 60 = .ok (.aload_n 0, 1) := by decide +kernel
theorem dX7_key_61 : decode cX7_key 61 = .ok (.iload_n 3, 1) := by decide +kernel
theorem dX7_key_62 : decode cX7_key 62 = .ok (.invokevirtual 38, 3) := by decide +kernel
theorem dX7_key_65 : decode cX7_key 65 = .ok (.ireturn, 1) := by decide +kernel
theorem dX7_baseOf_0 : decode cX7_baseOf 0 = .ok (.aload_n 0, 1) := by decide +kernel
theorem dX7_baseOf_1 : decode cX7_baseOf 1 = .ok (.iload_n 1, 1) := by decide +kernel
theorem dX7_baseOf_2 : decode cX7_baseOf 2 = .ok (.iconst 4, 1) := by decide +kernel
theorem dX7_baseOf_3 : decode cX7_baseOf 3 = .ok (.iload_n 2, 1) := by decide +kernel
theorem dX7_baseOf_4 : decode cX7_baseOf 4 = .ok (.iadd, 1) := by decide +kernel
theorem dX7_baseOf_5 : decode cX7_baseOf 5 = .ok (.invokevirtual 46, 3) := by decide +kernel
theorem dX7_baseOf_8 : decode cX7_baseOf 8 = .ok (.aload_n 0, 1) := by decide +kernel
theorem dX7_baseOf_9 : decode cX7_baseOf 9 = .ok (.iload_n 1, 1) := by decide +kernel
theorem dX7_baseOf_10 : decode cX7_baseOf 10 = .ok (.bipush 28, 2) := by decide +kernel
theorem dX7_baseOf_12 : decode cX7_baseOf 12 = .ok (.iload_n 2, 1) := by decide +kernel
theorem dX7_baseOf_13 : decode cX7_baseOf 13 = .ok (.iadd, 1) := by decide +kernel
theorem dX7_baseOf_14 : decode cX7_baseOf 14 = .ok (.invokevirtual 46, 3) := by decide +kernel
theorem dX7_baseOf_17 : decode cX7_baseOf 17 = .ok (.iconst 1, 1) := by decide +kernel
theorem dX7_baseOf_18 : decode cX7_baseOf 18 = .ok (.if_icmp .ne 9, 3) := by decide +kernel
theorem dX7_baseOf_21 : decode cX7_baseOf 21 = .ok (.sipush 10000, 3) := by decide +kernel
theorem dX7_baseOf_24 : decode cX7_baseOf 24 = .ok (.goto 4, 3) := by decide +kernel
theorem dX7_baseOf_27 : decode cX7_baseOf 27 = .ok (.iconst 0, 1) := by decide +kernel
theorem dX7_baseOf_28 : decode cX7_baseOf 28 = .ok (.iadd, 1) := by decide +kernel
theorem dX7_baseOf_29 : decode cX7_baseOf 29 = .ok (.ireturn, 1) := by decide +kernel
theorem dX7_baseKey_0 : decode cX7_baseKey 0 = .ok (.aload_n 0, 1) := by decide +kernel
theorem dX7_baseKey_1 : decode cX7_baseKey 1 = .ok (.iload_n 1, 1) := by decide +kernel
theorem dX7_baseKey_2 : decode cX7_baseKey 2 = .ok (.invokevirtual 80, 3) := by decide +kernel
theorem dX7_baseKey_5 : decode cX7_baseKey 5 = .ok (.ifCond .ne 9, 3) := by decide +kernel
theorem dX7_baseKey_8 : decode cX7_baseKey 8 = .ok (.aload_n 0, 1) := by decide +kernel
theorem dX7_baseKey_9 : decode cX7_baseKey 9 = .ok (.iconst 1, 1) := by decide +kernel
theorem dX7_baseKey_10 : decode cX7_baseKey 10 = .ok (.invokevirtual 84, 3) := by decide +kernel
theorem dX7_baseKey_13 : decode cX7_baseKey 13 = .ok (.ireturn, 1) := by decide +kernel
theorem dX7_baseKey_14 : decode cX7_baseKey 14 = .ok (.iload_n 2, 1) := by decide +kernel
theorem dX7_baseKey_15 : decode cX7_baseKey 15 = .ok (.ifCond .ge 9, 3) := by decide +kernel
theorem dX7_baseKey_18 : decode cX7_baseKey 18 = .ok (.aload_n 0, 1) := by decide +kernel
theorem dX7_baseKey_19 : decode cX7_baseKey 19 = .ok (.iconst 2, 1) := by decide +kernel
theorem dX7_baseKey_20 : decode cX7_baseKey 20 = .ok (.invokevirtual 84, 3) := by decide +kernel
theorem dX7_baseKey_23 : decode cX7_baseKey 23 = .ok (.ireturn, 1) := by decide +kernel
theorem dX7_baseKey_24 : decode cX7_baseKey 24 = .ok (.aload_n 0, 1) := by decide +kernel
theorem dX7_baseKey_25 : decode cX7_baseKey 25 = .ok (.iload_n 2, 1) := by decide +kernel
theorem dX7_baseKey_26 : decode cX7_baseKey 26 = .ok (.aload_n 0, 1) := by decide +kernel
theorem dX7_baseKey_27 : decode cX7_baseKey 27 = .ok (.iload_n 1, 1) := by decide +kernel
theorem dX7_baseKey_28 : decode cX7_baseKey 28 = .ok (.iconst 3, 1) := by decide +kernel
theorem dX7_baseKey_29 : decode cX7_baseKey 29 = .ok (.invokevirtual 46, 3) := by decide +kernel
theorem dX7_baseKey_32 : decode cX7_baseKey 32 = .ok (.if_icmp .ge 12, 3) := by decide +kernel
theorem dX7_baseKey_35 : decode cX7_baseKey 35 = .ok (.aload_n 0, 1) := by decide +kernel
theorem dX7_baseKey_36 : decode cX7_baseKey 36 = .ok (.iload_n 1, 1) := by decide +kernel
theorem dX7_baseKey_37 : decode cX7_baseKey 37 = .ok (.iload_n 2, 1) := by decide +kernel
theorem dX7_baseKey_38 : decode cX7_baseKey 38 = .ok (.invokevirtual 157, 3) := by decide +kernel
theorem dX7_baseKey_41 : decode cX7_baseKey 41 = .ok (.goto 4, 3) := by decide +kernel
theorem dX7_baseKey_44 : decode cX7_baseKey 44 = .ok (.iconst (-1), 1) := by decide +kernel
theorem dX7_baseKey_45 : decode cX7_baseKey 45 = .ok (.invokevirtual 38, 3) := by decide +kernel
theorem dX7_baseKey_48 : decode cX7_baseKey 48 = .ok (.ireturn, 1) := by decide +kernel
theorem dX7_bufferKey_0 : decode cX7_bufferKey 0 = .ok (.aload_n 0, 1) := by decide +kernel
theorem dX7_bufferKey_1 : decode cX7_bufferKey 1 = .ok (.iload_n 1, 1) := by decide +kernel
theorem dX7_bufferKey_2 : decode cX7_bufferKey 2 = .ok (.invokevirtual 80, 3) := by decide +kernel
theorem dX7_bufferKey_5 : decode cX7_bufferKey 5 = .ok (.ifCond .ne 9, 3) := by decide +kernel
theorem dX7_bufferKey_8 : decode cX7_bufferKey 8 = .ok (.aload_n 0, 1) := by decide +kernel
theorem dX7_bufferKey_9 : decode cX7_bufferKey 9 = .ok (.iconst 1, 1) := by decide +kernel
theorem dX7_bufferKey_10 : decode cX7_bufferKey 10 = .ok (.invokevirtual 84, 3) := by decide +kernel
theorem dX7_bufferKey_13 : decode cX7_bufferKey 13 = .ok (.ireturn, 1) := by decide +kernel
theorem dX7_bufferKey_14 : decode cX7_bufferKey 14 = .ok (.iload_n 2, 1) := by decide +kernel
theorem dX7_bufferKey_15 : decode cX7_bufferKey 15 = .ok (.ifCond .ge 9, 3) := by decide +kernel
theorem dX7_bufferKey_18 : decode cX7_bufferKey 18 = .ok (.aload_n 0, 1) := by decide +kernel
theorem dX7_bufferKey_19 : decode cX7_bufferKey 19 = .ok (.iconst 2, 1) := by decide +kernel
theorem dX7_bufferKey_20 : decode cX7_bufferKey 20 = .ok (.invokevirtual 84, 3) := by decide +kernel
theorem dX7_bufferKey_23 : decode cX7_bufferKey 23 = .ok (.ireturn, 1) := by decide +kernel
theorem dX7_bufferKey_24 : decode cX7_bufferKey 24 = .ok (.aload_n 0, 1) := by decide +kernel
theorem dX7_bufferKey_25 : decode cX7_bufferKey 25 = .ok (.iload_n 2, 1) := by decide +kernel
theorem dX7_bufferKey_26 : decode cX7_bufferKey 26 = .ok (.aload_n 0, 1) := by decide +kernel
theorem dX7_bufferKey_27 : decode cX7_bufferKey 27 = .ok (.iload_n 1, 1) := by decide +kernel
theorem dX7_bufferKey_28 : decode cX7_bufferKey 28 = .ok (.bipush 52, 2) := by decide +kernel
theorem dX7_bufferKey_30 : decode cX7_bufferKey 30 = .ok (.invokevirtual 46, 3) := by decide +kernel
theorem dX7_bufferKey_33 : decode cX7_bufferKey 33 = .ok (.if_icmp .ge 15, 3) := by decide +kernel
theorem dX7_bufferKey_36 : decode cX7_bufferKey 36 = .ok (.aload_n 0, 1) := by decide +kernel
theorem dX7_bufferKey_37 : decode cX7_bufferKey 37 = .ok (.iload_n 1, 1) := by decide +kernel
theorem dX7_bufferKey_38 : decode cX7_bufferKey 38 = .ok (.bipush 53, 2) := by decide +kernel
theorem dX7_bufferKey_40 : decode cX7_bufferKey 40 = .ok (.iload_n 2, 1) := by decide +kernel
theorem dX7_bufferKey_41 : decode cX7_bufferKey 41 = .ok (.iadd, 1) := by decide +kernel
theorem dX7_bufferKey_42 : decode cX7_bufferKey 42 = .ok (.invokevirtual 46, 3) := by decide +kernel
theorem dX7_bufferKey_45 : decode cX7_bufferKey 45 = .ok (.goto 4, 3) := by decide +kernel
theorem dX7_bufferKey_48 : decode cX7_bufferKey 48 = .ok (.iconst (-1), 1) := by decide +kernel
theorem dX7_bufferKey_49 : decode cX7_bufferKey 49 = .ok (.invokevirtual 38, 3) := by decide +kernel
theorem dX7_bufferKey_52 : decode cX7_bufferKey 52 = .ok (.ireturn, 1) := by decide +kernel
theorem dX7_entry_0 : decode cX7_entry 0 = .ok (.aload_n 0, 1) := by decide +kernel
theorem dX7_entry_1 : decode cX7_entry 1 = .ok (.iload_n 1, 1) := by decide +kernel
theorem dX7_entry_2 : decode cX7_entry 2 = .ok (.invokevirtual 80, 3) := by decide +kernel
theorem dX7_entry_5 : decode cX7_entry 5 = .ok (.ifCond .ne 9, 3) := by decide +kernel
theorem dX7_entry_8 : decode cX7_entry 8 = .ok (.aload_n 0, 1) := by decide +kernel
theorem dX7_entry_9 : decode cX7_entry 9 = .ok (.iconst 1, 1) := by decide +kernel
theorem dX7_entry_10 : decode cX7_entry 10 = .ok (.invokevirtual 84, 3) := by decide +kernel
theorem dX7_entry_13 : decode cX7_entry 13 = .ok (.ireturn, 1) := by decide +kernel
theorem dX7_entry_14 : decode cX7_entry 14 = .ok (.iload_n 2, 1) := by decide +kernel
theorem dX7_entry_15 : decode cX7_entry 15 = .ok (.ifCond .lt 12, 3) := by decide +kernel
theorem dX7_entry_18 : decode cX7_entry 18 = .ok (.iload_n 3, 1) := by decide +kernel
theorem dX7_entry_19 : decode cX7_entry 19 = .ok (.iconst 0, 1) := by decide +kernel
theorem dX7_entry_20 : decode cX7_entry 20 = .ok (.iconst 1, 1) := by decide +kernel
theorem dX7_entry_21 : decode cX7_entry 21 = .ok (.invokestatic 42, 3) := by decide +kernel
theorem dX7_entry_24 : decode cX7_entry 24 = .ok (.ifCond .ne 9, 3) := by decide +kernel
theorem dX7_entry_27 : decode cX7_entry 27 = .ok (.aload_n 0, 1) := by decide +kernel
theorem dX7_entry_28 : decode cX7_entry 28 = .ok (.iconst 2, 1) := by decide +kernel
theorem dX7_entry_29 : decode cX7_entry 29 = .ok (.invokevirtual 84, 3) := by decide +kernel
theorem dX7_entry_32 : decode cX7_entry 32 = .ok (.ireturn, 1) := by decide +kernel
theorem dX7_entry_33 : decode cX7_entry 33 = .ok (.aload_n 0, 1) := by decide +kernel
theorem dX7_entry_34 : decode cX7_entry 34 = .ok (.iload_n 2, 1) := by decide +kernel
theorem dX7_entry_35 : decode cX7_entry 35 = .ok (.aload_n 0, 1) := by decide +kernel
theorem dX7_entry_36 : decode cX7_entry 36 = .ok (.iload_n 1, 1) := by decide +kernel
theorem dX7_entry_37 : decode cX7_entry 37 = .ok (.bipush 61, 2) := by decide +kernel
theorem dX7_entry_39 : decode cX7_entry 39 = .ok (.invokevirtual 46, 3) := by decide +kernel
theorem dX7_entry_42 : decode cX7_entry 42 = .ok (.if_icmp .lt 7, 3) := by decide +kernel
theorem dX7_entry_45 : decode cX7_entry 45 = .ok (.iconst (-1), 1) := by decide +kernel
theorem dX7_entry_46 : decode cX7_entry 46 = .ok (.goto 22, 3) := by decide +kernel
theorem dX7_entry_49 : decode cX7_entry 49 = .ok (.aload_n 0, 1) := by decide +kernel
theorem dX7_entry_50 : decode cX7_entry 50 = .ok (.iload_n 1, 1) := by decide +kernel
theorem dX7_entry_51 : decode cX7_entry 51 = .ok (.iload_n 3, 1) := by decide +kernel
theorem dX7_entry_52 : decode cX7_entry 52 = .ok (.ifCond .ne 8, 3) := by decide +kernel
theorem dX7_entry_55 : decode cX7_entry 55 = .ok (.bipush 62, 2) := by decide +kernel
theorem dX7_entry_57 : decode cX7_entry 57 = .ok (.goto 6, 3) := by decide +kernel
theorem dX7_entry_60 : decode cX7_entry 60 = .ok (.sipush 158, 3) := by decide +kernel
theorem dX7_entry_63 : decode cX7_entry 63 = .ok (.iload_n 2, 1) := by decide +kernel
theorem dX7_entry_64 : decode cX7_entry 64 = .ok (.iadd, 1) := by decide +kernel
theorem dX7_entry_65 : decode cX7_entry 65 = .ok (.invokevirtual 46, 3) := by decide +kernel
theorem dX7_entry_68 : decode cX7_entry 68 = .ok (.invokevirtual 38, 3) := by decide +kernel
theorem dX7_entry_71 : decode cX7_entry 71 = .ok (.ireturn, 1) := by decide +kernel
theorem dX7_bridge_0 : decode cX7_bridge 0 = .ok (.aload_n 0, 1) := by decide +kernel
theorem dX7_bridge_1 : decode cX7_bridge 1 = .ok (.iload_n 1, 1) := by decide +kernel
theorem dX7_bridge_2 : decode cX7_bridge 2 = .ok (.invokevirtual 80, 3) := by decide +kernel
theorem dX7_bridge_5 : decode cX7_bridge 5 = .ok (.ifCond .ne 9, 3) := by decide +kernel
theorem dX7_bridge_8 : decode cX7_bridge 8 = .ok (.aload_n 0, 1) := by decide +kernel
theorem dX7_bridge_9 : decode cX7_bridge 9 = .ok (.iconst 1, 1) := by decide +kernel
theorem dX7_bridge_10 : decode cX7_bridge 10 = .ok (.invokevirtual 84, 3) := by decide +kernel
theorem dX7_bridge_13 : decode cX7_bridge 13 = .ok (.ireturn, 1) := by decide +kernel
theorem dX7_bridge_14 : decode cX7_bridge 14 = .ok (.iload_n 2, 1) := by decide +kernel
theorem dX7_bridge_15 : decode cX7_bridge 15 = .ok (.iconst 0, 1) := by decide +kernel
theorem dX7_bridge_16 : decode cX7_bridge 16 = .ok (.aload_n 0, 1) := by decide +kernel
theorem dX7_bridge_17 : decode cX7_bridge 17 = .ok (.iload_n 1, 1) := by decide +kernel
theorem dX7_bridge_18 : decode cX7_bridge 18 = .ok (.bipush 61, 2) := by decide +kernel
theorem dX7_bridge_20 : decode cX7_bridge 20 = .ok (.invokevirtual 46, 3) := by decide +kernel
theorem dX7_bridge_23 : decode cX7_bridge 23 = .ok (.invokestatic 42, 3) := by decide +kernel
theorem dX7_bridge_26 : decode cX7_bridge 26 = .ok (.ifCond .eq 33, 3) := by decide +kernel
theorem dX7_bridge_29 : decode cX7_bridge 29 = .ok (.iload_n 3, 1) := by decide +kernel
theorem dX7_bridge_30 : decode cX7_bridge 30 = .ok (.iconst 0, 1) := by decide +kernel
theorem dX7_bridge_31 : decode cX7_bridge 31 = .ok (.iconst 2, 1) := by decide +kernel
theorem dX7_bridge_32 : decode cX7_bridge 32 = .ok (.invokestatic 42, 3) := by decide +kernel
theorem dX7_bridge_35 : decode cX7_bridge 35 = .ok (.ifCond .eq 24, 3) := by decide +kernel
theorem dX7_bridge_38 : decode cX7_bridge 38 = .ok (.aload_n 0, 1) := by decide +kernel
theorem dX7_bridge_39 : decode cX7_bridge 39 = .ok (.aload_n 0, 1) := by decide +kernel
theorem dX7_bridge_40 : decode cX7_bridge 40 = .ok (.iload_n 1, 1) := by decide +kernel
theorem dX7_bridge_41 : decode cX7_bridge 41 = .ok (.sipush 254, 3) := by decide +kernel
theorem dX7_bridge_44 : decode cX7_bridge 44 = .ok (.iconst 3, 1) := by decide +kernel
theorem dX7_bridge_45 : decode cX7_bridge 45 = .ok (.iload_n 2, 1) := by decide +kernel
theorem dX7_bridge_46 : decode cX7_bridge 46 = .ok (.imul, 1) := by decide +kernel
theorem dX7_bridge_47 : decode cX7_bridge 47 = .ok (.iadd, 1) := by decide +kernel
theorem dX7_bridge_48 : decode cX7_bridge 48 = .ok (.iload_n 3, 1) := by decide +kernel
theorem dX7_bridge_49 : decode cX7_bridge 49 = .ok (.iadd, 1) := by decide +kernel
theorem dX7_bridge_50 : decode cX7_bridge 50 = .ok (.invokevirtual 46, 3) := by decide +kernel
theorem dX7_bridge_53 : decode cX7_bridge 53 = .ok (.invokevirtual 38, 3) := by decide +kernel
theorem dX7_bridge_56 : decode cX7_bridge 56 = .ok (.goto 8, 3) := by decide +kernel
theorem dX7_bridge_59 : decode cX7_bridge 59 = .ok (.aload_n 0, 1) := by decide +kernel
theorem dX7_bridge_60 : decode cX7_bridge 60 = .ok (.iconst 2, 1) := by decide +kernel
theorem dX7_bridge_61 : decode cX7_bridge 61 = .ok (.invokevirtual 84, 3) := by decide +kernel
theorem dX7_bridge_64 : decode cX7_bridge 64 = .ok (.ireturn, 1) := by decide +kernel
theorem dX7_counted_0 : decode cX7_counted 0 = .ok (.iload_n 1, 1) := by decide +kernel
theorem dX7_counted_1 : decode cX7_counted 1 = .ok (.iconst 5, 1) := by decide +kernel
theorem dX7_counted_2 : decode cX7_counted 2 = .ok (.if_icmp .ge 12, 3) := by decide +kernel
theorem dX7_counted_5 : decode cX7_counted 5 = .ok (.aload_n 0, 1) := by decide +kernel
theorem dX7_counted_6 : decode cX7_counted 6 = .ok (.getfield 7, 3) := by decide +kernel
theorem dX7_counted_9 : decode cX7_counted 9 = .ok (.iconst 3, 1) := by decide +kernel
theorem dX7_counted_10 : decode cX7_counted 10 = .ok (.iload_n 1, 1) := by decide +kernel
theorem dX7_counted_11 : decode cX7_counted 11 = .ok (.iadd, 1) := by decide +kernel
theorem dX7_counted_12 : decode cX7_counted 12 = .ok (.iaload, 1) := by decide +kernel
theorem dX7_counted_13 : decode cX7_counted 13 = .ok (.ireturn, 1) := by decide +kernel
theorem dX7_counted_14 : decode cX7_counted 14 = .ok (.iconst 0, 1) := by decide +kernel
theorem dX7_counted_15 : decode cX7_counted 15 = .ok (.istore_n 2, 1) := by decide +kernel
theorem dX7_counted_16 : decode cX7_counted 16 = .ok (.iconst 0, 1) := by decide +kernel
theorem dX7_counted_17 : decode cX7_counted 17 = .ok (.istore_n 3, 1) := by decide +kernel
theorem dX7_counted_18 : decode cX7_counted 18 = .ok (.iload_n 3, 1) := by decide +kernel
theorem dX7_counted_19 : decode cX7_counted 19 = .ok (.aload_n 0, 1) := by decide +kernel
theorem dX7_counted_20 : decode cX7_counted 20 = .ok (.getfield 7, 3) := by decide +kernel
theorem dX7_counted_23 : decode cX7_counted 23 = .ok (.iconst 0, 1) := by decide +kernel
theorem dX7_counted_24 : decode cX7_counted 24 = .ok (.iaload, 1) := by decide +kernel
theorem dX7_counted_25 : decode cX7_counted 25 = .ok (.if_icmp .ge 32, 3) := by decide +kernel
theorem dX7_counted_28 : decode cX7_counted 28 = .ok (.iload_n 2, 1) := by decide +kernel
theorem dX7_counted_29 : decode cX7_counted 29 = .ok (.iload_n 1, 1) := by decide +kernel
theorem dX7_counted_30 : decode cX7_counted 30 = .ok (.iconst 5, 1) := by decide +kernel
theorem dX7_counted_31 : decode cX7_counted 31 = .ok (.if_icmp .ne 11, 3) := by decide +kernel
theorem dX7_counted_34 : decode cX7_counted 34 = .ok (.aload_n 0, 1) := by decide +kernel
theorem dX7_counted_35 : decode cX7_counted 35 = .ok (.iload_n 3, 1) := by decide +kernel
theorem dX7_counted_36 : decode cX7_counted 36 = .ok (.invokevirtual 103, 3) := by decide +kernel
theorem dX7_counted_39 : decode cX7_counted 39 = .ok (.goto 10, 3) := by decide +kernel
theorem dX7_counted_42 : decode cX7_counted 42 = .ok (.aload_n 0, 1) := by decide +kernel
theorem dX7_counted_43 : decode cX7_counted 43 = .ok (.iload_n 3, 1) := by decide +kernel
theorem dX7_counted_44 : decode cX7_counted 44 = .ok (.bipush 61, 2) := by decide +kernel
theorem dX7_counted_46 : decode cX7_counted 46 = .ok (.invokevirtual 46, 3) := by decide +kernel
theorem dX7_counted_49 : decode cX7_counted 49 = .ok (.iadd, 1) := by decide +kernel
theorem dX7_counted_50 : decode cX7_counted 50 = .ok (.istore_n 2, 1) := by decide +kernel
theorem dX7_counted_51 : decode cX7_counted 51 = .ok (.iinc 3 1, 3) := by decide +kernel
theorem dX7_counted_54 : decode cX7_counted 54 = .ok (.goto (-36), 3) := by decide +kernel
theorem dX7_counted_57 : decode cX7_counted 57 = .ok (.iload_n 2, 1) := by decide +kernel
theorem dX7_counted_58 : decode cX7_counted 58 = .ok (.ireturn, 1) := by decide +kernel
theorem dX7_count_0 : decode cX7_count 0 = .ok (.iload_n 1, 1) := by decide +kernel
theorem dX7_count_1 : decode cX7_count 1 = .ok (.iconst 0, 1) := by decide +kernel
theorem dX7_count_2 : decode cX7_count 2 = .ok (.bipush 6, 2) := by decide +kernel
theorem dX7_count_4 : decode cX7_count 4 = .ok (.invokestatic 42, 3) := by decide +kernel
theorem dX7_count_7 : decode cX7_count 7 = .ok (.ifCond .eq 15, 3) := by decide +kernel
theorem dX7_count_10 : decode cX7_count 10 = .ok (.aload_n 0, 1) := by decide +kernel
theorem dX7_count_11 : decode cX7_count 11 = .ok (.aload_n 0, 1) := by decide +kernel
theorem dX7_count_12 : decode cX7_count 12 = .ok (.iload_n 1, 1) := by decide +kernel
theorem dX7_count_13 : decode cX7_count 13 = .ok (.invokevirtual 160, 3) := by decide +kernel
theorem dX7_count_16 : decode cX7_count 16 = .ok (.invokevirtual 38, 3) := by decide +kernel
theorem dX7_count_19 : decode cX7_count 19 = .ok (.goto 8, 3) := by decide +kernel
theorem dX7_count_22 : decode cX7_count 22 = .ok (.aload_n 0, 1) := by decide +kernel
theorem dX7_count_23 : decode cX7_count 23 = .ok (.iconst 1, 1) := by decide +kernel
theorem dX7_count_24 : decode cX7_count 24 = .ok (.invokevirtual 84, 3) := by decide +kernel
theorem dX7_count_27 : decode cX7_count 27 = .ok (.ireturn, 1) := by decide +kernel
theorem dX7_undo_0 : decode cX7_undo 0 = .ok (.aload_n 0, 1) := by decide +kernel
theorem dX7_undo_1 : decode cX7_undo 1 = .ok (.getfield 35, 3) := by decide +kernel
theorem dX7_undo_4 : decode cX7_undo 4 = .ok (.ifCond .ne 9, 3) := by decide +kernel
theorem dX7_undo_7 : decode cX7_undo 7 = .ok (.aload_n 0, 1) := by decide +kernel
theorem dX7_undo_8 : decode cX7_undo 8 = .ok (.iconst 1, 1) := by decide +kernel
theorem dX7_undo_9 : decode cX7_undo 9 = .ok (.invokevirtual 84, 3) := by decide +kernel
theorem dX7_undo_12 : decode cX7_undo 12 = .ok (.ireturn, 1) := by decide +kernel
theorem dX7_undo_13 : decode cX7_undo 13 = .ok (.aload_n 0, 1) := by decide +kernel
theorem dX7_undo_14 : decode cX7_undo 14 = .ok (.dup, 1) := by decide +kernel
theorem dX7_undo_15 : decode cX7_undo 15 = .ok (.getfield 35, 3) := by decide +kernel
theorem dX7_undo_18 : decode cX7_undo 18 = .ok (.iconst 1, 1) := by decide +kernel
theorem dX7_undo_19 : decode cX7_undo 19 = .ok (.isub, 1) := by decide +kernel
theorem dX7_undo_20 : decode cX7_undo 20 = .ok (.putfield 35, 3) := by decide +kernel
theorem dX7_undo_23 : decode cX7_undo 23 = .ok (.iconst 0, 1) := by decide +kernel
theorem dX7_undo_24 : decode cX7_undo 24 = .ok (.istore_n 1, 1) := by decide +kernel
theorem dX7_undo_25 : decode cX7_undo 25 = .ok (.iload_n 1, 1) := by decide +kernel
theorem dX7_undo_26 : decode cX7_undo 26 = .ok (.sipush 8183, 3) := by decide +kernel
theorem dX7_undo_29 : decode cX7_undo 29 = .ok (.if_icmp .ge 30, 3) := by decide +kernel
theorem dX7_undo_32 : decode cX7_undo 32 = .ok (.aload_n 0, 1) := by decide +kernel
theorem dX7_undo_33 : decode cX7_undo 33 = .ok (.getfield 7, 3) := by decide +kernel
theorem dX7_undo_36 : decode cX7_undo 36 = .ok (.iload_n 1, 1) := by decide +kernel
theorem dX7_undo_37 : decode cX7_undo 37 = .ok (.aload_n 0, 1) := by decide +kernel
theorem dX7_undo_38 : decode cX7_undo 38 = .ok (.getfield 13, 3) := by decide +kernel
theorem dX7_undo_41 : decode cX7_undo 41 = .ok (.sipush 8183, 3) := by decide +kernel
theorem dX7_undo_44 : decode cX7_undo 44 = .ok (.aload_n 0, 1) := by decide +kernel
theorem dX7_undo_45 : decode cX7_undo 45 = .ok (.getfield 35, 3) := by decide +kernel
theorem dX7_undo_48 : decode cX7_undo 48 = .ok (.imul, 1) := by decide +kernel
theorem dX7_undo_49 : decode cX7_undo 49 = .ok (.iload_n 1, 1) := by decide +kernel
theorem dX7_undo_50 : decode cX7_undo 50 = .ok (.iadd, 1) := by decide +kernel
theorem dX7_undo_51 : decode cX7_undo 51 = .ok (.iaload, 1) := by decide +kernel
theorem dX7_undo_52 : decode cX7_undo 52 = .ok (.iastore, 1) := by decide +kernel
theorem dX7_undo_53 : decode cX7_undo 53 = .ok (.iinc 1 1, 3) := by decide +kernel
theorem dX7_undo_56 : decode cX7_undo 56 = .ok (.goto (-31), 3) := by decide +kernel
theorem dX7_undo_59 : decode cX7_undo 59 = .ok (.aload_n 0, 1) := by decide +kernel
theorem dX7_undo_60 : decode cX7_undo 60 = .ok (.aload_n 0, 1) := by decide +kernel
theorem dX7_undo_61 : decode cX7_undo 61 = .ok (.getfield 35, 3) := by decide +kernel
theorem dX7_undo_64 : decode cX7_undo 64 = .ok (.invokevirtual 38, 3) := by decide +kernel
theorem dX7_undo_67 : decode cX7_undo 67 = .ok (.ireturn, 1) := by decide +kernel
theorem dX7_mix_0 : decode cX7_mix 0 = .ok (.aload_n 0, 1) := by decide +kernel
theorem dX7_mix_1 : decode cX7_mix 1 = .ok (.ldc2_w 163, 3) := by decide +kernel
theorem dX7_mix_4 : decode cX7_mix 4 = .ok (.aload_n 0, 1) := by decide +kernel
theorem dX7_mix_5 : decode cX7_mix 5 = .ok (.getfield 165, 3) := by decide +kernel
theorem dX7_mix_8 : decode cX7_mix 8 = .ok (.lmul, 1) := by decide +kernel
theorem dX7_mix_9 : decode cX7_mix 9 = .ok (.iload_n 1, 1) := by decide +kernel
theorem dX7_mix_10 : decode cX7_mix 10 = .ok (.i2l, 1) := by decide +kernel
theorem dX7_mix_11 : decode cX7_mix 11 = .ok (.ladd, 1) := by decide +kernel
theorem dX7_mix_12 : decode cX7_mix 12 = .ok (.putfield 165, 3) := by decide +kernel
theorem dX7_mix_15 : decode cX7_mix 15 = .ok (.return_, 1) := by decide +kernel
theorem dX7_mixNode_0 : decode cX7_mixNode 0 = .ok (.iconst 0, 1) := by decide +kernel
theorem dX7_mixNode_1 : decode cX7_mixNode 1 = .ok (.istore_n 2, 1) := by decide +kernel
theorem dX7_mixNode_2 : decode cX7_mixNode 2 = .ok (.iload_n 2, 1) := by decide +kernel
theorem dX7_mixNode_3 : decode cX7_mixNode 3 = .ok (.bipush 9, 2) := by decide +kernel
theorem dX7_mixNode_5 : decode cX7_mixNode 5 = .ok (.if_icmp .ge 19, 3) := by decide +kernel
theorem dX7_mixNode_8 : decode cX7_mixNode 8 = .ok (.aload_n 0, 1) := by decide +kernel
theorem dX7_mixNode_9 : decode cX7_mixNode 9 = .ok (.aload_n 0, 1) := by decide +kernel
theorem dX7_mixNode_10 : decode cX7_mixNode 10 = .ok (.iload_n 1, 1) := by decide +kernel
theorem dX7_mixNode_11 : decode cX7_mixNode 11 = .ok (.iload_n 2, 1) := by decide +kernel
theorem dX7_mixNode_12 : decode cX7_mixNode 12 = .ok (.invokevirtual 154, 3) := by decide +kernel
theorem dX7_mixNode_15 : decode cX7_mixNode 15 = .ok (.invokevirtual 169, 3) := by decide +kernel
theorem dX7_mixNode_18 : decode cX7_mixNode 18 = .ok (.iinc 2 1, 3) := by decide +kernel
theorem dX7_mixNode_21 : decode cX7_mixNode 21 = .ok (.goto (-19), 3) := by decide +kernel
theorem dX7_mixNode_24 : decode cX7_mixNode 24 = .ok (.iconst 0, 1) := by decide +kernel
theorem dX7_mixNode_25 : decode cX7_mixNode 25 = .ok (.istore_n 2, 1) := by decide +kernel
theorem dX7_mixNode_26 : decode cX7_mixNode 26 = .ok (.iload_n 2, 1) := by decide +kernel
theorem dX7_mixNode_27 : decode cX7_mixNode 27 = .ok (.aload_n 0, 1) := by decide +kernel
theorem dX7_mixNode_28 : decode cX7_mixNode 28 = .ok (.iload_n 1, 1) := by decide +kernel
theorem dX7_mixNode_29 : decode cX7_mixNode 29 = .ok (.iconst 3, 1) := by decide +kernel
theorem dX7_mixNode_30 : decode cX7_mixNode 30 = .ok (.invokevirtual 46, 3) := by decide +kernel
theorem dX7_mixNode_33 : decode cX7_mixNode 33 = .ok (.if_icmp .ge 19, 3) := by decide +kernel
theorem dX7_mixNode_36 : decode cX7_mixNode 36 = .ok (.aload_n 0, 1) := by decide +kernel
theorem dX7_mixNode_37 : decode cX7_mixNode 37 = .ok (.aload_n 0, 1) := by decide +kernel
theorem dX7_mixNode_38 : decode cX7_mixNode 38 = .ok (.iload_n 1, 1) := by decide +kernel
theorem dX7_mixNode_39 : decode cX7_mixNode 39 = .ok (.iload_n 2, 1) := by decide +kernel
theorem dX7_mixNode_40 : decode cX7_mixNode 40 = .ok (.invokevirtual 157, 3) := by decide +kernel
theorem dX7_mixNode_43 : decode cX7_mixNode 43 = .ok (.invokevirtual 169, 3) := by decide +kernel
theorem dX7_mixNode_46 : decode cX7_mixNode 46 = .ok (.iinc 2 1, 3) := by decide +kernel
theorem dX7_mixNode_49 : decode cX7_mixNode 49 = .ok (.goto (-23), 3) := by decide +kernel
theorem dX7_mixNode_52 : decode cX7_mixNode 52 = .ok (.iconst 0, 1) := by decide +kernel
theorem dX7_mixNode_53 : decode cX7_mixNode 53 = .ok (.istore_n 2, 1) := by decide +kernel
theorem dX7_mixNode_54 : decode cX7_mixNode 54 = .ok (.iload_n 2, 1) := by decide +kernel
theorem dX7_mixNode_55 : decode cX7_mixNode 55 = .ok (.aload_n 0, 1) := by decide +kernel
theorem dX7_mixNode_56 : decode cX7_mixNode 56 = .ok (.iload_n 1, 1) := by decide +kernel
theorem dX7_mixNode_57 : decode cX7_mixNode 57 = .ok (.bipush 52, 2) := by decide +kernel
theorem dX7_mixNode_59 : decode cX7_mixNode 59 = .ok (.invokevirtual 46, 3) := by decide +kernel
theorem dX7_mixNode_62 : decode cX7_mixNode 62 = .ok (.if_icmp .ge 22, 3) := by decide +kernel
theorem dX7_mixNode_65 : decode cX7_mixNode 65 = .ok (.aload_n 0, 1) := by decide +kernel
theorem dX7_mixNode_66 : decode cX7_mixNode 66 = .ok (.aload_n 0, 1) := by decide +kernel
theorem dX7_mixNode_67 : decode cX7_mixNode 67 = .ok (.iload_n 1, 1) := by decide +kernel
theorem dX7_mixNode_68 : decode cX7_mixNode 68 = .ok (.bipush 53, 2) := by decide +kernel
theorem dX7_mixNode_70 : decode cX7_mixNode 70 = .ok (.iload_n 2, 1) := by decide +kernel
theorem dX7_mixNode_71 : decode cX7_mixNode 71 = .ok (.iadd, 1) := by decide +kernel
theorem dX7_mixNode_72 : decode cX7_mixNode 72 = .ok (.invokevirtual 46, 3) := by decide +kernel
theorem dX7_mixNode_75 : decode cX7_mixNode 75 = .ok (.invokevirtual 169, 3) := by decide +kernel
theorem dX7_mixNode_78 : decode cX7_mixNode 78 = .ok (.iinc 2 1, 3) := by decide +kernel
theorem dX7_mixNode_81 : decode cX7_mixNode 81 = .ok (.goto (-27), 3) := by decide +kernel
theorem dX7_mixNode_84 : decode cX7_mixNode 84 = .ok (.iconst 0, 1) := by decide +kernel
theorem dX7_mixNode_85 : decode cX7_mixNode 85 = .ok (.istore_n 2, 1) := by decide +kernel
theorem dX7_mixNode_86 : decode cX7_mixNode 86 = .ok (.iload_n 2, 1) := by decide +kernel
theorem dX7_mixNode_87 : decode cX7_mixNode 87 = .ok (.aload_n 0, 1) := by decide +kernel
theorem dX7_mixNode_88 : decode cX7_mixNode 88 = .ok (.iload_n 1, 1) := by decide +kernel
theorem dX7_mixNode_89 : decode cX7_mixNode 89 = .ok (.bipush 61, 2) := by decide +kernel
theorem dX7_mixNode_91 : decode cX7_mixNode 91 = .ok (.invokevirtual 46, 3) := by decide +kernel
theorem dX7_mixNode_94 : decode cX7_mixNode 94 = .ok (.if_icmp .ge 67, 3) := by decide +kernel
theorem dX7_mixNode_97 : decode cX7_mixNode 97 = .ok (.aload_n 0, 1) := by decide +kernel
theorem dX7_mixNode_98 : decode cX7_mixNode 98 = .ok (.aload_n 0, 1) := by decide +kernel
theorem dX7_mixNode_99 : decode cX7_mixNode 99 = .ok (.iload_n 1, 1) := by decide +kernel
theorem dX7_mixNode_100 : decode cX7_mixNode 100 = .ok (.bipush 62, 2) := by decide +kernel
theorem dX7_mixNode_102 : decode cX7_mixNode 102 = .ok (.iload_n 2, 1) := by decide +kernel
theorem dX7_mixNode_103 : decode cX7_mixNode 103 = .ok (.iadd, 1) := by decide +kernel
theorem dX7_mixNode_104 : decode cX7_mixNode 104 = .ok (.invokevirtual 46, 3) := by decide +kernel
theorem dX7_mixNode_107 : decode cX7_mixNode 107 = .ok (.invokevirtual 169, 3) := by decide +kernel
theorem dX7_mixNode_110 : decode cX7_mixNode 110 = .ok (.aload_n 0, 1) := by decide +kernel
theorem dX7_mixNode_111 : decode cX7_mixNode 111 = .ok (.aload_n 0, 1) := by decide +kernel
theorem dX7_mixNode_112 : decode cX7_mixNode 112 = .ok (.iload_n 1, 1) := by decide +kernel
theorem dX7_mixNode_113 : decode cX7_mixNode 113 = .ok (.sipush 158, 3) := by decide +kernel
theorem dX7_mixNode_116 : decode cX7_mixNode 116 = .ok (.iload_n 2, 1) := by decide +kernel
theorem dX7_mixNode_117 : decode cX7_mixNode 117 = .ok (.iadd, 1) := by decide +kernel
theorem dX7_mixNode_118 : decode cX7_mixNode 118 = .ok (.invokevirtual 46, 3) := by decide +kernel
theorem dX7_mixNode_121 : decode cX7_mixNode 121 = .ok (.invokevirtual 169, 3) := by decide +kernel
theorem dX7_mixNode_124 : decode cX7_mixNode 124 = .ok (.iconst 0, 1) := by decide +kernel
theorem dX7_mixNode_125 : decode cX7_mixNode 125 = .ok (.istore_n 3, 1) := by decide +kernel
theorem dX7_mixNode_126 : decode cX7_mixNode 126 = .ok (.iload_n 3, 1) := by decide +kernel
theorem dX7_mixNode_127 : decode cX7_mixNode 127 = .ok (.iconst 2, 1) := by decide +kernel
theorem dX7_mixNode_128 : decode cX7_mixNode 128 = .ok (.if_icmp .gt 27, 3) := by decide +kernel
theorem dX7_mixNode_131 : decode cX7_mixNode 131 = .ok (.aload_n 0, 1) := by decide +kernel
theorem dX7_mixNode_132 : decode cX7_mixNode 132 = .ok (.aload_n 0, 1) := by decide +kernel
theorem dX7_mixNode_133 : decode cX7_mixNode 133 = .ok (.iload_n 1, 1) := by decide +kernel
theorem dX7_mixNode_134 : decode cX7_mixNode 134 = .ok (.sipush 254, 3) := by decide +kernel
theorem dX7_mixNode_137 : decode cX7_mixNode 137 = .ok (.iconst 3, 1) := by decide +kernel
theorem dX7_mixNode_138 : decode cX7_mixNode 138 = .ok (.iload_n 2, 1) := by decide +kernel
theorem dX7_mixNode_139 : decode cX7_mixNode 139 = .ok (.imul, 1) := by decide +kernel
theorem dX7_mixNode_140 : decode cX7_mixNode 140 = .ok (.iadd, 1) := by decide +kernel
theorem dX7_mixNode_141 : decode cX7_mixNode 141 = .ok (.iload_n 3, 1) := by decide +kernel
theorem dX7_mixNode_142 : decode cX7_mixNode 142 = .ok (.iadd, 1) := by decide +kernel
theorem dX7_mixNode_143 : decode cX7_mixNode 143 = .ok (.invokevirtual 46, 3) := by decide +kernel
theorem dX7_mixNode_146 : decode cX7_mixNode 146 = .ok (.invokevirtual 169, 3) := by decide +kernel
theorem dX7_mixNode_149 : decode cX7_mixNode 149 = .ok (.iinc 3 1, 3) := by decide +kernel
theorem dX7_mixNode_152 : decode cX7_mixNode 152 = .ok (.goto (-26), 3) := by decide +kernel
theorem dX7_mixNode_155 : decode cX7_mixNode 155 = .ok (.iinc 2 1, 3) := by decide +kernel
theorem dX7_mixNode_158 : decode cX7_mixNode 158 = .ok (.goto (-72), 3) := by decide +kernel
theorem dX7_mixNode_161 : decode cX7_mixNode 161 = .ok (.aload_n 0, 1) := by decide +kernel
theorem dX7_mixNode_162 : decode cX7_mixNode 162 = .ok (.aload_n 0, 1) := by decide +kernel
theorem dX7_mixNode_163 : decode cX7_mixNode 163 = .ok (.iload_n 1, 1) := by decide +kernel
theorem dX7_mixNode_164 : decode cX7_mixNode 164 = .ok (.invokevirtual 148, 3) := by decide +kernel
theorem dX7_mixNode_167 : decode cX7_mixNode 167 = .ok (.invokevirtual 169, 3) := by decide +kernel
theorem dX7_mixNode_170 : decode cX7_mixNode 170 = .ok (.return_, 1) := by decide +kernel
theorem dX7_digest_0 : decode cX7_digest 0 = .ok (.aload_n 0, 1) := by decide +kernel
theorem dX7_digest_1 : decode cX7_digest 1 = .ok (.iconst 0, 1) := by decide +kernel
theorem dX7_digest_2 : decode cX7_digest 2 = .ok (.putfield 31, 3) := by decide +kernel
theorem dX7_digest_5 : decode cX7_digest 5 = .ok (.aload_n 0, 1) := by decide +kernel
theorem dX7_digest_6 : decode cX7_digest 6 = .ok (.ldc2_w 172, 3) := by decide +kernel
theorem dX7_digest_9 : decode cX7_digest 9 = .ok (.putfield 165, 3) := by decide +kernel
theorem dX7_digest_12 : decode cX7_digest 12 = .ok (.aload_n 0, 1) := by decide +kernel
theorem dX7_digest_13 : decode cX7_digest 13 = .ok (.aload_n 0, 1) := by decide +kernel
theorem dX7_digest_14 : decode cX7_digest 14 = .ok (.getfield 35, 3) := by decide +kernel
theorem dX7_digest_17 : decode cX7_digest 17 = .ok (.invokevirtual 169, 3) := by decide +kernel
theorem dX7_digest_20 : decode cX7_digest 20 = .ok (.aload_n 0, 1) := by decide +kernel
theorem dX7_digest_21 : decode cX7_digest 21 = .ok (.aload_n 0, 1) := by decide +kernel
theorem dX7_digest_22 : decode cX7_digest 22 = .ok (.getfield 7, 3) := by decide +kernel
theorem dX7_digest_25 : decode cX7_digest 25 = .ok (.iconst 1, 1) := by decide +kernel
theorem dX7_digest_26 : decode cX7_digest 26 = .ok (.iaload, 1) := by decide +kernel
theorem dX7_digest_27 : decode cX7_digest 27 = .ok (.invokevirtual 169, 3) := by decide +kernel
theorem dX7_digest_30 : decode cX7_digest 30 = .ok (.aload_n 0, 1) := by decide +kernel
theorem dX7_digest_31 : decode cX7_digest 31 = .ok (.aload_n 0, 1) := by decide +kernel
theorem dX7_digest_32 : decode cX7_digest 32 = .ok (.getfield 7, 3) := by decide +kernel
theorem dX7_digest_35 : decode cX7_digest 35 = .ok (.iconst 2, 1) := by decide +kernel
theorem dX7_digest_36 : decode cX7_digest 36 = .ok (.iaload, 1) := by decide +kernel
theorem dX7_digest_37 : decode cX7_digest 37 = .ok (.invokevirtual 169, 3) := by decide +kernel
theorem dX7_digest_40 : decode cX7_digest 40 = .ok (.aload_n 0, 1) := by decide +kernel
theorem dX7_digest_41 : decode cX7_digest 41 = .ok (.aload_n 0, 1) := by decide +kernel
theorem dX7_digest_42 : decode cX7_digest 42 = .ok (.getfield 7, 3) := by decide +kernel
theorem dX7_digest_45 : decode cX7_digest 45 = .ok (.iconst 0, 1) := by decide +kernel
theorem dX7_digest_46 : decode cX7_digest 46 = .ok (.iaload, 1) := by decide +kernel
theorem dX7_digest_47 : decode cX7_digest 47 = .ok (.invokevirtual 169, 3) := by decide +kernel
theorem dX7_digest_50 : decode cX7_digest 50 = .ok (.iconst 0, 1) := by decide +kernel
theorem dX7_digest_51 : decode cX7_digest 51 = .ok (.istore_n 1, 1) := by decide +kernel
theorem dX7_digest_52 : decode cX7_digest 52 = .ok (.iload_n 1, 1) := by decide +kernel
theorem dX7_digest_53 : decode cX7_digest 53 = .ok (.aload_n 0, 1) := by decide +kernel
theorem dX7_digest_54 : decode cX7_digest 54 = .ok (.getfield 7, 3) := by decide +kernel
theorem dX7_digest_57 : decode cX7_digest 57 = .ok (.iconst 0, 1) := by decide +kernel
theorem dX7_digest_58 : decode cX7_digest 58 = .ok (.iaload, 1) := by decide +kernel
theorem dX7_digest_59 : decode cX7_digest 59 = .ok (.if_icmp .ge 14, 3) := by decide +kernel
theorem dX7_digest_62 : decode cX7_digest 62 = .ok (.aload_n 0, 1) := by decide +kernel
theorem dX7_digest_63 : decode cX7_digest 63 = .ok (.iload_n 1, 1) := by decide +kernel
theorem dX7_digest_64 : decode cX7_digest 64 = .ok (.invokevirtual 174, 3) := by decide +kernel
theorem dX7_digest_67 : decode cX7_digest 67 = .ok (.iinc 1 1, 3) := by decide +kernel
theorem dX7_digest_70 : decode cX7_digest 70 = .ok (.goto (-18), 3) := by decide +kernel
theorem dX7_digest_73 : decode cX7_digest 73 = .ok (.iconst 0, 1) := by decide +kernel
theorem dX7_digest_74 : decode cX7_digest 74 = .ok (.istore_n 1, 1) := by decide +kernel
theorem dX7_digest_75 : decode cX7_digest 75 = .ok (.iload_n 1, 1) := by decide +kernel
theorem dX7_digest_76 : decode cX7_digest 76 = .ok (.bipush 7, 2) := by decide +kernel
theorem dX7_digest_78 : decode cX7_digest 78 = .ok (.if_icmp .ge 18, 3) := by decide +kernel
theorem dX7_digest_81 : decode cX7_digest 81 = .ok (.aload_n 0, 1) := by decide +kernel
theorem dX7_digest_82 : decode cX7_digest 82 = .ok (.aload_n 0, 1) := by decide +kernel
theorem dX7_digest_83 : decode cX7_digest 83 = .ok (.iload_n 1, 1) := by decide +kernel
theorem dX7_digest_84 : decode cX7_digest 84 = .ok (.invokevirtual 160, 3) := by decide +kernel
theorem dX7_digest_87 : decode cX7_digest 87 = .ok (.invokevirtual 169, 3) := by decide +kernel
theorem dX7_digest_90 : decode cX7_digest 90 = .ok (.iinc 1 1, 3) := by decide +kernel
theorem dX7_digest_93 : decode cX7_digest 93 = .ok (.goto (-18), 3) := by decide +kernel
theorem dX7_digest_96 : decode cX7_digest 96 = .ok (.aload_n 0, 1) := by decide +kernel
theorem dX7_digest_97 : decode cX7_digest 97 = .ok (.getfield 165, 3) := by decide +kernel
theorem dX7_digest_100 : decode cX7_digest 100 = .ok (.lreturn, 1) := by decide +kernel
