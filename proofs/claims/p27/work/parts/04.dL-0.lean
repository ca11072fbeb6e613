theorem dL_cell_0 : decode cL_cell 0 = .ok (.iload_n 1, 1) := by decide +kernel
theorem dL_cell_1 : decode cL_cell 1 = .ok (.aload_n 0, 1) := by decide +kernel
theorem dL_cell_2 : decode cL_cell 2 = .ok (.arraylength, 1) := by decide +kernel
theorem dL_cell_3 : decode cL_cell 3 = .ok (.if_icmp .ge 9, 3) := by decide +kernel
theorem dL_cell_6 : decode cL_cell 6 = .ok (.aload_n 0, 1) := by decide +kernel
theorem dL_cell_7 : decode cL_cell 7 = .ok (.iload_n 1, 1) := by decide +kernel
theorem dL_cell_8 : decode cL_cell 8 = .ok (.iaload, 1) := by decide +kernel
theorem dL_cell_9 : decode cL_cell 9 = .ok (.goto 9, 3) := by decide +kernel
theorem dL_cell_12 : decode cL_cell 12 = .ok (.ldc 7, 2) := by decide +kernel
theorem dL_cell_14 : decode cL_cell 14 = .ok (.iload_n 1, 1) := by decide +kernel
theorem dL_cell_15 : decode cL_cell 15 = .ok (.iconst 3, 1) := by decide +kernel
theorem dL_cell_16 : decode cL_cell 16 = .ok (.iadd, 1) := by decide +kernel
theorem dL_cell_17 : decode cL_cell 17 = .ok (.imul, 1) := by decide +kernel
theorem dL_cell_18 : decode cL_cell 18 = .ok (.ireturn, 1) := by decide +kernel
theorem dL_low_0 : decode cL_low 0 = .ok (.iload_n 0, 1) := by decide +kernel
theorem dL_low_1 : decode cL_low 1 = .ok (.ldc 8, 2) := by decide +kernel
theorem dL_low_3 : decode cL_low 3 = .ok (.iand, 1) := by decide +kernel
theorem dL_low_4 : decode cL_low 4 = .ok (.iload_n 1, 1) := by decide +kernel
theorem dL_low_5 : decode cL_low 5 = .ok (.irem, 1) := by decide +kernel
theorem dL_low_6 : decode cL_low 6 = .ok (.ireturn, 1) := by decide +kernel
theorem dL_adds_0 : decode cL_adds 0 = .ok (.aload_n 0, 1) := by decide +kernel
theorem dL_adds_1 : decode cL_adds 1 = .ok (.iload_n 1, 1) := by decide +kernel
theorem dL_adds_2 : decode cL_adds 2 = .ok (.iload_n 2, 1) := by decide +kernel
theorem dL_adds_3 : decode cL_adds 3 = .ok (.invokevirtual 9, 3) := by decide +kernel
theorem dL_adds_6 : decode cL_adds 6 = .ok (.ireturn, 1) := by decide +kernel
theorem dL_adds_7 : decode cL_adds 7 = .ok (.astore_n 3, 1) := by decide +kernel
theorem dL_adds_8 : decode cL_adds 8 = .ok (.ldc 17, 2) := by decide +kernel
theorem dL_adds_10 : decode cL_adds 10 = .ok (.ireturn, 1) := by decide +kernel
theorem dL_adds_11 : decode cL_adds 11 = .ok (.astore_n 3, 1) := by decide +kernel
theorem dL_adds_12 : decode cL_adds 12 = .ok (.ldc 20, 2) := by decide +kernel
theorem dL_adds_14 : decode cL_adds 14 = .ok (.ireturn, 1) := by decide +kernel
theorem dL_adds_15 : decode cL_adds 15 = .ok (.astore_n 3, 1) := by decide +kernel
theorem dL_adds_16 : decode cL_adds 16 = .ok (.ldc 23, 2) := by decide +kernel
theorem dL_adds_18 : decode cL_adds 18 = .ok (.ireturn, 1) := by decide +kernel
theorem dL_puts_0 : decode cL_puts 0 = .ok (.aload_n 0, 1) := by decide +kernel
theorem dL_puts_1 : decode cL_puts 1 = .ok (.iload_n 1, 1) := by decide +kernel
theorem dL_puts_2 : decode cL_puts 2 = .ok (.iload_n 2, 1) := by decide +kernel
theorem dL_puts_3 : decode cL_puts 3 = .ok (.invokevirtual 24, 3) := by decide +kernel
theorem dL_puts_6 : decode cL_puts 6 = .ok (.ifCond .eq 7, 3) := by decide +kernel
theorem dL_puts_9 : decode cL_puts 9 = .ok (.iconst 1, 1) := by decide +kernel
theorem dL_puts_10 : decode cL_puts 10 = .ok (.goto 4, 3) := by decide +kernel
theorem dL_puts_13 : decode cL_puts 13 = .ok (.iconst 0, 1) := by decide +kernel
theorem dL_puts_14 : decode cL_puts 14 = .ok (.ireturn, 1) := by decide +kernel
theorem dL_puts_15 : decode cL_puts 15 = .ok (.astore_n 3, 1) := by decide +kernel
theorem dL_puts_16 : decode cL_puts 16 = .ok (.ldc 17, 2) := by decide +kernel
theorem dL_puts_18 : decode cL_puts 18 = .ok (.ireturn, 1) := by decide +kernel
theorem dL_puts_19 : decode cL_puts 19 = .ok (.astore_n 3, 1) := by decide +kernel
theorem dL_puts_20 : decode cL_puts 20 = .ok (.ldc 20, 2) := by decide +kernel
theorem dL_puts_22 : decode cL_puts 22 = .ok (.ireturn, 1) := by decide +kernel
theorem dL_puts_23 : decode cL_puts 23 = .ok (.astore_n 3, 1) := by decide +kernel
theorem dL_puts_24 : decode cL_puts 24 = .ok (.ldc 23, 2) := by decide +kernel
theorem dL_puts_26 : decode cL_puts 26 = .ok (.ireturn, 1) := by decide +kernel
theorem dL_drops_0 : decode cL_drops 0 = .ok (.aload_n 0, 1) := by decide +kernel
theorem dL_drops_1 : decode cL_drops 1 = .ok (.iload_n 1, 1) := by decide +kernel
theorem dL_drops_2 : decode cL_drops 2 = .ok (.iload_n 2, 1) := by decide +kernel
theorem dL_drops_3 : decode cL_drops 3 = .ok (.invokevirtual 28, 3) := by decide +kernel
theorem dL_drops_6 : decode cL_drops 6 = .ok (.ifCond .eq 7, 3) := by decide +kernel
theorem dL_drops_9 : decode cL_drops 9 = .ok (.iconst 1, 1) := by decide +kernel
theorem dL_drops_10 : decode cL_drops 10 = .ok (.goto 4, 3) := by decide +kernel
theorem dL_drops_13 : decode cL_drops 13 = .ok (.iconst 0, 1) := by decide +kernel
theorem dL_drops_14 : decode cL_drops 14 = .ok (.ireturn, 1) := by decide +kernel
theorem dL_drops_15 : decode cL_drops 15 = .ok (.astore_n 3, 1) := by decide +kernel
theorem dL_drops_16 : decode cL_drops 16 = .ok (.ldc 17, 2) := by decide +kernel
theorem dL_drops_18 : decode cL_drops 18 = .ok (.ireturn, 1) := by decide +kernel
theorem dL_drops_19 : decode cL_drops 19 = .ok (.astore_n 3, 1) := by decide +kernel
theorem dL_drops_20 : decode cL_drops 20 = .ok (.ldc 20, 2) := by decide +kernel
theorem dL_drops_22 : decode cL_drops 22 = .ok (.ireturn, 1) := by decide +kernel
theorem dL_series_0 : decode cL_series 0 = .ok (.aload_n 0, 1) := by decide +kernel
theorem dL_series_1 : decode cL_series 1 = .ok (.iload_n 1, 1) := by decide +kernel
theorem dL_series_2 : decode cL_series 2 = .ok (.iload_n 2, 1) := by decide +kernel
theorem dL_series_3 : decode cL_series 3 = .ok (.iload_n 3, 1) := by decide +kernel
theorem dL_series_4 : decode cL_series 4 = .ok (.iload 4, 2) := by decide +kernel
theorem dL_series_6 : decode cL_series 6 = .ok (.invokevirtual 31, 3) := by decide +kernel
theorem dL_series_9 : decode cL_series 9 = .ok (.ireturn, 1) := by decide +kernel
theorem dL_series_10 : decode cL_series 10 = .ok (.astore 5, 2) := by decide +kernel
theorem dL_series_12 : decode cL_series 12 = .ok (.ldc 17, 2) := by decide +kernel
theorem dL_series_14 : decode cL_series 14 = .ok (.ireturn, 1) := by decide +kernel
theorem dL_series_15 : decode cL_series 15 = .ok (.astore 5, 2) := by decide +kernel
theorem dL_series_17 : decode cL_series 17 = .ok (.ldc 20, 2) := by decide +kernel
theorem dL_series_19 : decode cL_series 19 = .ok (.ireturn, 1) := by decide +kernel
theorem dL_sizes_0 : decode cL_sizes 0 = .ok (.aload_n 0, 1) := by decide +kernel
theorem dL_sizes_1 : decode cL_sizes 1 = .ok (.iload_n 1, 1) := by decide +kernel
theorem dL_sizes_2 : decode cL_sizes 2 = .ok (.iload_n 2, 1) := by decide +kernel
theorem dL_sizes_3 : decode cL_sizes 3 = .ok (.invokevirtual 35, 3) := by decide +kernel
theorem dL_sizes_6 : decode cL_sizes 6 = .ok (.ireturn, 1) := by decide +kernel
theorem dL_sizes_7 : decode cL_sizes 7 = .ok (.astore_n 3, 1) := by decide +kernel
theorem dL_sizes_8 : decode cL_sizes 8 = .ok (.ldc 20, 2) := by decide +kernel
theorem dL_sizes_10 : decode cL_sizes 10 = .ok (.ireturn, 1) := by decide +kernel
theorem dL_builds_0 : decode cL_builds 0 = .ok (.aload_n 0, 1) := by decide +kernel
theorem dL_builds_1 : decode cL_builds 1 = .ok (.iload_n 1, 1) := by decide +kernel
theorem dL_builds_2 : decode cL_builds 2 = .ok (.invokevirtual 38, 3) := by decide +kernel
theorem dL_builds_5 : decode cL_builds 5 = .ok (.ireturn, 1) := by decide +kernel
theorem dL_builds_6 : decode cL_builds 6 = .ok (.astore_n 2, 1) := by decide +kernel
theorem dL_builds_7 : decode cL_builds 7 = .ok (.ldc 17, 2) := by decide +kernel
theorem dL_builds_9 : decode cL_builds 9 = .ok (.ireturn, 1) := by decide +kernel
theorem dL_finds_0 : decode cL_finds 0 = .ok (.aload_n 0, 1) := by decide +kernel
theorem dL_finds_1 : decode cL_finds 1 = .ok (.iload_n 1, 1) := by decide +kernel
theorem dL_finds_2 : decode cL_finds 2 = .ok (.iload_n 2, 1) := by decide +kernel
theorem dL_finds_3 : decode cL_finds 3 = .ok (.invokevirtual 42, 3) := by decide +kernel
theorem dL_finds_6 : decode cL_finds 6 = .ok (.ireturn, 1) := by decide +kernel
theorem dL_finds_7 : decode cL_finds 7 = .ok (.astore_n 3, 1) := by decide +kernel
theorem dL_finds_8 : decode cL_finds 8 = .ok (.ldc 17, 2) := by decide +kernel
theorem dL_finds_10 : decode cL_finds 10 = .ok (.ireturn, 1) := by decide +kernel
theorem dL_finds_11 : decode cL_finds 11 = .ok (.astore_n 3, 1) := by decide +kernel
theorem dL_finds_12 : decode cL_finds 12 = .ok (.ldc 20, 2) := by decide +kernel
theorem dL_finds_14 : decode cL_finds 14 = .ok (.ireturn, 1) := by decide +kernel
theorem dL_nodeOf_0 : decode cL_nodeOf 0 = .ok (.aload_n 0, 1) := by decide +kernel
theorem dL_nodeOf_1 : decode cL_nodeOf 1 = .ok (.iload_n 1, 1) := by decide +kernel
theorem dL_nodeOf_2 : decode cL_nodeOf 2 = .ok (.iload_n 2, 1) := by decide +kernel
theorem dL_nodeOf_3 : decode cL_nodeOf 3 = .ok (.invokevirtual 45, 3) := by decide +kernel
theorem dL_nodeOf_6 : decode cL_nodeOf 6 = .ok (.ireturn, 1) := by decide +kernel
theorem dL_nodeOf_7 : decode cL_nodeOf 7 = .ok (.astore_n 3, 1) := by decide +kernel
theorem dL_nodeOf_8 : decode cL_nodeOf 8 = .ok (.ldc 17, 2) := by decide +kernel
theorem dL_nodeOf_10 : decode cL_nodeOf 10 = .ok (.ireturn, 1) := by decide +kernel
theorem dL_nodeOf_11 : decode cL_nodeOf 11 = .ok (.astore_n 3, 1) := by decide +kernel
theorem dL_nodeOf_12 : decode cL_nodeOf 12 = .ok (.ldc 20, 2) := by decide +kernel
theorem dL_nodeOf_14 : decode cL_nodeOf 14 = .ok (.ireturn, 1) := by decide +kernel
theorem dL_keyOf_0 : decode cL_keyOf 0 = .ok (.aload_n 0, 1) := by decide +kernel
theorem dL_keyOf_1 : decode cL_keyOf 1 = .ok (.iload_n 1, 1) := by decide +kernel
theorem dL_keyOf_2 : decode cL_keyOf 2 = .ok (.iload_n 2, 1) := by decide +kernel
theorem dL_keyOf_3 : decode cL_keyOf 3 = .ok (.invokevirtual 48, 3) := by decide +kernel
theorem dL_keyOf_6 : decode cL_keyOf 6 = .ok (.ireturn, 1) := by decide +kernel
theorem dL_keyOf_7 : decode cL_keyOf 7 = .ok (.astore_n 3, 1) := by decide +kernel
theorem dL_keyOf_8 : decode cL_keyOf 8 = .ok (.ldc 17, 2) := by decide +kernel
theorem dL_keyOf_10 : decode cL_keyOf 10 = .ok (.ireturn, 1) := by decide +kernel
theorem dL_keyOf_11 : decode cL_keyOf 11 = .ok (.astore_n 3, 1) := by decide +kernel
theorem dL_keyOf_12 : decode cL_keyOf 12 = .ok (.ldc 20, 2) := by decide +kernel
theorem dL_keyOf_14 : decode cL_keyOf 14 = .ok (.ireturn, 1) := by decide +kernel
theorem dL_baseOf_0 : decode cL_baseOf 0 = .ok (.aload_n 0, 1) := by decide +kernel
theorem dL_baseOf_1 : decode cL_baseOf 1 = .ok (.iload_n 1, 1) := by decide +kernel
theorem dL_baseOf_2 : decode cL_baseOf 2 = .ok (.iload_n 2, 1) := by decide +kernel
theorem dL_baseOf_3 : decode cL_baseOf 3 = .ok (.invokevirtual 51, 3) := by decide +kernel
theorem dL_baseOf_6 : decode cL_baseOf 6 = .ok (.ireturn, 1) := by decide +kernel
theorem dL_baseOf_7 : decode cL_baseOf 7 = .ok (.astore_n 3, 1) := by decide +kernel
theorem dL_baseOf_8 : decode cL_baseOf 8 = .ok (.ldc 17, 2) := by decide +kernel
theorem dL_baseOf_10 : decode cL_baseOf 10 = .ok (.ireturn, 1) := by decide +kernel
theorem dL_baseOf_11 : decode cL_baseOf 11 = .ok (.astore_n 3, 1) := by decide +kernel
theorem dL_baseOf_12 : decode cL_baseOf 12 = .ok (.ldc 20, 2) := by decide +kernel
theorem dL_baseOf_14 : decode cL_baseOf 14 = .ok (.ireturn, 1) := by decide +kernel
theorem dL_bufferOf_0 : decode cL_bufferOf 0 = .ok (.aload_n 0, 1) := by decide +kernel
theorem dL_bufferOf_1 : decode cL_bufferOf 1 = .ok (.iload_n 1, 1) := by decide +kernel
theorem dL_bufferOf_2 : decode cL_bufferOf 2 = .ok (.iload_n 2, 1) := by decide +kernel
theorem dL_bufferOf_3 : decode cL_bufferOf 3 = .ok (.invokevirtual 54, 3) := by decide +kernel
theorem dL_bufferOf_6 : decode cL_bufferOf 6 = .ok (.ireturn, 1) := by decide +kernel
theorem dL_bufferOf_7 : decode cL_bufferOf 7 = .ok (.astore_n 3, 1) := by decide +kernel
theorem dL_bufferOf_8 : decode cL_bufferOf 8 = .ok (.ldc 17, 2) := by decide +kernel
theorem dL_bufferOf_10 : decode cL_bufferOf 10 = .ok (.ireturn, 1) := by decide +kernel
theorem dL_bufferOf_11 : decode cL_bufferOf 11 = .ok (.astore_n 3, 1) := by decide +kernel
theorem dL_bufferOf_12 : decode cL_bufferOf 12 = .ok (.ldc 20, 2) := by decide +kernel
theorem dL_bufferOf_14 : decode cL_bufferOf 14 = .ok (.ireturn, 1) := by decide +kernel
theorem dL_countOf_0 : decode cL_countOf 0 = .ok (.aload_n 0, 1) := by decide +kernel
theorem dL_countOf_1 : decode cL_countOf 1 = .ok (.iload_n 1, 1) := by decide +kernel
theorem dL_countOf_2 : decode cL_countOf 2 = .ok (.invokevirtual 57, 3) := by decide +kernel
theorem dL_countOf_5 : decode cL_countOf 5 = .ok (.ireturn, 1) := by decide +kernel
theorem dL_countOf_6 : decode cL_countOf 6 = .ok (.astore_n 2, 1) := by decide +kernel
theorem dL_countOf_7 : decode cL_countOf 7 = .ok (.ldc 20, 2) := by decide +kernel
theorem dL_countOf_9 : decode cL_countOf 9 = .ok (.ireturn, 1) := by decide +kernel
theorem dL_inBase_0 : decode cL_inBase 0 = .ok (.iconst (-1), 1) := by decide +kernel
theorem dL_inBase_1 : decode cL_inBase 1 = .ok (.istore 4, 2) := by decide +kernel
theorem dL_inBase_3 : decode cL_inBase 3 = .ok (.iconst 0, 1) := by decide +kernel
theorem dL_inBase_4 : decode cL_inBase 4 = .ok (.istore 5, 2) := by decide +kernel
theorem dL_inBase_6 : decode cL_inBase 6 = .ok (.iload 5, 2) := by decide +kernel
theorem dL_inBase_8 : decode cL_inBase 8 = .ok (.aload_n 1, 1) := by decide +kernel
theorem dL_inBase_9 : decode cL_inBase 9 = .ok (.iload_n 2, 1) := by decide +kernel
theorem dL_inBase_10 : decode cL_inBase 10 = .ok (.iaload, 1) := by decide +kernel
theorem dL_inBase_11 : decode cL_inBase 11 = .ok (.if_icmp .ge 30, 3) := by decide +kernel
theorem dL_inBase_14 : decode cL_inBase 14 = .ok (.aload_n 0, 1) := by decide +kernel
theorem dL_inBase_15 : decode cL_inBase 15 = .ok (.iload 5, 2) := by decide +kernel
theorem dL_inBase_17 : decode cL_inBase 17 = .ok (.iaload, 1) := by decide +kernel
theorem dL_inBase_18 : decode cL_inBase 18 = .ok (.sipush 10000, 3) := by decide +kernel
theorem dL_inBase_21 : decode cL_inBase 21 = .ok (.irem, 1) := by decide +kernel
theorem dL_inBase_22 : decode cL_inBase 22 = .ok (.iload_n 3, 1) := by decide +kernel
theorem dL_inBase_23 : decode cL_inBase 23 = .ok (.if_icmp .ne 8, 3) := by decide +kernel
theorem dL_inBase_26 : decode cL_inBase 26 = .ok (.iload 5, 2) := by decide +kernel
theorem dL_inBase_28 : decode cL_inBase 28 = .ok (.goto 5, 3) := by decide +kernel
theorem dL_inBase_31 : decode cL_inBase 31 = .ok (.iload 4, 2) := by decide +kernel
theorem dL_inBase_33 : decode cL_inBase 33 = .ok (.istore 4, 2) := by decide +kernel
theorem dL_inBase_35 : decode cL_inBase 35 = .ok (.iinc 5 1, 3) := by decide +kernel
theorem dL_inBase_38 : decode cL_inBase 38 = .ok (.goto (-32), 3) := by decide +kernel
theorem dL_inBase_41 : decode cL_inBase 41 = .ok (.iload 4, 2) := by decide +kernel
theorem dL_inBase_43 : decode cL_inBase 43 = .ok (.ireturn, 1) := by decide +kernel
theorem dL_inBuffer_0 : decode cL_inBuffer 0 = .ok (.iconst (-1), 1) := by decide +kernel
theorem dL_inBuffer_1 : decode cL_inBuffer 1 = .ok (.istore 4, 2) := by decide +kernel
theorem dL_inBuffer_3 : decode cL_inBuffer 3 = .ok (.iconst 0, 1) := by decide +kernel
theorem dL_inBuffer_4 : decode cL_inBuffer 4 = .ok (.istore 5, 2) := by decide +kernel
theorem dL_inBuffer_6 : decode cL_inBuffer 6 = .ok (.iload 5, 2) := by decide +kernel
theorem dL_inBuffer_8 : decode cL_inBuffer 8 = .ok (.aload_n 1, 1) := by decide +kernel
theorem dL_inBuffer_9 : decode cL_inBuffer 9 = .ok (.bipush 8, 2) := by decide +kernel
theorem dL_inBuffer_11 : decode cL_inBuffer 11 = .ok (.iload_n 2, 1) := by decide +kernel
theorem dL_inBuffer_12 : decode cL_inBuffer 12 = .ok (.iadd, 1) := by decide +kernel
theorem dL_inBuffer_13 : decode cL_inBuffer 13 = .ok (.iaload, 1) := by decide +kernel
theorem dL_inBuffer_14 : decode cL_inBuffer 14 = .ok (.if_icmp .ge 31, 3) := by decide +kernel
theorem dL_inBuffer_17 : decode cL_inBuffer 17 = .ok (.aload_n 0, 1) := by decide +kernel
theorem dL_inBuffer_18 : decode cL_inBuffer 18 = .ok (.bipush 8, 2) := by decide +kernel
theorem dL_inBuffer_20 : decode cL_inBuffer 20 = .ok (.iload_n 2, 1) := by decide +kernel
theorem dL_inBuffer_21 : decode cL_inBuffer 21 = .ok (.imul, 1) := by decide +kernel
theorem dL_inBuffer_22 : decode cL_inBuffer 22 = .ok (.iload 5, 2) := by decide +kernel
theorem dL_inBuffer_24 : decode cL_inBuffer 24 = .ok (.iadd, 1) := by decide +kernel
theorem dL_inBuffer_25 : decode cL_inBuffer 25 = .ok (.iaload, 1) := by decide +kernel
theorem dL_inBuffer_26 : decode cL_inBuffer 26 = .ok (.iload_n 3, 1) := by decide +kernel
theorem dL_inBuffer_27 : decode cL_inBuffer 27 = .ok (.if_icmp .ne 8, 3) := by decide +kernel
theorem dL_inBuffer_30 : decode cL_inBuffer 30 = .ok (.iload 5, 2) := by decide +kernel
theorem dL_inBuffer_32 : decode cL_inBuffer 32 = .ok (.goto 5, 3) := by decide +kernel
theorem dL_inBuffer_35 : decode cL_inBuffer 35 = .ok (.iload 4, 2) := by decide +kernel
theorem dL_inBuffer_37 : decode cL_inBuffer 37 = .ok (.istore 4, 2) := by decide +kernel
theorem dL_inBuffer_39 : decode cL_inBuffer 39 = .ok (.iinc 5 1, 3) := by decide +kernel
theorem dL_inBuffer_42 : decode cL_inBuffer 42 = .ok (.goto (-36), 3) := by decide +kernel
theorem dL_inBuffer_45 : decode cL_inBuffer 45 = .ok (.iload 4, 2) := by decide +kernel
theorem dL_inBuffer_47 : decode cL_inBuffer 47 = .ok (.ireturn, 1) := by decide +kernel
theorem dL_has_0 : decode cL_has 0 = .ok (.aload_n 0, 1) := by decide +kernel
theorem dL_has_1 : decode cL_has 1 = .ok (.aload_n 2, 1) := by decide +kernel
theorem dL_has_2 : decode cL_has 2 = .ok (.iload_n 3, 1) := by decide +kernel
theorem dL_has_3 : decode cL_has 3 = .ok (.iload 4, 2) := by decide +kernel
theorem dL_has_5 : decode cL_has 5 = .ok (.invokestatic 60, 3) := by decide +kernel
theorem dL_has_8 : decode cL_has 8 = .ok (.istore 5, 2) := by decide +kernel
theorem dL_has_10 : decode cL_has 10 = .ok (.iload 5, 2) := by decide +kernel
theorem dL_has_12 : decode cL_has 12 = .ok (.ifCond .lt 13, 3) := by decide +kernel
theorem dL_has_15 : decode cL_has 15 = .ok (.aload_n 0, 1) := by decide +kernel
theorem dL_has_16 : decode cL_has 16 = .ok (.iload 5, 2) := by decide +kernel
theorem dL_has_18 : decode cL_has 18 = .ok (.iaload, 1) := by decide +kernel
theorem dL_has_19 : decode cL_has 19 = .ok (.sipush 10000, 3) := by decide +kernel
theorem dL_has_22 : decode cL_has 22 = .ok (.if_icmp .lt 14, 3) := by decide +kernel
theorem dL_has_25 : decode cL_has 25 = .ok (.aload_n 1, 1) := by decide +kernel
theorem dL_has_26 : decode cL_has 26 = .ok (.aload_n 2, 1) := by decide +kernel
theorem dL_has_27 : decode cL_has 27 = .ok (.iload_n 3, 1) := by decide +kernel
theorem dL_has_28 : decode cL_has 28 = .ok (.iload 4, 2) := by decide +kernel
theorem dL_has_30 : decode cL_has 30 = .ok (.invokestatic 66, 3) := by decide +kernel
theorem dL_has_33 : decode cL_has 33 = .ok (.ifCond .lt 7, 3) := by decide +kernel
theorem dL_has_36 : decode cL_has 36 = .ok (.iconst 1, 1) := by decide +kernel
theorem dL_has_37 : decode cL_has 37 = .ok (.goto 4, 3) := by decide +kernel
theorem dL_has_40 : decode cL_has 40 = .ok (.iconst 0, 1) := by decide +kernel
theorem dL_has_41 : decode cL_has 41 = .ok (.ireturn, 1) := by decide +kernel
theorem dL_marked_0 : decode cL_marked 0 = .ok (.iconst 0, 1) := by decide +kernel
theorem dL_marked_1 : decode cL_marked 1 = .ok (.istore_n 3, 1) := by decide +kernel
theorem dL_marked_2 : decode cL_marked 2 = .ok (.iconst 0, 1) := by decide +kernel
theorem dL_marked_3 : decode cL_marked 3 = .ok (.istore 4, 2) := by decide +kernel
theorem dL_marked_5 : decode cL_marked 5 = .ok (.iload 4, 2) := by decide +kernel
theorem dL_marked_7 : decode cL_marked 7 = .ok (.aload_n 1, 1) := by decide +kernel
theorem dL_marked_8 : decode cL_marked 8 = .ok (.iload_n 2, 1) := by decide +kernel
theorem dL_marked_9 : decode cL_marked 9 = .ok (.iaload, 1) := by decide +kernel
theorem dL_marked_10 : decode cL_marked 10 = .ok (.if_icmp .ge 20, 3) := by decide +kernel
theorem dL_marked_13 : decode cL_marked 13 = .ok (.iload_n 3, 1) := by decide +kernel
theorem dL_marked_14 : decode cL_marked 14 = .ok (.aload_n 0, 1) := by decide +kernel
theorem dL_marked_15 : decode cL_marked 15 = .ok (.iload 4, 2) := by decide +kernel
theorem dL_marked_17 : decode cL_marked 17 = .ok (.iaload, 1) := by decide +kernel
theorem dL_marked_18 : decode cL_marked 18 = .ok (.sipush 10000, 3) := by decide +kernel
theorem dL_marked_21 : decode cL_marked 21 = .ok (.idiv, 1) := by decide +kernel
theorem dL_marked_22 : decode cL_marked 22 = .ok (.iadd, 1) := by decide +kernel
theorem dL_marked_23 : decode cL_marked 23 = .ok (.istore_n 3, 1) := by decide +kernel
theorem dL_marked_24 : decode cL_marked 24 = .ok (.iinc 4 1, 3) := by decide +kernel
theorem dL_marked_27 : decode cL_marked 27 = .ok (.goto (-22), 3) := by decide +kernel
theorem dL_marked_30 : decode cL_marked 30 = .ok (.iload_n 3, 1) := by decide +kernel
theorem dL_marked_31 : decode cL_marked 31 = .ok (.ireturn, 1) := by decide +kernel
theorem dL_settle_0 : decode cL_settle 0 = .ok (.bipush 40, 2) := by decide +kernel
theorem dL_settle_2 : decode cL_settle 2 = .ok (.newarray .int, 2) := by decide +kernel
theorem dL_settle_4 : decode cL_settle 4 = .ok (.astore 4, 2) := by decide +kernel
theorem dL_settle_6 : decode cL_settle 6 = .ok (.iconst 0, 1) := by decide +kernel
theorem dL_settle_7 : decode cL_settle 7 = .ok (.istore 5, 2) := by decide +kernel
theorem dL_settle_9 : decode cL_settle 9 = .ok (.iconst 0, 1) := by decide +kernel
theorem dL_settle_10 : decode cL_settle 10 = .ok (.istore 6, 2) := by decide +kernel
theorem dL_settle_12 : decode cL_settle 12 = .ok (.iload 6, 2) := by decide +kernel
theorem dL_settle_14 : decode cL_settle 14 = .ok (.aload_n 2, 1) := by decide +kernel
theorem dL_settle_15 : decode cL_settle 15 = .ok (.iload_n 3, 1) := by decide +kernel
theorem dL_settle_16 : decode cL_settle 16 = .ok (.iaload, 1) := by decide +kernel
theorem dL_settle_17 : decode cL_settle 17 = .ok (.aload_n 2, 1) := by decide +kernel
theorem dL_settle_18 : decode cL_settle 18 = .ok (.bipush 8, 2) := by decide +kernel
theorem dL_settle_20 : decode cL_settle 20 = .ok (.iload_n 3, 1) := by decide +kernel
theorem dL_settle_21 : decode cL_settle 21 = .ok (.iadd, 1) := by decide +kernel
theorem dL_settle_22 : decode cL_settle 22 = .ok (.iaload, 1) := by decide +kernel
theorem dL_settle_23 : decode cL_settle 23 = .ok (.iadd, 1) := by decide +kernel
theorem dL_settle_24 : decode cL_settle 24 = .ok (.if_icmp .ge 96, 3) := by decide +kernel
theorem dL_settle_27 : decode cL_settle 27 = .ok (.iload 6, 2) := by decide +kernel
theorem dL_settle_29 : decode cL_settle 29 = .ok (.aload_n 2, 1) := by decide +kernel
theorem dL_settle_30 : decode cL_settle 30 = .ok (.iload_n 3, 1) := by decide +kernel
theorem dL_settle_31 : decode cL_settle 31 = .ok (.iaload, 1) := by decide +kernel
theorem dL_settle_32 : decode cL_settle 32 = .ok (.if_icmp .ge 10, 3) := by decide +kernel
theorem dL_settle_35 : decode cL_settle 35 = .ok (.aload_n 0, 1) := by decide +kernel
theorem dL_settle_36 : decode cL_settle 36 = .ok (.iload 6, 2) := by decide +kernel
theorem dL_settle_38 : decode cL_settle 38 = .ok (.iaload, 1) := by decide +kernel
theorem dL_settle_39 : decode cL_settle 39 = .ok (.goto 16, 3) := by decide +kernel
theorem dL_settle_42 : decode cL_settle 42 = .ok (.aload_n 1, 1) := by decide +kernel
theorem dL_settle_43 : decode cL_settle 43 = .ok (.bipush 8, 2) := by decide +kernel
theorem dL_settle_45 : decode cL_settle 45 = .ok (.iload_n 3, 1) := by decide +kernel
theorem dL_settle_46 : decode cL_settle 46 = .ok (.imul, 1) := by decide +kernel
theorem dL_settle_47 : decode cL_settle 47 = .ok (.iload 6, 2) := by decide +kernel
theorem dL_settle_49 : decode cL_settle 49 = .ok (.iadd, 1) := by decide +kernel
theorem dL_settle_50 : decode cL_settle 50 = .ok (.aload_n 2, 1) := by decide +kernel
theorem dL_settle_51 : decode cL_settle 51 = .ok (.iload_n 3, 1) := by decide +kernel
theorem dL_settle_52 : decode cL_settle 52 = .ok (.iaload, 1) := by decide +kernel
theorem dL_settle_53 : decode cL_settle 53 = .ok (.isub, 1) := by decide +kernel
theorem dL_settle_54 : decode cL_settle 54 = .ok (.iaload, 1) := by decide +kernel
theorem dL_settle_55 : decode cL_settle 55 = .ok (.istore 7, 2) := by decide +kernel
theorem dL_settle_57 : decode cL_settle 57 = .ok (.iload 7, 2) := by decide +kernel
theorem dL_settle_59 : decode cL_settle 59 = .ok (.sipush 10000, 3) := by decide +kernel
theorem dL_settle_62 : decode cL_settle 62 = .ok (.if_icmp .ge 52, 3) := by decide +kernel
theorem dL_settle_65 : decode cL_settle 65 = .ok (.iload 5, 2) := by decide +kernel
theorem dL_settle_67 : decode cL_settle 67 = .ok (.istore 8, 2) := by decide +kernel
theorem dL_settle_69 : decode cL_settle 69 = .ok (.iload 8, 2) := by decide +kernel
theorem dL_settle_71 : decode cL_settle 71 = .ok (.ifCond .le 33, 3) := by decide +kernel
theorem dL_settle_74 : decode cL_settle 74 = .ok (.aload 4, 2) := by decide +kernel
theorem dL_settle_76 : decode cL_settle 76 = .ok (.iload 8, 2) := by decide +kernel
theorem dL_settle_78 : decode cL_settle 78 = .ok (.iconst 1, 1) := by decide +kernel
theorem dL_settle_79 : decode cL_settle 79 = .ok (.isub, 1) := by decide +kernel
theorem dL_settle_80 : decode cL_settle 80 = .ok (.iaload, 1) := by decide +kernel
theorem dL_settle_81 : decode cL_settle 81 = .ok (.iload 7, 2) := by decide +kernel
theorem dL_settle_83 : decode cL_settle 83 = .ok (.if_icmp .le 21, 3) := by decide +kernel
theorem dL_settle_86 : decode cL_settle 86 = .ok (.aload 4, 2) := by decide +kernel
theorem dL_settle_88 : decode cL_settle 88 = .ok (.iload 8, 2) := by decide +kernel
theorem dL_settle_90 : decode cL_settle 90 = .ok (.aload 4, 2) := by decide +kernel
theorem dL_settle_92 : decode cL_settle 92 = .ok (.iload 8, 2) := by decide +kernel
theorem dL_settle_94 : decode cL_settle 94 = .ok (.iconst 1, 1) := by decide +kernel
theorem dL_settle_95 : decode cL_settle 95 = .ok (.isub, 1) := by decide +kernel
theorem dL_settle_96 : decode cL_settle 96 = .ok (.iaload, 1) := by decide +kernel
theorem dL_settle_97 : decode cL_settle 97 = .ok (.iastore, 1) := by decide +kernel
theorem dL_settle_98 : decode cL_settle 98 = .ok (.iinc 8 (-1), 3) := by decide +kernel
theorem dL_settle_101 : decode cL_settle 101 = .ok (.goto (-32), 3) := by decide +kernel
theorem dL_settle_104 : decode cL_settle 104 = .ok (.aload 4, 2) := by decide +kernel
theorem dL_settle_106 : decode cL_settle 106 = .ok (.iload 8, 2) := by decide +kernel
theorem dL_settle_108 : decode cL_settle 108 = .ok (.iload 7, 2) := by decide +kernel
theorem dL_settle_110 : decode cL_settle 110 = .ok (.iastore, 1) := by decide +kernel
theorem dL_settle_111 : decode cL_settle 111 = .ok (.iinc 5 1, 3) := by decide +kernel
theorem dL_settle_114 : decode cL_settle 114 = .ok (.iinc 6 1, 3) := by decide +kernel
theorem dL_settle_117 : decode cL_settle 117 = .ok (.goto (-105), 3) := by decide +kernel
theorem dL_settle_120 : decode cL_settle 120 = .ok (.iconst 0, 1) := by decide +kernel
theorem dL_settle_121 : decode cL_settle 121 = .ok (.istore 6, 2) := by decide +kernel
theorem dL_settle_123 : decode cL_settle 123 = .ok (.iload 6, 2) := by decide +kernel
theorem dL_settle_125 : decode cL_settle 125 = .ok (.iload 5, 2) := by decide +kernel
theorem dL_settle_127 : decode cL_settle 127 = .ok (.if_icmp .ge 18, 3) := by decide +kernel
theorem dL_settle_130 : decode cL_settle 130 = .ok (.aload_n 0, 1) := by decide +kernel
theorem dL_settle_131 : decode cL_settle 131 = .ok (.iload 6, 2) := by decide +kernel
theorem dL_settle_133 : decode cL_settle 133 = .ok (.aload 4, 2) := by decide +kernel
theorem dL_settle_135 : decode cL_settle 135 = .ok (.iload 6, 2) := by decide +kernel
theorem dL_settle_137 : decode cL_settle 137 = .ok (.iaload, 1) := by decide +kernel
theorem dL_settle_138 : decode cL_settle 138 = .ok (.iastore, 1) := by decide +kernel
theorem dL_settle_139 : decode cL_settle 139 = .ok (.iinc 6 1, 3) := by decide +kernel
theorem dL_settle_142 : decode cL_settle 142 = .ok (.goto (-19), 3) := by decide +kernel
theorem dL_settle_145 : decode cL_settle 145 = .ok (.aload_n 2, 1) := by decide +kernel
theorem dL_settle_146 : decode cL_settle 146 = .ok (.iload_n 3, 1) := by decide +kernel
theorem dL_settle_147 : decode cL_settle 147 = .ok (.iload 5, 2) := by decide +kernel
theorem dL_settle_149 : decode cL_settle 149 = .ok (.iastore, 1) := by decide +kernel
theorem dL_settle_150 : decode cL_settle 150 = .ok (.aload_n 2, 1) := by decide +kernel
theorem dL_settle_151 : decode cL_settle 151 = .ok (.bipush 8, 2) := by decide +kernel
theorem dL_settle_153 : decode cL_settle 153 = .ok (.iload_n 3, 1) := by decide +kernel
theorem dL_settle_154 : decode cL_settle 154 = .ok (.iadd, 1) := by decide +kernel
theorem dL_settle_155 : decode cL_settle 155 = .ok (.iconst 0, 1) := by decide +kernel
theorem dL_settle_156 : decode cL_settle 156 = .ok (.iastore, 1) := by decide +kernel
theorem dL_settle_157 : decode cL_settle 157 = .ok (.aload_n 2, 1) := by decide +kernel
theorem dL_settle_158 : decode cL_settle 158 = .ok (.bipush 19, 2) := by decide +kernel
theorem dL_settle_160 : decode cL_settle 160 = .ok (.dup2, 1) := by decide +kernel
theorem dL_settle_161 : decode cL_settle 161 = .ok (.iaload, 1) := by decide +kernel
theorem dL_settle_162 : decode cL_settle 162 = .ok (.iconst 1, 1) := by decide +kernel
theorem dL_settle_163 : decode cL_settle 163 = .ok (.iadd, 1) := by decide +kernel
theorem dL_settle_164 : decode cL_settle 164 = .ok (.iastore, 1) := by decide +kernel
theorem dL_settle_165 : decode cL_settle 165 = .ok (.return_, 1) := by decide +kernel
theorem dL_size_0 : decode cL_size 0 = .ok (.aload_n 1, 1) := by decide +kernel
theorem dL_size_1 : decode cL_size 1 = .ok (.iload_n 2, 1) := by decide +kernel
theorem dL_size_2 : decode cL_size 2 = .ok (.iaload, 1) := by decide +kernel
theorem dL_size_3 : decode cL_size 3 = .ok (.aload_n 1, 1) := by decide +kernel
theorem dL_size_4 : decode cL_size 4 = .ok (.bipush 8, 2) := by decide +kernel
theorem dL_size_6 : decode cL_size 6 = .ok (.iload_n 2, 1) := by decide +kernel
theorem dL_size_7 : decode cL_size 7 = .ok (.iadd, 1) := by decide +kernel
theorem dL_size_8 : decode cL_size 8 = .ok (.iaload, 1) := by decide +kernel
theorem dL_size_9 : decode cL_size 9 = .ok (.iadd, 1) := by decide +kernel
theorem dL_size_10 : decode cL_size 10 = .ok (.aload_n 0, 1) := by decide +kernel
theorem dL_size_11 : decode cL_size 11 = .ok (.aload_n 1, 1) := by decide +kernel
theorem dL_size_12 : decode cL_size 12 = .ok (.iload_n 2, 1) := by decide +kernel
theorem dL_size_13 : decode cL_size 13 = .ok (.invokestatic 69, 3) := by decide +kernel
theorem dL_size_16 : decode cL_size 16 = .ok (.isub, 1) := by decide +kernel
theorem dL_size_17 : decode cL_size 17 = .ok (.ireturn, 1) := by decide +kernel
theorem dL_put_0 : decode cL_put 0 = .ok (.aload_n 0, 1) := by decide +kernel
theorem dL_put_1 : decode cL_put 1 = .ok (.aload_n 2, 1) := by decide +kernel
theorem dL_put_2 : decode cL_put 2 = .ok (.iload_n 3, 1) := by decide +kernel
theorem dL_put_3 : decode cL_put 3 = .ok (.iload 4, 2) := by decide +kernel
theorem dL_put_5 : decode cL_put 5 = .ok (.invokestatic 60, 3) := by decide +kernel
theorem dL_put_8 : decode cL_put 8 = .ok (.istore 5, 2) := by decide +kernel
theorem dL_put_10 : decode cL_put 10 = .ok (.iload 5, 2) := by decide +kernel
theorem dL_put_12 : decode cL_put 12 = .ok (.ifCond .lt 10, 3) := by decide +kernel
theorem dL_put_15 : decode cL_put 15 = .ok (.aload_n 0, 1) := by decide +kernel
theorem dL_put_16 : decode cL_put 16 = .ok (.iload 5, 2) := by decide +kernel
theorem dL_put_18 : decode cL_put 18 = .ok (.iload 4, 2) := by decide +kernel
theorem dL_put_20 : decode cL_put 20 = .ok (.iastore, 1) := by decide +kernel
theorem dL_put_21 : decode cL_put 21 = .ok (.return_, 1) := by decide +kernel
theorem dL_put_22 : decode cL_put 22 = .ok (.aload_n 1, 1) := by decide +kernel
theorem dL_put_23 : decode cL_put 23 = .ok (.bipush 8, 2) := by decide +kernel
theorem dL_put_25 : decode cL_put 25 = .ok (.iload_n 3, 1) := by decide +kernel
theorem dL_put_26 : decode cL_put 26 = .ok (.imul, 1) := by decide +kernel
theorem dL_put_27 : decode cL_put 27 = .ok (.aload_n 2, 1) := by decide +kernel
theorem dL_put_28 : decode cL_put 28 = .ok (.bipush 8, 2) := by decide +kernel
theorem dL_put_30 : decode cL_put 30 = .ok (.iload_n 3, 1) := by decide +kernel
theorem dL_put_31 : decode cL_put 31 = .ok (.iadd, 1) := by decide +kernel
theorem dL_put_32 : decode cL_put 32 = .ok (.iaload, 1) := by decide +kernel
theorem dL_put_33 : decode cL_put 33 = .ok (.iadd, 1) := by decide +kernel
theorem dL_put_34 : decode cL_put 34 = .ok (.iload 4, 2) := by decide +kernel
theorem dL_put_36 : decode cL_put 36 = .ok (.iastore, 1) := by decide +kernel
theorem dL_put_37 : decode cL_put 37 = .ok (.aload_n 2, 1) := by decide +kernel
theorem dL_put_38 : decode cL_put 38 = .ok (.bipush 8, 2) := by decide +kernel
theorem dL_put_40 : decode cL_put 40 = .ok (.iload_n 3, 1) := by decide +kernel
theorem dL_put_41 : decode cL_put 41 = .ok (.iadd, 1) := by decide +kernel
theorem dL_put_42 : decode cL_put 42 = .ok (.dup2, 1) := by decide +kernel
theorem dL_put_43 : decode cL_put 43 = .ok (.iaload, 1) := by decide +kernel
theorem dL_put_44 : decode cL_put 44 = .ok (.iconst 1, 1) := by decide +kernel
theorem dL_put_45 : decode cL_put 45 = .ok (.iadd, 1) := by decide +kernel
theorem dL_put_46 : decode cL_put 46 = .ok (.iastore, 1) := by decide +kernel
theorem dL_put_47 : decode cL_put 47 = .ok (.aload_n 2, 1) := by decide +kernel
theorem dL_put_48 : decode cL_put 48 = .ok (.bipush 8, 2) := by decide +kernel
theorem dL_put_50 : decode cL_put 50 = .ok (.iload_n 3, 1) := by decide +kernel
theorem dL_put_51 : decode cL_put 51 = .ok (.iadd, 1) := by decide +kernel
theorem dL_put_52 : decode cL_put 52 = .ok (.iaload, 1) := by decide +kernel
theorem dL_put_53 : decode cL_put 53 = .ok (.aload_n 2, 1) := by decide +kernel
theorem dL_put_54 : decode cL_put 54 = .ok (.bipush 17, 2) := by decide +kernel
theorem dL_put_56 : decode cL_put 56 = .ok (.iaload, 1) := by decide +kernel
theorem dL_put_57 : decode cL_put 57 = .ok (.if_icmp .lt 10, 3) := by decide +kernel
theorem dL_put_60 : decode cL_put 60 = .ok (.aload_n 0, 1) := by decide +kernel
theorem dL_put_61 : decode cL_put 61 = .ok (.aload_n 1, 1) := by decide +kernel
theorem dL_put_62 : decode cL_put 62 = .ok (.aload_n 2, 1) := by decide +kernel
theorem dL_put_63 : decode cL_put 63 = .ok (.iload_n 3, 1) := by decide +kernel
theorem dL_put_64 : decode cL_put 64 = .ok (.invokestatic 73, 3) := by decide +kernel
theorem dL_put_67 : decode cL_put 67 = .ok (.return_, 1) := by decide +kernel
theorem dL_isSo_0 : decode cL_isSo 0 = .ok (.aload_n 0, 1) := by decide +kernel
theorem dL_isSo_1 : decode cL_isSo 1 = .ok (.iload 4, 2) := by decide +kernel
theorem dL_isSo_3 : decode cL_isSo 3 = .ok (.iconst 4, 1) := by decide +kernel
theorem dL_isSo_4 : decode cL_isSo 4 = .ok (.invokestatic 77, 3) := by decide +kernel
theorem dL_isSo_7 : decode cL_isSo 7 = .ok (.aload_n 1, 1) := by decide +kernel
theorem dL_isSo_8 : decode cL_isSo 8 = .ok (.aload_n 3, 1) := by decide +kernel
theorem dL_isSo_9 : decode cL_isSo 9 = .ok (.iload 4, 2) := by decide +kernel
theorem dL_isSo_11 : decode cL_isSo 11 = .ok (.invokestatic 81, 3) := by decide +kernel
theorem dL_isSo_14 : decode cL_isSo 14 = .ok (.if_icmp .ne 69, 3) := by decide +kernel
theorem dL_isSo_17 : decode cL_isSo 17 = .ok (.aload_n 0, 1) := by decide +kernel
theorem dL_isSo_18 : decode cL_isSo 18 = .ok (.iload 4, 2) := by decide +kernel
theorem dL_isSo_20 : decode cL_isSo 20 = .ok (.iconst 5, 1) := by decide +kernel
theorem dL_isSo_21 : decode cL_isSo 21 = .ok (.invokestatic 77, 3) := by decide +kernel
theorem dL_isSo_24 : decode cL_isSo 24 = .ok (.aload_n 3, 1) := by decide +kernel
theorem dL_isSo_25 : decode cL_isSo 25 = .ok (.iload 4, 2) := by decide +kernel
theorem dL_isSo_27 : decode cL_isSo 27 = .ok (.iaload, 1) := by decide +kernel
theorem dL_isSo_28 : decode cL_isSo 28 = .ok (.if_icmp .ne 55, 3) := by decide +kernel
theorem dL_isSo_31 : decode cL_isSo 31 = .ok (.aload_n 0, 1) := by decide +kernel
theorem dL_isSo_32 : decode cL_isSo 32 = .ok (.iload 4, 2) := by decide +kernel
theorem dL_isSo_34 : decode cL_isSo 34 = .ok (.bipush 6, 2) := by decide +kernel
theorem dL_isSo_36 : decode cL_isSo 36 = .ok (.invokestatic 77, 3) := by decide +kernel
theorem dL_isSo_39 : decode cL_isSo 39 = .ok (.aload_n 1, 1) := by decide +kernel
theorem dL_isSo_40 : decode cL_isSo 40 = .ok (.aload_n 3, 1) := by decide +kernel
theorem dL_isSo_41 : decode cL_isSo 41 = .ok (.iload 4, 2) := by decide +kernel
theorem dL_isSo_43 : decode cL_isSo 43 = .ok (.invokestatic 69, 3) := by decide +kernel
theorem dL_isSo_46 : decode cL_isSo 46 = .ok (.if_icmp .ne 37, 3) := by decide +kernel
theorem dL_isSo_49 : decode cL_isSo 49 = .ok (.aload_n 0, 1) := by decide +kernel
theorem dL_isSo_50 : decode cL_isSo 50 = .ok (.iload 4, 2) := by decide +kernel
theorem dL_isSo_52 : decode cL_isSo 52 = .ok (.bipush 7, 2) := by decide +kernel
theorem dL_isSo_54 : decode cL_isSo 54 = .ok (.invokestatic 77, 3) := by decide +kernel
theorem dL_isSo_57 : decode cL_isSo 57 = .ok (.aload_n 3, 1) := by decide +kernel
theorem dL_isSo_58 : decode cL_isSo 58 = .ok (.bipush 8, 2) := by decide +kernel
theorem dL_isSo_60 : decode cL_isSo 60 = .ok (.iload 4, 2) := by decide +kernel
theorem dL_isSo_62 : decode cL_isSo 62 = .ok (.iadd, 1) := by decide +kernel
theorem dL_isSo_63 : decode cL_isSo 63 = .ok (.iaload, 1) := by decide +kernel
theorem dL_isSo_64 : decode cL_isSo 64 = .ok (.if_icmp .ne 19, 3) := by decide +kernel
theorem dL_isSo_67 : decode cL_isSo 67 = .ok (.aload_n 0, 1) := by decide +kernel
theorem dL_isSo_68 : decode cL_isSo 68 = .ok (.iconst 4, 1) := by decide +kernel
theorem dL_isSo_69 : decode cL_isSo 69 = .ok (.invokestatic 84, 3) := by decide +kernel
theorem dL_isSo_72 : decode cL_isSo 72 = .ok (.aload_n 3, 1) := by decide +kernel
theorem dL_isSo_73 : decode cL_isSo 73 = .ok (.bipush 19, 2) := by decide +kernel
theorem dL_isSo_75 : decode cL_isSo 75 = .ok (.iaload, 1) := by decide +kernel
theorem dL_isSo_76 : decode cL_isSo 76 = .ok (.if_icmp .ne 7, 3) := by decide +kernel
theorem dL_isSo_79 : decode cL_isSo 79 = .ok (.iconst 1, 1) := by decide +kernel
theorem dL_isSo_80 : decode cL_isSo 80 = .ok (.goto 4, 3) := by decide +kernel
theorem dL_isSo_83 : decode cL_isSo 83 = .ok (.iconst 0, 1) := by decide +kernel
theorem dL_isSo_84 : decode cL_isSo 84 = .ok (.istore 6, 2) := by decide +kernel
theorem dL_isSo_86 : decode cL_isSo 86 = .ok (.iconst 0, 1) := by decide +kernel
theorem dL_isSo_87 : decode cL_isSo 87 = .ok (.istore 7, 2) := by decide +kernel
theorem dL_isSo_89 : decode cL_isSo 89 = .ok (.iload 7, 2) := by decide +kernel
theorem dL_isSo_91 : decode cL_isSo 91 = .ok (.aload_n 3, 1) := by decide +kernel
theorem dL_isSo_92 : decode cL_isSo 92 = .ok (.iload 4, 2) := by decide +kernel
theorem dL_isSo_94 : decode cL_isSo 94 = .ok (.iaload, 1) := by decide +kernel
theorem dL_isSo_95 : decode cL_isSo 95 = .ok (.if_icmp .gt 49, 3) := by decide +kernel
theorem dL_isSo_98 : decode cL_isSo 98 = .ok (.iload 6, 2) := by decide +kernel
theorem dL_isSo_100 : decode cL_isSo 100 = .ok (.ifCond .eq 44, 3) := by decide +kernel
theorem dL_isSo_103 : decode cL_isSo 103 = .ok (.aload_n 0, 1) := by decide +kernel
theorem dL_isSo_104 : decode cL_isSo 104 = .ok (.iload 4, 2) := by decide +kernel
theorem dL_isSo_106 : decode cL_isSo 106 = .ok (.iload 7, 2) := by decide +kernel
theorem dL_isSo_108 : decode cL_isSo 108 = .ok (.invokestatic 88, 3) := by decide +kernel
theorem dL_isSo_111 : decode cL_isSo 111 = .ok (.iload 7, 2) := by decide +kernel
theorem dL_isSo_113 : decode cL_isSo 113 = .ok (.aload_n 3, 1) := by decide +kernel
theorem dL_isSo_114 : decode cL_isSo 114 = .ok (.iload 4, 2) := by decide +kernel
theorem dL_isSo_116 : decode cL_isSo 116 = .ok (.iaload, 1) := by decide +kernel
theorem dL_isSo_117 : decode cL_isSo 117 = .ok (.if_icmp .ne 7, 3) := by decide +kernel
theorem dL_isSo_120 : decode cL_isSo 120 = .ok (.iconst (-1), 1) := by decide +kernel
theorem dL_isSo_121 : decode cL_isSo 121 = .ok (.goto 7, 3) := by decide +kernel
theorem dL_isSo_124 : decode cL_isSo 124 = .ok (.aload_n 1, 1) := by decide +kernel
theorem dL_isSo_125 : decode cL_isSo 125 = .ok (.iload 7, 2) := by decide +kernel
theorem dL_isSo_127 : decode cL_isSo 127 = .ok (.iaload, 1) := by decide +kernel
theorem dL_isSo_128 : decode cL_isSo 128 = .ok (.if_icmp .ne 7, 3) := by decide +kernel
theorem dL_isSo_131 : decode cL_isSo 131 = .ok (.iconst 1, 1) := by decide +kernel
theorem dL_isSo_132 : decode cL_isSo 132 = .ok (.goto 4, 3) := by decide +kernel
theorem dL_isSo_135 : decode cL_isSo 135 = .ok (.iconst 0, 1) := by decide +kernel
theorem dL_isSo_136 : decode cL_isSo 136 = .ok (.istore 6, 2) := by decide +kernel
theorem dL_isSo_138 : decode cL_isSo 138 = .ok (.iinc 7 1, 3) := by decide +kernel
theorem dL_isSo_141 : decode cL_isSo 141 = .ok (.goto (-52), 3) := by decide +kernel
theorem dL_isSo_144 : decode cL_isSo 144 = .ok (.iconst 0, 1) := by decide +kernel
theorem dL_isSo_145 : decode cL_isSo 145 = .ok (.istore 7, 2) := by decide +kernel
theorem dL_isSo_147 : decode cL_isSo 147 = .ok (.iload 7, 2) := by decide +kernel
theorem dL_isSo_149 : decode cL_isSo 149 = .ok (.aload_n 3, 1) := by decide +kernel
theorem dL_isSo_150 : decode cL_isSo 150 = .ok (.bipush 8, 2) := by decide +kernel
theorem dL_isSo_152 : decode cL_isSo 152 = .ok (.iload 4, 2) := by decide +kernel
theorem dL_isSo_154 : decode cL_isSo 154 = .ok (.iadd, 1) := by decide +kernel
theorem dL_isSo_155 : decode cL_isSo 155 = .ok (.iaload, 1) := by decide +kernel
theorem dL_isSo_156 : decode cL_isSo 156 = .ok (.if_icmp .gt 58, 3) := by decide +kernel
theorem dL_isSo_159 : decode cL_isSo 159 = .ok (.iload 6, 2) := by decide +kernel
theorem dL_isSo_161 : decode cL_isSo 161 = .ok (.ifCond .eq 53, 3) := by decide +kernel
theorem dL_isSo_164 : decode cL_isSo 164 = .ok (.aload_n 0, 1) := by decide +kernel
theorem dL_isSo_165 : decode cL_isSo 165 = .ok (.iload 4, 2) := by decide +kernel
theorem dL_isSo_167 : decode cL_isSo 167 = .ok (.iload 7, 2) := by decide +kernel
theorem dL_isSo_169 : decode cL_isSo 169 = .ok (.invokestatic 91, 3) := by decide +kernel
theorem dL_isSo_172 : decode cL_isSo 172 = .ok (.iload 7, 2) := by decide +kernel
theorem dL_isSo_174 : decode cL_isSo 174 = .ok (.aload_n 3, 1) := by decide +kernel
theorem dL_isSo_175 : decode cL_isSo 175 = .ok (.bipush 8, 2) := by decide +kernel
theorem dL_isSo_177 : decode cL_isSo 177 = .ok (.iload 4, 2) := by decide +kernel
theorem dL_isSo_179 : decode cL_isSo 179 = .ok (.iadd, 1) := by decide +kernel
theorem dL_isSo_180 : decode cL_isSo 180 = .ok (.iaload, 1) := by decide +kernel
theorem dL_isSo_181 : decode cL_isSo 181 = .ok (.if_icmp .ne 7, 3) := by decide +kernel
theorem dL_isSo_184 : decode cL_isSo 184 = .ok (.iconst (-1), 1) := by decide +kernel
theorem dL_isSo_185 : decode cL_isSo 185 = .ok (.goto 13, 3) := by decide +kernel
theorem dL_isSo_188 : decode cL_isSo 188 = .ok (.aload_n 2, 1) := by decide +kernel
theorem dL_isSo_189 : decode cL_isSo 189 = .ok (.bipush 8, 2) := by decide +kernel
theorem dL_isSo_191 : decode cL_isSo 191 = .ok (.iload 4, 2) := by decide +kernel
theorem dL_isSo_193 : decode cL_isSo 193 = .ok (.imul, 1) := by decide +kernel
theorem dL_isSo_194 : decode cL_isSo 194 = .ok (.iload 7, 2) := by decide +kernel
theorem dL_isSo_196 : decode cL_isSo 196 = .ok (.iadd, 1) := by decide +kernel
theorem dL_isSo_197 : decode cL_isSo 197 = .ok (.iaload, 1) := by decide +kernel
theorem dL_isSo_198 : decode cL_isSo 198 = .ok (.if_icmp .ne 7, 3) := by decide +kernel
theorem dL_isSo_201 : decode cL_isSo 201 = .ok (.iconst 1, 1) := by decide +kernel
theorem dL_isSo_202 : decode cL_isSo 202 = .ok (.goto 4, 3) := by decide +kernel
theorem dL_isSo_205 : decode cL_isSo 205 = .ok (.iconst 0, 1) := by decide +kernel
theorem dL_isSo_206 : decode cL_isSo 206 = .ok (.istore 6, 2) := by decide +kernel
theorem dL_isSo_208 : decode cL_isSo 208 = .ok (.iinc 7 1, 3) := by decide +kernel
theorem dL_isSo_211 : decode cL_isSo 211 = .ok (.goto (-64), 3) := by decide +kernel
theorem dL_isSo_214 : decode cL_isSo 214 = .ok (.iconst (-1), 1) := by decide +kernel
theorem dL_isSo_215 : decode cL_isSo 215 = .ok (.istore 7, 2) := by decide +kernel
theorem dL_isSo_217 : decode cL_isSo 217 = .ok (.aload_n 1, 1) := by decide +kernel
theorem dL_isSo_218 : decode cL_isSo 218 = .ok (.aload_n 3, 1) := by decide +kernel
theorem dL_isSo_219 : decode cL_isSo 219 = .ok (.iload 4, 2) := by decide +kernel
theorem dL_isSo_221 : decode cL_isSo 221 = .ok (.invokestatic 81, 3) := by decide +kernel
theorem dL_isSo_224 : decode cL_isSo 224 = .ok (.istore 8, 2) := by decide +kernel
theorem dL_isSo_226 : decode cL_isSo 226 = .ok (.iconst 0, 1) := by decide +kernel
theorem dL_isSo_227 : decode cL_isSo 227 = .ok (.istore 9, 2) := by decide +kernel
theorem dL_isSo_229 : decode cL_isSo 229 = .ok (.iload 9, 2) := by decide +kernel
theorem dL_isSo_231 : decode cL_isSo 231 = .ok (.iload 8, 2) := by decide +kernel
theorem dL_isSo_233 : decode cL_isSo 233 = .ok (.if_icmp .gt 178, 3) := by decide +kernel
theorem dL_isSo_236 : decode cL_isSo 236 = .ok (.iload 6, 2) := by decide +kernel
theorem dL_isSo_238 : decode cL_isSo 238 = .ok (.ifCond .eq 173, 3) := by decide +kernel
theorem dL_isSo_241 : decode cL_isSo 241 = .ok (.iconst (-1), 1) := by decide +kernel
theorem dL_isSo_242 : decode cL_isSo 242 = .ok (.istore 10, 2) := by decide +kernel
theorem dL_isSo_244 : decode cL_isSo 244 = .ok (.iconst 0, 1) := by decide +kernel
theorem dL_isSo_245 : decode cL_isSo 245 = .ok (.istore 11, 2) := by decide +kernel
theorem dL_isSo_247 : decode cL_isSo 247 = .ok (.iload 11, 2) := by decide +kernel
theorem dL_isSo_249 : decode cL_isSo 249 = .ok (.aload_n 3, 1) := by decide +kernel
theorem dL_isSo_250 : decode cL_isSo 250 = .ok (.iload 4, 2) := by decide +kernel
theorem dL_isSo_252 : decode cL_isSo 252 = .ok (.iaload, 1) := by decide +kernel
theorem dL_isSo_253 : decode cL_isSo 253 = .ok (.aload_n 3, 1) := by decide +kernel
theorem dL_isSo_254 : decode cL_isSo 254 = .ok (.bipush 8, 2) := by decide +kernel
theorem dL_isSo_256 : decode cL_isSo 256 = .ok (.iload 4, 2) := by decide +kernel
theorem dL_isSo_258 : decode cL_isSo 258 = .ok (.iadd, 1) := by decide +kernel
theorem dL_isSo_259 : decode cL_isSo 259 = .ok (.iaload, 1) := by decide +kernel
theorem dL_isSo_260 : decode cL_isSo 260 = .ok (.iadd, 1) := by decide +kernel
theorem dL_isSo_261 : decode cL_isSo 261 = .ok (.if_icmp .ge 78, 3) := by decide +kernel
theorem dL_isSo_264 : decode cL_isSo 264 = .ok (.iload 11, 2) := by decide +kernel
theorem dL_isSo_266 : decode cL_isSo 266 = .ok (.aload_n 3, 1) := by decide +kernel
theorem dL_isSo_267 : decode cL_isSo 267 = .ok (.iload 4, 2) := by decide +kernel
theorem dL_isSo_269 : decode cL_isSo 269 = .ok (.iaload, 1) := by decide +kernel
theorem dL_isSo_270 : decode cL_isSo 270 = .ok (.if_icmp .ge 10, 3) := by decide +kernel
theorem dL_isSo_273 : decode cL_isSo 273 = .ok (.aload_n 1, 1) := by decide +kernel
theorem dL_isSo_274 : decode cL_isSo 274 = .ok (.iload 11, 2) := by decide +kernel
theorem dL_isSo_276 : decode cL_isSo 276 = .ok (.iaload, 1) := by decide +kernel
theorem dL_isSo_277 : decode cL_isSo 277 = .ok (.goto 18, 3) := by decide +kernel
theorem dL_isSo_280 : decode cL_isSo 280 = .ok (.aload_n 2, 1) := by decide +kernel
theorem dL_isSo_281 : decode cL_isSo 281 = .ok (.bipush 8, 2) := by decide +kernel
theorem dL_isSo_283 : decode cL_isSo 283 = .ok (.iload 4, 2) := by decide +kernel
theorem dL_isSo_285 : decode cL_isSo 285 = .ok (.imul, 1) := by decide +kernel
theorem dL_isSo_286 : decode cL_isSo 286 = .ok (.iload 11, 2) := by decide +kernel
theorem dL_isSo_288 : decode cL_isSo 288 = .ok (.iadd, 1) := by decide +kernel
theorem dL_isSo_289 : decode cL_isSo 289 = .ok (.aload_n 3, 1) := by decide +kernel
theorem dL_isSo_290 : decode cL_isSo 290 = .ok (.iload 4, 2) := by decide +kernel
theorem dL_isSo_292 : decode cL_isSo 292 = .ok (.iaload, 1) := by decide +kernel
theorem dL_isSo_293 : decode cL_isSo 293 = .ok (.isub, 1) := by decide +kernel
theorem dL_isSo_294 : decode cL_isSo 294 = .ok (.iaload, 1) := by decide +kernel
theorem dL_isSo_295 : decode cL_isSo 295 = .ok (.istore 12, 2) := by decide +kernel
theorem dL_isSo_297 : decode cL_isSo 297 = .ok (.iload 12, 2) := by decide +kernel
theorem dL_isSo_299 : decode cL_isSo 299 = .ok (.sipush 10000, 3) := by decide +kernel
theorem dL_isSo_302 : decode cL_isSo 302 = .ok (.if_icmp .ge 27, 3) := by decide +kernel
theorem dL_isSo_305 : decode cL_isSo 305 = .ok (.iload 12, 2) := by decide +kernel
theorem dL_isSo_307 : decode cL_isSo 307 = .ok (.iload 7, 2) := by decide +kernel
theorem dL_isSo_309 : decode cL_isSo 309 = .ok (.if_icmp .le 20, 3) := by decide +kernel
theorem dL_isSo_312 : decode cL_isSo 312 = .ok (.iload 10, 2) := by decide +kernel
theorem dL_isSo_314 : decode cL_isSo 314 = .ok (.ifCond .lt 10, 3) := by decide +kernel
theorem dL_isSo_317 : decode cL_isSo 317 = .ok (.iload 12, 2) := by decide +kernel
theorem dL_isSo_319 : decode cL_isSo 319 = .ok (.iload 10, 2) := by decide +kernel
theorem dL_isSo_321 : decode cL_isSo 321 = .ok (.if_icmp .ge 8, 3) := by decide +kernel
theorem dL_isSo_324 : decode cL_isSo 324 = .ok (.iload 12, 2) := by decide +kernel
theorem dL_isSo_326 : decode cL_isSo 326 = .ok (.goto 5, 3) := by decide +kernel
theorem dL_isSo_329 : decode cL_isSo 329 = .ok (.iload 10, 2) := by decide +kernel
theorem dL_isSo_331 : decode cL_isSo 331 = .ok (.istore 10, 2) := by decide +kernel
theorem dL_isSo_333 : decode cL_isSo 333 = .ok (.iinc 11 1, 3) := by decide +kernel
theorem dL_isSo_336 : decode cL_isSo 336 = .ok (.goto (-89), 3) := by decide +kernel
theorem dL_isSo_339 : decode cL_isSo 339 = .ok (.aload_n 0, 1) := by decide +kernel
theorem dL_isSo_340 : decode cL_isSo 340 = .ok (.iload 4, 2) := by decide +kernel
theorem dL_isSo_342 : decode cL_isSo 342 = .ok (.iload 9, 2) := by decide +kernel
theorem dL_isSo_344 : decode cL_isSo 344 = .ok (.invokestatic 94, 3) := by decide +kernel
theorem dL_isSo_347 : decode cL_isSo 347 = .ok (.iload 10, 2) := by decide +kernel
theorem dL_isSo_349 : decode cL_isSo 349 = .ok (.if_icmp .ne 7, 3) := by decide +kernel
theorem dL_isSo_352 : decode cL_isSo 352 = .ok (.iconst 1, 1) := by decide +kernel
theorem dL_isSo_353 : decode cL_isSo 353 = .ok (.goto 4, 3) := by decide +kernel
theorem dL_isSo_356 : decode cL_isSo 356 = .ok (.iconst 0, 1) := by decide +kernel
theorem dL_isSo_357 : decode cL_isSo 357 = .ok (.istore 6, 2) := by decide +kernel
theorem dL_isSo_359 : decode cL_isSo 359 = .ok (.iload 6, 2) := by decide +kernel
theorem dL_isSo_361 : decode cL_isSo 361 = .ok (.ifCond .eq 37, 3) := by decide +kernel
theorem dL_isSo_364 : decode cL_isSo 364 = .ok (.iload 9, 2) := by decide +kernel
theorem dL_isSo_366 : decode cL_isSo 366 = .ok (.iconst 3, 1) := by decide +kernel
theorem dL_isSo_367 : decode cL_isSo 367 = .ok (.irem, 1) := by decide +kernel
theorem dL_isSo_368 : decode cL_isSo 368 = .ok (.ifCond .gt 26, 3) := by decide +kernel
theorem dL_isSo_371 : decode cL_isSo 371 = .ok (.iload 7, 2) := by decide +kernel
theorem dL_isSo_373 : decode cL_isSo 373 = .ok (.sipush 9998, 3) := by decide +kernel
theorem dL_isSo_376 : decode cL_isSo 376 = .ok (.if_icmp .gt 18, 3) := by decide +kernel
theorem dL_isSo_379 : decode cL_isSo 379 = .ok (.aload_n 0, 1) := by decide +kernel
theorem dL_isSo_380 : decode cL_isSo 380 = .ok (.iload 4, 2) := by decide +kernel
theorem dL_isSo_382 : decode cL_isSo 382 = .ok (.iload 7, 2) := by decide +kernel
theorem dL_isSo_384 : decode cL_isSo 384 = .ok (.iconst 1, 1) := by decide +kernel
theorem dL_isSo_385 : decode cL_isSo 385 = .ok (.iadd, 1) := by decide +kernel
theorem dL_isSo_386 : decode cL_isSo 386 = .ok (.invokestatic 97, 3) := by decide +kernel
theorem dL_isSo_389 : decode cL_isSo 389 = .ok (.iload 10, 2) := by decide +kernel
theorem dL_isSo_391 : decode cL_isSo 391 = .ok (.if_icmp .ne 7, 3) := by decide +kernel
theorem dL_isSo_394 : decode cL_isSo 394 = .ok (.iconst 1, 1) := by decide +kernel
theorem dL_isSo_395 : decode cL_isSo 395 = .ok (.goto 4, 3) := by decide +kernel
theorem dL_isSo_398 : decode cL_isSo 398 = .ok (.iconst 0, 1) := by decide +kernel
theorem dL_isSo_399 : decode cL_isSo 399 = .ok (.istore 6, 2) := by decide +kernel
theorem dL_isSo_401 : decode cL_isSo 401 = .ok (.iload 10, 2) := by decide +kernel
theorem dL_isSo_403 : decode cL_isSo 403 = .ok (.istore 7, 2) := by decide +kernel
theorem dL_isSo_405 : decode cL_isSo 405 = .ok (.iinc 9 1, 3) := by decide +kernel
theorem dL_isSo_408 : decode cL_isSo 408 = .ok (.goto (-179), 3) := by decide +kernel
theorem dL_isSo_411 : decode cL_isSo 411 = .ok (.iload 5, 2) := by decide +kernel
theorem dL_isSo_413 : decode cL_isSo 413 = .ok (.sipush 10001, 3) := by decide +kernel
theorem dL_isSo_416 : decode cL_isSo 416 = .ok (.invokestatic 100, 3) := by decide +kernel
theorem dL_isSo_419 : decode cL_isSo 419 = .ok (.istore 9, 2) := by decide +kernel
theorem dL_isSo_421 : decode cL_isSo 421 = .ok (.iconst (-1), 1) := by decide +kernel
theorem dL_isSo_422 : decode cL_isSo 422 = .ok (.istore 10, 2) := by decide +kernel
theorem dL_isSo_424 : decode cL_isSo 424 = .ok (.iconst 0, 1) := by decide +kernel
theorem dL_isSo_425 : decode cL_isSo 425 = .ok (.istore 11, 2) := by decide +kernel
theorem dL_isSo_427 : decode cL_isSo 427 = .ok (.iload 11, 2) := by decide +kernel
theorem dL_isSo_429 : decode cL_isSo 429 = .ok (.aload_n 3, 1) := by decide +kernel
theorem dL_isSo_430 : decode cL_isSo 430 = .ok (.iload 4, 2) := by decide +kernel
theorem dL_isSo_432 : decode cL_isSo 432 = .ok (.iaload, 1) := by decide +kernel
theorem dL_isSo_433 : decode cL_isSo 433 = .ok (.aload_n 3, 1) := by decide +kernel
theorem dL_isSo_434 : decode cL_isSo 434 = .ok (.bipush 8, 2) := by decide +kernel
theorem dL_isSo_436 : decode cL_isSo 436 = .ok (.iload 4, 2) := by decide +kernel
theorem dL_isSo_438 : decode cL_isSo 438 = .ok (.iadd, 1) := by decide +kernel
theorem dL_isSo_439 : decode cL_isSo 439 = .ok (.iaload, 1) := by decide +kernel
theorem dL_isSo_440 : decode cL_isSo 440 = .ok (.iadd, 1) := by decide +kernel
theorem dL_isSo_441 : decode cL_isSo 441 = .ok (.if_icmp .ge 78, 3) := by decide +kernel
theorem dL_isSo_444 : decode cL_isSo 444 = .ok (.iload 11, 2) := by decide +kernel
theorem dL_isSo_446 : decode cL_isSo 446 = .ok (.aload_n 3, 1) := by decide +kernel
theorem dL_isSo_447 : decode cL_isSo 447 = .ok (.iload 4, 2) := by decide +kernel
theorem dL_isSo_449 : decode cL_isSo 449 = .ok (.iaload, 1) := by decide +kernel
theorem dL_isSo_450 : decode cL_isSo 450 = .ok (.if_icmp .ge 10, 3) := by decide +kernel
theorem dL_isSo_453 : decode cL_isSo 453 = .ok (.aload_n 1, 1) := by decide +kernel
theorem dL_isSo_454 : decode cL_isSo 454 = .ok (.iload 11, 2) := by decide +kernel
theorem dL_isSo_456 : decode cL_isSo 456 = .ok (.iaload, 1) := by decide +kernel
theorem dL_isSo_457 : decode cL_isSo 457 = .ok (.goto 18, 3) := by decide +kernel
theorem dL_isSo_460 : decode cL_isSo 460 = .ok (.aload_n 2, 1) := by decide +kernel
theorem dL_isSo_461 : decode cL_isSo 461 = .ok (.bipush 8, 2) := by decide +kernel
theorem dL_isSo_463 : decode cL_isSo 463 = .ok (.iload 4, 2) := by decide +kernel
theorem dL_isSo_465 : decode cL_isSo 465 = .ok (.imul, 1) := by decide +kernel
theorem dL_isSo_466 : decode cL_isSo 466 = .ok (.iload 11, 2) := by decide +kernel
theorem dL_isSo_468 : decode cL_isSo 468 = .ok (.iadd, 1) := by decide +kernel
theorem dL_isSo_469 : decode cL_isSo 469 = .ok (.aload_n 3, 1) := by decide +kernel
theorem dL_isSo_470 : decode cL_isSo 470 = .ok (.iload 4, 2) := by decide +kernel
theorem dL_isSo_472 : decode cL_isSo 472 = .ok (.iaload, 1) := by decide +kernel
theorem dL_isSo_473 : decode cL_isSo 473 = .ok (.isub, 1) := by decide +kernel
theorem dL_isSo_474 : decode cL_isSo 474 = .ok (.iaload, 1) := by decide +kernel
theorem dL_isSo_475 : decode cL_isSo 475 = .ok (.istore 12, 2) := by decide +kernel
theorem dL_isSo_477 : decode cL_isSo 477 = .ok (.iload 12, 2) := by decide +kernel
theorem dL_isSo_479 : decode cL_isSo 479 = .ok (.sipush 10000, 3) := by decide +kernel
theorem dL_isSo_482 : decode cL_isSo 482 = .ok (.if_icmp .ge 27, 3) := by decide +kernel
theorem dL_isSo_485 : decode cL_isSo 485 = .ok (.iload 12, 2) := by decide +kernel
theorem dL_isSo_487 : decode cL_isSo 487 = .ok (.iload 9, 2) := by decide +kernel
theorem dL_isSo_489 : decode cL_isSo 489 = .ok (.if_icmp .lt 20, 3) := by decide +kernel
theorem dL_isSo_492 : decode cL_isSo 492 = .ok (.iload 10, 2) := by decide +kernel
theorem dL_isSo_494 : decode cL_isSo 494 = .ok (.ifCond .lt 10, 3) := by decide +kernel
theorem dL_isSo_497 : decode cL_isSo 497 = .ok (.iload 12, 2) := by decide +kernel
theorem dL_isSo_499 : decode cL_isSo 499 = .ok (.iload 10, 2) := by decide +kernel
theorem dL_isSo_501 : decode cL_isSo 501 = .ok (.if_icmp .ge 8, 3) := by decide +kernel
theorem dL_isSo_504 : decode cL_isSo 504 = .ok (.iload 12, 2) := by decide +kernel
theorem dL_isSo_506 : decode cL_isSo 506 = .ok (.goto 5, 3) := by decide +kernel
theorem dL_isSo_509 : decode cL_isSo 509 = .ok (.iload 10, 2) := by decide +kernel
theorem dL_isSo_511 : decode cL_isSo 511 = .ok (.istore 10, 2) := by decide +kernel
theorem dL_isSo_513 : decode cL_isSo 513 = .ok (.iinc 11 1, 3) := by decide +kernel
theorem dL_isSo_516 : decode cL_isSo 516 = .ok (.goto (-89), 3) := by decide +kernel
theorem dL_isSo_519 : decode cL_isSo 519 = .ok (.iload 6, 2) := by decide +kernel
theorem dL_isSo_521 : decode cL_isSo 521 = .ok (.ifCond .eq 56, 3) := by decide +kernel
theorem dL_isSo_524 : decode cL_isSo 524 = .ok (.aload_n 0, 1) := by decide +kernel
theorem dL_isSo_525 : decode cL_isSo 525 = .ok (.iload 4, 2) := by decide +kernel
theorem dL_isSo_527 : decode cL_isSo 527 = .ok (.iload 9, 2) := by decide +kernel
theorem dL_isSo_529 : decode cL_isSo 529 = .ok (.invokestatic 97, 3) := by decide +kernel
theorem dL_isSo_532 : decode cL_isSo 532 = .ok (.iload 10, 2) := by decide +kernel
theorem dL_isSo_534 : decode cL_isSo 534 = .ok (.if_icmp .ne 43, 3) := by decide +kernel
theorem dL_isSo_537 : decode cL_isSo 537 = .ok (.aload_n 0, 1) := by decide +kernel
theorem dL_isSo_538 : decode cL_isSo 538 = .ok (.iload 4, 2) := by decide +kernel
theorem dL_isSo_540 : decode cL_isSo 540 = .ok (.iconst (-1), 1) := by decide +kernel
theorem dL_isSo_541 : decode cL_isSo 541 = .ok (.invokestatic 94, 3) := by decide +kernel
theorem dL_isSo_544 : decode cL_isSo 544 = .ok (.ldc 20, 2) := by decide +kernel
theorem dL_isSo_546 : decode cL_isSo 546 = .ok (.if_icmp .ne 31, 3) := by decide +kernel
theorem dL_isSo_549 : decode cL_isSo 549 = .ok (.aload_n 0, 1) := by decide +kernel
theorem dL_isSo_550 : decode cL_isSo 550 = .ok (.iload 4, 2) := by decide +kernel
theorem dL_isSo_552 : decode cL_isSo 552 = .ok (.iconst (-1), 1) := by decide +kernel
theorem dL_isSo_553 : decode cL_isSo 553 = .ok (.invokestatic 88, 3) := by decide +kernel
theorem dL_isSo_556 : decode cL_isSo 556 = .ok (.ldc 20, 2) := by decide +kernel
theorem dL_isSo_558 : decode cL_isSo 558 = .ok (.if_icmp .ne 19, 3) := by decide +kernel
theorem dL_isSo_561 : decode cL_isSo 561 = .ok (.aload_n 0, 1) := by decide +kernel
theorem dL_isSo_562 : decode cL_isSo 562 = .ok (.iload 4, 2) := by decide +kernel
theorem dL_isSo_564 : decode cL_isSo 564 = .ok (.iconst (-1), 1) := by decide +kernel
theorem dL_isSo_565 : decode cL_isSo 565 = .ok (.invokestatic 91, 3) := by decide +kernel
theorem dL_isSo_568 : decode cL_isSo 568 = .ok (.ldc 20, 2) := by decide +kernel
theorem dL_isSo_570 : decode cL_isSo 570 = .ok (.if_icmp .ne 7, 3) := by decide +kernel
theorem dL_isSo_573 : decode cL_isSo 573 = .ok (.iconst 1, 1) := by decide +kernel
theorem dL_isSo_574 : decode cL_isSo 574 = .ok (.goto 4, 3) := by decide +kernel
theorem dL_isSo_577 : decode cL_isSo 577 = .ok (.iconst 0, 1) := by decide +kernel
theorem dL_isSo_578 : decode cL_isSo 578 = .ok (.ireturn, 1) := by decide +kernel
theorem dL_acts_0 : decode cL_acts 0 = .ok (.iload 5, 2) := by decide +kernel
theorem dL_acts_2 : decode cL_acts 2 = .ok (.iconst 3, 1) := by decide +kernel
theorem dL_acts_3 : decode cL_acts 3 = .ok (.ishr, 1) := by decide +kernel
theorem dL_acts_4 : decode cL_acts 4 = .ok (.iconst 3, 1) := by decide +kernel
theorem dL_acts_5 : decode cL_acts 5 = .ok (.invokestatic 100, 3) := by decide +kernel
theorem dL_acts_8 : decode cL_acts 8 = .ok (.ifCond .ne 9, 3) := by decide +kernel
theorem dL_acts_11 : decode cL_acts 11 = .ok (.sipush 10000, 3) := by decide +kernel
theorem dL_acts_14 : decode cL_acts 14 = .ok (.goto 5, 3) := by decide +kernel
theorem dL_acts_17 : decode cL_acts 17 = .ok (.bipush 30, 2) := by decide +kernel
theorem dL_acts_19 : decode cL_acts 19 = .ok (.istore 6, 2) := by decide +kernel
theorem dL_acts_21 : decode cL_acts 21 = .ok (.iload 5, 2) := by decide +kernel
theorem dL_acts_23 : decode cL_acts 23 = .ok (.iconst 5, 1) := by decide +kernel
theorem dL_acts_24 : decode cL_acts 24 = .ok (.ishr, 1) := by decide +kernel
theorem dL_acts_25 : decode cL_acts 25 = .ok (.iload 6, 2) := by decide +kernel
theorem dL_acts_27 : decode cL_acts 27 = .ok (.invokestatic 100, 3) := by decide +kernel
theorem dL_acts_30 : decode cL_acts 30 = .ok (.istore 7, 2) := by decide +kernel
theorem dL_acts_32 : decode cL_acts 32 = .ok (.aload_n 1, 1) := by decide +kernel
theorem dL_acts_33 : decode cL_acts 33 = .ok (.aload_n 2, 1) := by decide +kernel
theorem dL_acts_34 : decode cL_acts 34 = .ok (.aload_n 3, 1) := by decide +kernel
theorem dL_acts_35 : decode cL_acts 35 = .ok (.iload 4, 2) := by decide +kernel
theorem dL_acts_37 : decode cL_acts 37 = .ok (.iload 7, 2) := by decide +kernel
theorem dL_acts_39 : decode cL_acts 39 = .ok (.invokestatic 103, 3) := by decide +kernel
theorem dL_acts_42 : decode cL_acts 42 = .ok (.istore 8, 2) := by decide +kernel
theorem dL_acts_44 : decode cL_acts 44 = .ok (.iload 5, 2) := by decide +kernel
theorem dL_acts_46 : decode cL_acts 46 = .ok (.bipush 10, 2) := by decide +kernel
theorem dL_acts_48 : decode cL_acts 48 = .ok (.invokestatic 100, 3) := by decide +kernel
theorem dL_acts_51 : decode cL_acts 51 = .ok (.tableswitch 575 0 8 #[49, 49, 49, 49, 127, 127, 127, 380, 508], 49) := by decide +kernel
theorem dL_acts_100 : decode cL_acts 100 = .ok (.iload 8, 2) := by decide +kernel
theorem dL_acts_102 : decode cL_acts 102 = .ok (.ifCond .ne 34, 3) := by decide +kernel
theorem dL_acts_105 : decode cL_acts 105 = .ok (.aload_n 1, 1) := by decide +kernel
theorem dL_acts_106 : decode cL_acts 106 = .ok (.aload_n 3, 1) := by decide +kernel
theorem dL_acts_107 : decode cL_acts 107 = .ok (.iload 4, 2) := by decide +kernel
theorem dL_acts_109 : decode cL_acts 109 = .ok (.invokestatic 81, 3) := by decide +kernel
theorem dL_acts_112 : decode cL_acts 112 = .ok (.bipush 24, 2) := by decide +kernel
theorem dL_acts_114 : decode cL_acts 114 = .ok (.if_icmp .ne 22, 3) := by decide +kernel
theorem dL_acts_117 : decode cL_acts 117 = .ok (.aload_n 0, 1) := by decide +kernel
theorem dL_acts_118 : decode cL_acts 118 = .ok (.iload 4, 2) := by decide +kernel
theorem dL_acts_120 : decode cL_acts 120 = .ok (.iload 7, 2) := by decide +kernel
theorem dL_acts_122 : decode cL_acts 122 = .ok (.invokestatic 107, 3) := by decide +kernel
theorem dL_acts_125 : decode cL_acts 125 = .ok (.ldc 23, 2) := by decide +kernel
theorem dL_acts_127 : decode cL_acts 127 = .ok (.if_icmp .ne 7, 3) := by decide +kernel
theorem dL_acts_130 : decode cL_acts 130 = .ok (.iconst 1, 1) := by decide +kernel
theorem dL_acts_131 : decode cL_acts 131 = .ok (.goto 4, 3) := by decide +kernel
theorem dL_acts_134 : decode cL_acts 134 = .ok (.iconst 0, 1) := by decide +kernel
theorem dL_acts_135 : decode cL_acts 135 = .ok (.ireturn, 1) := by decide +kernel
theorem dL_acts_136 : decode cL_acts 136 = .ok (.iload 8, 2) := by decide +kernel
theorem dL_acts_138 : decode cL_acts 138 = .ok (.ifCond .ne 13, 3) := by decide +kernel
theorem dL_acts_141 : decode cL_acts 141 = .ok (.aload_n 1, 1) := by decide +kernel
theorem dL_acts_142 : decode cL_acts 142 = .ok (.aload_n 2, 1) := by decide +kernel
theorem dL_acts_143 : decode cL_acts 143 = .ok (.aload_n 3, 1) := by decide +kernel
theorem dL_acts_144 : decode cL_acts 144 = .ok (.iload 4, 2) := by decide +kernel
theorem dL_acts_146 : decode cL_acts 146 = .ok (.iload 7, 2) := by decide +kernel
theorem dL_acts_148 : decode cL_acts 148 = .ok (.invokestatic 110, 3) := by decide +kernel
theorem dL_acts_151 : decode cL_acts 151 = .ok (.aload_n 0, 1) := by decide +kernel
theorem dL_acts_152 : decode cL_acts 152 = .ok (.iload 4, 2) := by decide +kernel
theorem dL_acts_154 : decode cL_acts 154 = .ok (.iload 7, 2) := by decide +kernel
theorem dL_acts_156 : decode cL_acts 156 = .ok (.invokestatic 107, 3) := by decide +kernel
theorem dL_acts_159 : decode cL_acts 159 = .ok (.iload 8, 2) := by decide +kernel
theorem dL_acts_161 : decode cL_acts 161 = .ok (.ifCond .eq 7, 3) := by decide +kernel
theorem dL_acts_164 : decode cL_acts 164 = .ok (.iconst 0, 1) := by decide +kernel
theorem dL_acts_165 : decode cL_acts 165 = .ok (.goto 4, 3) := by decide +kernel
theorem dL_acts_168 : decode cL_acts 168 = .ok (.iconst 1, 1) := by decide +kernel
theorem dL_acts_169 : decode cL_acts 169 = .ok (.if_icmp .ne 7, 3) := by decide +kernel
theorem dL_acts_172 : decode cL_acts 172 = .ok (.iconst 1, 1) := by decide +kernel
theorem dL_acts_173 : decode cL_acts 173 = .ok (.goto 4, 3) := by decide +kernel
theorem dL_acts_176 : decode cL_acts 176 = .ok (.iconst 0, 1) := by decide +kernel
theorem dL_acts_177 : decode cL_acts 177 = .ok (.ireturn, 1) := by decide +kernel
theorem dL_acts_178 : decode cL_acts 178 = .ok (.aload_n 3, 1) := by decide +kernel
theorem dL_acts_179 : decode cL_acts 179 = .ok (.iload 4, 2) := by decide +kernel
theorem dL_acts_181 : decode cL_acts 181 = .ok (.iaload, 1) := by decide +kernel
theorem dL_acts_182 : decode cL_acts 182 = .ok (.ifCond .le 35, 3) := by decide +kernel
theorem dL_acts_185 : decode cL_acts 185 = .ok (.iload 5, 2) := by decide +kernel
theorem dL_acts_187 : decode cL_acts 187 = .ok (.bipush 14, 2) := by decide +kernel
theorem dL_acts_189 : decode cL_acts 189 = .ok (.ishr, 1) := by decide +kernel
theorem dL_acts_190 : decode cL_acts 190 = .ok (.iconst 2, 1) := by decide +kernel
theorem dL_acts_191 : decode cL_acts 191 = .ok (.invokestatic 100, 3) := by decide +kernel
theorem dL_acts_194 : decode cL_acts 194 = .ok (.ifCond .ne 23, 3) := by decide +kernel
theorem dL_acts_197 : decode cL_acts 197 = .ok (.aload_n 1, 1) := by decide +kernel
theorem dL_acts_198 : decode cL_acts 198 = .ok (.iload 5, 2) := by decide +kernel
theorem dL_acts_200 : decode cL_acts 200 = .ok (.iconst 5, 1) := by decide +kernel
theorem dL_acts_201 : decode cL_acts 201 = .ok (.ishr, 1) := by decide +kernel
theorem dL_acts_202 : decode cL_acts 202 = .ok (.aload_n 3, 1) := by decide +kernel
theorem dL_acts_203 : decode cL_acts 203 = .ok (.iload 4, 2) := by decide +kernel
theorem dL_acts_205 : decode cL_acts 205 = .ok (.iaload, 1) := by decide +kernel
theorem dL_acts_206 : decode cL_acts 206 = .ok (.invokestatic 100, 3) := by decide +kernel
theorem dL_acts_209 : decode cL_acts 209 = .ok (.iaload, 1) := by decide +kernel
theorem dL_acts_210 : decode cL_acts 210 = .ok (.sipush 10000, 3) := by decide +kernel
theorem dL_acts_213 : decode cL_acts 213 = .ok (.irem, 1) := by decide +kernel
theorem dL_acts_214 : decode cL_acts 214 = .ok (.goto 52, 3) := by decide +kernel
theorem dL_acts_217 : decode cL_acts 217 = .ok (.aload_n 3, 1) := by decide +kernel
theorem dL_acts_218 : decode cL_acts 218 = .ok (.bipush 8, 2) := by decide +kernel
theorem dL_acts_220 : decode cL_acts 220 = .ok (.iload 4, 2) := by decide +kernel
theorem dL_acts_222 : decode cL_acts 222 = .ok (.iadd, 1) := by decide +kernel
theorem dL_acts_223 : decode cL_acts 223 = .ok (.iaload, 1) := by decide +kernel
theorem dL_acts_224 : decode cL_acts 224 = .ok (.ifCond .le 40, 3) := by decide +kernel
theorem dL_acts_227 : decode cL_acts 227 = .ok (.iload 5, 2) := by decide +kernel
theorem dL_acts_229 : decode cL_acts 229 = .ok (.bipush 15, 2) := by decide +kernel
theorem dL_acts_231 : decode cL_acts 231 = .ok (.ishr, 1) := by decide +kernel
theorem dL_acts_232 : decode cL_acts 232 = .ok (.iconst 2, 1) := by decide +kernel
theorem dL_acts_233 : decode cL_acts 233 = .ok (.invokestatic 100, 3) := by decide +kernel
theorem dL_acts_236 : decode cL_acts 236 = .ok (.ifCond .ne 28, 3) := by decide +kernel
theorem dL_acts_239 : decode cL_acts 239 = .ok (.aload_n 2, 1) := by decide +kernel
theorem dL_acts_240 : decode cL_acts 240 = .ok (.bipush 8, 2) := by decide +kernel
theorem dL_acts_242 : decode cL_acts 242 = .ok (.iload 4, 2) := by decide +kernel
theorem dL_acts_244 : decode cL_acts 244 = .ok (.imul, 1) := by decide +kernel
theorem dL_acts_245 : decode cL_acts 245 = .ok (.iload 5, 2) := by decide +kernel
theorem dL_acts_247 : decode cL_acts 247 = .ok (.iconst 5, 1) := by decide +kernel
theorem dL_acts_248 : decode cL_acts 248 = .ok (.ishr, 1) := by decide +kernel
theorem dL_acts_249 : decode cL_acts 249 = .ok (.aload_n 3, 1) := by decide +kernel
theorem dL_acts_250 : decode cL_acts 250 = .ok (.bipush 8, 2) := by decide +kernel
theorem dL_acts_252 : decode cL_acts 252 = .ok (.iload 4, 2) := by decide +kernel
theorem dL_acts_254 : decode cL_acts 254 = .ok (.iadd, 1) := by decide +kernel
theorem dL_acts_255 : decode cL_acts 255 = .ok (.iaload, 1) := by decide +kernel
theorem dL_acts_256 : decode cL_acts 256 = .ok (.invokestatic 100, 3) := by decide +kernel
theorem dL_acts_259 : decode cL_acts 259 = .ok (.iadd, 1) := by decide +kernel
theorem dL_acts_260 : decode cL_acts 260 = .ok (.iaload, 1) := by decide +kernel
theorem dL_acts_261 : decode cL_acts 261 = .ok (.goto 5, 3) := by decide +kernel
theorem dL_acts_264 : decode cL_acts 264 = .ok (.iload 7, 2) := by decide +kernel
theorem dL_acts_266 : decode cL_acts 266 = .ok (.istore 9, 2) := by decide +kernel
theorem dL_acts_268 : decode cL_acts 268 = .ok (.aload_n 1, 1) := by decide +kernel
theorem dL_acts_269 : decode cL_acts 269 = .ok (.aload_n 2, 1) := by decide +kernel
theorem dL_acts_270 : decode cL_acts 270 = .ok (.aload_n 3, 1) := by decide +kernel
theorem dL_acts_271 : decode cL_acts 271 = .ok (.iload 4, 2) := by decide +kernel
theorem dL_acts_273 : decode cL_acts 273 = .ok (.iload 9, 2) := by decide +kernel
theorem dL_acts_275 : decode cL_acts 275 = .ok (.invokestatic 103, 3) := by decide +kernel
theorem dL_acts_278 : decode cL_acts 278 = .ok (.istore 10, 2) := by decide +kernel
theorem dL_acts_280 : decode cL_acts 280 = .ok (.aload_n 2, 1) := by decide +kernel
theorem dL_acts_281 : decode cL_acts 281 = .ok (.aload_n 3, 1) := by decide +kernel
theorem dL_acts_282 : decode cL_acts 282 = .ok (.iload 4, 2) := by decide +kernel
theorem dL_acts_284 : decode cL_acts 284 = .ok (.iload 9, 2) := by decide +kernel
theorem dL_acts_286 : decode cL_acts 286 = .ok (.invokestatic 66, 3) := by decide +kernel
theorem dL_acts_289 : decode cL_acts 289 = .ok (.istore 11, 2) := by decide +kernel
theorem dL_acts_291 : decode cL_acts 291 = .ok (.iload 11, 2) := by decide +kernel
theorem dL_acts_293 : decode cL_acts 293 = .ok (.ifCond .lt 61, 3) := by decide +kernel
theorem dL_acts_296 : decode cL_acts 296 = .ok (.aload_n 3, 1) := by decide +kernel
theorem dL_acts_297 : decode cL_acts 297 = .ok (.bipush 8, 2) := by decide +kernel
theorem dL_acts_299 : decode cL_acts 299 = .ok (.iload 4, 2) := by decide +kernel
theorem dL_acts_301 : decode cL_acts 301 = .ok (.iadd, 1) := by decide +kernel
theorem dL_acts_302 : decode cL_acts 302 = .ok (.dup2, 1) := by decide +kernel
theorem dL_acts_303 : decode cL_acts 303 = .ok (.iaload, 1) := by decide +kernel
theorem dL_acts_304 : decode cL_acts 304 = .ok (.iconst 1, 1) := by decide +kernel
theorem dL_acts_305 : decode cL_acts 305 = .ok (.isub, 1) := by decide +kernel
theorem dL_acts_306 : decode cL_acts 306 = .ok (.iastore, 1) := by decide +kernel
theorem dL_acts_307 : decode cL_acts 307 = .ok (.iload 11, 2) := by decide +kernel
theorem dL_acts_309 : decode cL_acts 309 = .ok (.istore 12, 2) := by decide +kernel
theorem dL_acts_311 : decode cL_acts 311 = .ok (.iload 12, 2) := by decide +kernel
theorem dL_acts_313 : decode cL_acts 313 = .ok (.aload_n 3, 1) := by decide +kernel
theorem dL_acts_314 : decode cL_acts 314 = .ok (.bipush 8, 2) := by decide +kernel
theorem dL_acts_316 : decode cL_acts 316 = .ok (.iload 4, 2) := by decide +kernel
theorem dL_acts_318 : decode cL_acts 318 = .ok (.iadd, 1) := by decide +kernel
theorem dL_acts_319 : decode cL_acts 319 = .ok (.iaload, 1) := by decide +kernel
theorem dL_acts_320 : decode cL_acts 320 = .ok (.if_icmp .ge 31, 3) := by decide +kernel
theorem dL_acts_323 : decode cL_acts 323 = .ok (.aload_n 2, 1) := by decide +kernel
theorem dL_acts_324 : decode cL_acts 324 = .ok (.bipush 8, 2) := by decide +kernel
theorem dL_acts_326 : decode cL_acts 326 = .ok (.iload 4, 2) := by decide +kernel
theorem dL_acts_328 : decode cL_acts 328 = .ok (.imul, 1) := by decide +kernel
theorem dL_acts_329 : decode cL_acts 329 = .ok (.iload 12, 2) := by decide +kernel
theorem dL_acts_331 : decode cL_acts 331 = .ok (.iadd, 1) := by decide +kernel
theorem dL_acts_332 : decode cL_acts 332 = .ok (.aload_n 2, 1) := by decide +kernel
theorem dL_acts_333 : decode cL_acts 333 = .ok (.bipush 8, 2) := by decide +kernel
theorem dL_acts_335 : decode cL_acts 335 = .ok (.iload 4, 2) := by decide +kernel
theorem dL_acts_337 : decode cL_acts 337 = .ok (.imul, 1) := by decide +kernel
theorem dL_acts_338 : decode cL_acts 338 = .ok (.iload 12, 2) := by decide +kernel
theorem dL_acts_340 : decode cL_acts 340 = .ok (.iadd, 1) := by decide +kernel
theorem dL_acts_341 : decode cL_acts 341 = .ok (.iconst 1, 1) := by decide +kernel
theorem dL_acts_342 : decode cL_acts 342 = .ok (.iadd, 1) := by decide +kernel
theorem dL_acts_343 : decode cL_acts 343 = .ok (.iaload, 1) := by decide +kernel
theorem dL_acts_344 : decode cL_acts 344 = .ok (.iastore, 1) := by decide +kernel
theorem dL_acts_345 : decode cL_acts 345 = .ok (.iinc 12 1, 3) := by decide +kernel
theorem dL_acts_348 : decode cL_acts 348 = .ok (.goto (-37), 3) := by decide +kernel
theorem dL_acts_351 : decode cL_acts 351 = .ok (.goto 53, 3) := by decide +kernel
theorem dL_acts_354 : decode cL_acts 354 = .ok (.iload 10, 2) := by decide +kernel
theorem dL_acts_356 : decode cL_acts 356 = .ok (.ifCond .eq 48, 3) := by decide +kernel
theorem dL_acts_359 : decode cL_acts 359 = .ok (.aload_n 1, 1) := by decide +kernel
theorem dL_acts_360 : decode cL_acts 360 = .ok (.aload_n 3, 1) := by decide +kernel
theorem dL_acts_361 : decode cL_acts 361 = .ok (.iload 4, 2) := by decide +kernel
theorem dL_acts_363 : decode cL_acts 363 = .ok (.iload 9, 2) := by decide +kernel
theorem dL_acts_365 : decode cL_acts 365 = .ok (.invokestatic 60, 3) := by decide +kernel
