theorem dX2_init_0 : decode cX2_init 0 = .ok (.aload_n 0, 1) := by decide +kernel
theorem dX2_init_1 : decode cX2_init 1 = .ok (.invokespecial 3, 3) := by decide +kernel
theorem dX2_init_4 : decode cX2_init 4 = .ok (.aload_n 0, 1) := by decide +kernel
theorem dX2_init_5 : decode cX2_init 5 = .ok (.new 9, 3) := by decide +kernel
theorem dX2_init_8 : decode cX2_init 8 = .ok (.dup, 1) := by decide +kernel
theorem dX2_init_9 : decode cX2_init 9 = .ok (.bipush 96, 2) := by decide +kernel
theorem dX2_init_11 : decode cX2_init 11 = .ok (.invokespecial 11, 3) := by decide +kernel
theorem dX2_init_14 : decode cX2_init 14 = .ok (.putfield 14, 3) := by decide +kernel
theorem dX2_init_17 : decode cX2_init 17 = .ok (.aload_n 0, 1) := by decide +kernel
theorem dX2_init_18 : decode cX2_init 18 = .ok (.new 9, 3) := by decide +kernel
theorem dX2_init_21 : decode cX2_init 21 = .ok (.dup, 1) := by decide +kernel
theorem dX2_init_22 : decode cX2_init 22 = .ok (.bipush 96, 2) := by decide +kernel
theorem dX2_init_24 : decode cX2_init 24 = .ok (.invokespecial 11, 3) := by decide +kernel
theorem dX2_init_27 : decode cX2_init 27 = .ok (.putfield 20, 3) := by decide +kernel
theorem dX2_init_30 : decode cX2_init 30 = .ok (.aload_n 0, 1) := by decide +kernel
theorem dX2_init_31 : decode cX2_init 31 = .ok (.new 9, 3) := by decide +kernel
theorem dX2_init_34 : decode cX2_init 34 = .ok (.dup, 1) := by decide +kernel
theorem dX2_init_35 : decode cX2_init 35 = .ok (.bipush 97, 2) := by decide +kernel
theorem dX2_init_37 : decode cX2_init 37 = .ok (.invokespecial 11, 3) := by decide +kernel
theorem dX2_init_40 : decode cX2_init 40 = .ok (.putfield 23, 3) := by decide +kernel
theorem dX2_init_43 : decode cX2_init 43 = .ok (.aload_n 0, 1) := by decide +kernel
theorem dX2_init_44 : decode cX2_init 44 = .ok (.new 9, 3) := by decide +kernel
theorem dX2_init_47 : decode cX2_init 47 = .ok (.dup, 1) := by decide +kernel
theorem dX2_init_48 : decode cX2_init 48 = .ok (.bipush 97, 2) := by decide +kernel
theorem dX2_init_50 : decode cX2_init 50 = .ok (.invokespecial 11, 3) := by decide +kernel
theorem dX2_init_53 : decode cX2_init 53 = .ok (.putfield 26, 3) := by decide +kernel
theorem dX2_init_56 : decode cX2_init 56 = .ok (.aload_n 0, 1) := by decide +kernel
theorem dX2_init_57 : decode cX2_init 57 = .ok (.new 9, 3) := by decide +kernel
theorem dX2_init_60 : decode cX2_init 60 = .ok (.dup, 1) := by decide +kernel
theorem dX2_init_61 : decode cX2_init 61 = .ok (.bipush 97, 2) := by decide +kernel
theorem dX2_init_63 : decode cX2_init 63 = .ok (.invokespecial 11, 3) := by decide +kernel
theorem dX2_init_66 : decode cX2_init 66 = .ok (.putfield 29, 3) := by decide +kernel
theorem dX2_init_69 : decode cX2_init 69 = .ok (.aload_n 0, 1) := by decide +kernel
theorem dX2_init_70 : decode cX2_init 70 = .ok (.getfield 23, 3) := by decide +kernel
theorem dX2_init_73 : decode cX2_init 73 = .ok (.iconst 0, 1) := by decide +kernel
theorem dX2_init_74 : decode cX2_init 74 = .ok (.invokevirtual 32, 3) := by decide +kernel
theorem dX2_init_77 : decode cX2_init 77 = .ok (.aload_n 0, 1) := by decide +kernel
theorem dX2_init_78 : decode cX2_init 78 = .ok (.getfield 26, 3) := by decide +kernel
theorem dX2_init_81 : decode cX2_init 81 = .ok (.iconst 0, 1) := by decide +kernel
theorem dX2_init_82 : decode cX2_init 82 = .ok (.invokevirtual 32, 3) := by decide +kernel
theorem dX2_init_85 : decode cX2_init 85 = .ok (.aload_n 0, 1) := by decide +kernel
theorem dX2_init_86 : decode cX2_init 86 = .ok (.getfield 29, 3) := by decide +kernel
theorem dX2_init_89 : decode cX2_init 89 = .ok (.iconst 0, 1) := by decide +kernel
theorem dX2_init_90 : decode cX2_init 90 = .ok (.invokevirtual 32, 3) := by decide +kernel
theorem dX2_init_93 : decode cX2_init 93 = .ok (.return_, 1) := by decide +kernel
theorem dX2_size_0 : decode cX2_size 0 = .ok (.aload_n 0, 1) := by decide +kernel
theorem dX2_size_1 : decode cX2_size 1 = .ok (.getfield 14, 3) := by decide +kernel
theorem dX2_size_4 : decode cX2_size 4 = .ok (.invokevirtual 35, 3) := by decide +kernel
theorem dX2_size_7 : decode cX2_size 7 = .ok (.ireturn, 1) := by decide +kernel
theorem dX2_bridgeOf_0 : decode cX2_bridgeOf 0 = .ok (.iload_n 2, 1) := by decide +kernel
theorem dX2_bridgeOf_1 : decode cX2_bridgeOf 1 = .ok (.ifCond .ne 10, 3) := by decide +kernel
theorem dX2_bridgeOf_4 : decode cX2_bridgeOf 4 = .ok (.aload_n 0, 1) := by decide +kernel
theorem dX2_bridgeOf_5 : decode cX2_bridgeOf 5 = .ok (.getfield 23, 3) := by decide +kernel
theorem dX2_bridgeOf_8 : decode cX2_bridgeOf 8 = .ok (.goto 19, 3) := by decide +kernel
theorem dX2_bridgeOf_11 : decode cX2_bridgeOf 11 = .ok (.iload_n 2, 1) := by decide +kernel
theorem dX2_bridgeOf_12 : decode cX2_bridgeOf 12 = .ok (.iconst 1, 1) := by decide +kernel
theorem dX2_bridgeOf_13 : decode cX2_bridgeOf 13 = .ok (.if_icmp .ne 10, 3) := by decide +kernel
theorem dX2_bridgeOf_16 : decode cX2_bridgeOf 16 = .ok (.aload_n 0, 1) := by decide +kernel
theorem dX2_bridgeOf_17 : decode cX2_bridgeOf 17 = .ok (.getfield 26, 3) := by decide +kernel
theorem dX2_bridgeOf_20 : decode cX2_bridgeOf 20 = .ok (.goto 7, 3) := by decide +kernel
theorem dX2_bridgeOf_23 : decode cX2_bridgeOf 23 = .ok (.aload_n 0, 1) := by decide +kernel
theorem dX2_bridgeOf_24 : decode cX2_bridgeOf 24 = .ok (.getfield 29, 3) := by decide +kernel
theorem dX2_bridgeOf_27 : decode cX2_bridgeOf 27 = .ok (.astore_n 3, 1) := by decide +kernel
theorem dX2_bridgeOf_28 : decode cX2_bridgeOf 28 = .ok (.aload_n 3, 1) := by decide +kernel
theorem dX2_bridgeOf_29 : decode cX2_bridgeOf 29 = .ok (.iload_n 1, 1) := by decide +kernel
theorem dX2_bridgeOf_30 : decode cX2_bridgeOf 30 = .ok (.iconst 0, 1) := by decide +kernel
theorem dX2_bridgeOf_31 : decode cX2_bridgeOf 31 = .ok (.invokevirtual 39, 3) := by decide +kernel
theorem dX2_bridgeOf_34 : decode cX2_bridgeOf 34 = .ok (.ireturn, 1) := by decide +kernel
theorem dX2_build_0 : decode cX2_build 0 = .ok (.aload_n 0, 1) := by decide +kernel
theorem dX2_build_1 : decode cX2_build 1 = .ok (.getfield 14, 3) := by decide +kernel
theorem dX2_build_4 : decode cX2_build 4 = .ok (.iconst 0, 1) := by decide +kernel
theorem dX2_build_5 : decode cX2_build 5 = .ok (.invokevirtual 43, 3) := by decide +kernel
theorem dX2_build_8 : decode cX2_build 8 = .ok (.aload_n 0, 1) := by decide +kernel
theorem dX2_build_9 : decode cX2_build 9 = .ok (.getfield 20, 3) := by decide +kernel
theorem dX2_build_12 : decode cX2_build 12 = .ok (.iconst 0, 1) := by decide +kernel
theorem dX2_build_13 : decode cX2_build 13 = .ok (.invokevirtual 43, 3) := by decide +kernel
theorem dX2_build_16 : decode cX2_build 16 = .ok (.iconst 0, 1) := by decide +kernel
theorem dX2_build_17 : decode cX2_build 17 = .ok (.istore 5, 2) := by decide +kernel
theorem dX2_build_19 : decode cX2_build 19 = .ok (.iload 4, 2) := by decide +kernel
theorem dX2_build_21 : decode cX2_build 21 = .ok (.iconst 1, 1) := by decide +kernel
theorem dX2_build_22 : decode cX2_build 22 = .ok (.isub, 1) := by decide +kernel
theorem dX2_build_23 : decode cX2_build 23 = .ok (.istore 6, 2) := by decide +kernel
theorem dX2_build_25 : decode cX2_build 25 = .ok (.iload 4, 2) := by decide +kernel
theorem dX2_build_27 : decode cX2_build 27 = .ok (.iconst 1, 1) := by decide +kernel
theorem dX2_build_28 : decode cX2_build 28 = .ok (.isub, 1) := by decide +kernel
theorem dX2_build_29 : decode cX2_build 29 = .ok (.istore 7, 2) := by decide +kernel
theorem dX2_build_31 : decode cX2_build 31 = .ok (.aload_n 1, 1) := by decide +kernel
theorem dX2_build_32 : decode cX2_build 32 = .ok (.invokevirtual 35, 3) := by decide +kernel
theorem dX2_build_35 : decode cX2_build 35 = .ok (.aload_n 2, 1) := by decide +kernel
theorem dX2_build_36 : decode cX2_build 36 = .ok (.invokevirtual 35, 3) := by decide +kernel
theorem dX2_build_39 : decode cX2_build 39 = .ok (.iadd, 1) := by decide +kernel
theorem dX2_build_40 : decode cX2_build 40 = .ok (.aload_n 3, 1) := by decide +kernel
theorem dX2_build_41 : decode cX2_build 41 = .ok (.invokevirtual 35, 3) := by decide +kernel
theorem dX2_build_44 : decode cX2_build 44 = .ok (.iadd, 1) := by decide +kernel
theorem dX2_build_45 : decode cX2_build 45 = .ok (.istore 8, 2) := by decide +kernel
theorem dX2_build_47 : decode cX2_build 47 = .ok (.iconst 0, 1) := by decide +kernel
theorem dX2_build_48 : decode cX2_build 48 = .ok (.istore 9, 2) := by decide +kernel
theorem dX2_build_50 : decode cX2_build 50 = .ok (.iload 9, 2) := by decide +kernel
theorem dX2_build_52 : decode cX2_build 52 = .ok (.iload 8, 2) := by decide +kernel
theorem dX2_build_54 : decode cX2_build 54 = .ok (.if_icmp .ge 137, 3) := by decide +kernel
theorem dX2_build_57 : decode cX2_build 57 = .ok (.aload_n 1, 1) := by decide +kernel
theorem dX2_build_58 : decode cX2_build 58 = .ok (.iload 5, 2) := by decide +kernel
theorem dX2_build_60 : decode cX2_build 60 = .ok (.sipush 10000, 3) := by decide +kernel
theorem dX2_build_63 : decode cX2_build 63 = .ok (.invokevirtual 39, 3) := by decide +kernel
theorem dX2_build_66 : decode cX2_build 66 = .ok (.istore 10, 2) := by decide +kernel
theorem dX2_build_68 : decode cX2_build 68 = .ok (.aload_n 2, 1) := by decide +kernel
theorem dX2_build_69 : decode cX2_build 69 = .ok (.iload 6, 2) := by decide +kernel
theorem dX2_build_71 : decode cX2_build 71 = .ok (.sipush 10000, 3) := by decide +kernel
theorem dX2_build_74 : decode cX2_build 74 = .ok (.invokevirtual 39, 3) := by decide +kernel
theorem dX2_build_77 : decode cX2_build 77 = .ok (.istore 11, 2) := by decide +kernel
theorem dX2_build_79 : decode cX2_build 79 = .ok (.aload_n 3, 1) := by decide +kernel
theorem dX2_build_80 : decode cX2_build 80 = .ok (.iload 7, 2) := by decide +kernel
theorem dX2_build_82 : decode cX2_build 82 = .ok (.sipush 10000, 3) := by decide +kernel
theorem dX2_build_85 : decode cX2_build 85 = .ok (.invokevirtual 39, 3) := by decide +kernel
theorem dX2_build_88 : decode cX2_build 88 = .ok (.istore 12, 2) := by decide +kernel
theorem dX2_build_90 : decode cX2_build 90 = .ok (.iload 10, 2) := by decide +kernel
theorem dX2_build_92 : decode cX2_build 92 = .ok (.iload 11, 2) := by decide +kernel
theorem dX2_build_94 : decode cX2_build 94 = .ok (.iload 12, 2) := by decide +kernel
theorem dX2_build_96 : decode cX2_build 96 = .ok (.invokestatic 46, 3) := by decide +kernel
theorem dX2_build_99 : decode cX2_build 99 = .ok (.invokestatic 46, 3) := by decide +kernel
theorem dX2_build_102 : decode cX2_build 102 = .ok (.istore 13, 2) := by decide +kernel
theorem dX2_build_104 : decode cX2_build 104 = .ok (.iload 13, 2) := by decide +kernel
theorem dX2_build_106 : decode cX2_build 106 = .ok (.sipush 10000, 3) := by decide +kernel
theorem dX2_build_109 : decode cX2_build 109 = .ok (.if_icmp .ne 6, 3) := by decide +kernel
theorem dX2_build_112 : decode cX2_build 112 = .ok (.goto 79, 3) := by decide +kernel
theorem dX2_build_115 : decode cX2_build 115 = .ok (.aload_n 0, 1) := by decide +kernel
theorem dX2_build_116 : decode cX2_build 116 = .ok (.getfield 14, 3) := by decide +kernel
theorem dX2_build_119 : decode cX2_build 119 = .ok (.iload 13, 2) := by decide +kernel
theorem dX2_build_121 : decode cX2_build 121 = .ok (.invokevirtual 32, 3) := by decide +kernel
theorem dX2_build_124 : decode cX2_build 124 = .ok (.iload 10, 2) := by decide +kernel
theorem dX2_build_126 : decode cX2_build 126 = .ok (.iload 13, 2) := by decide +kernel
theorem dX2_build_128 : decode cX2_build 128 = .ok (.if_icmp .ne 17, 3) := by decide +kernel
theorem dX2_build_131 : decode cX2_build 131 = .ok (.aload_n 0, 1) := by decide +kernel
theorem dX2_build_132 : decode cX2_build 132 = .ok (.getfield 20, 3) := by decide +kernel
theorem dX2_build_135 : decode cX2_build 135 = .ok (.iconst 0, 1) := by decide +kernel
theorem dX2_build_136 : decode cX2_build 136 = .ok (.invokevirtual 32, 3) := by decide +kernel
theorem dX2_build_139 : decode cX2_build 139 = .ok (.iinc 5 1, 3) := by decide +kernel
theorem dX2_build_142 : decode cX2_build 142 = .ok (.goto 43, 3) := by decide +kernel
theorem dX2_build_145 : decode cX2_build 145 = .ok (.iload 11, 2) := by decide +kernel
theorem dX2_build_147 : decode cX2_build 147 = .ok (.iload 13, 2) := by decide +kernel
theorem dX2_build_149 : decode cX2_build 149 = .ok (.if_icmp .ne 21, 3) := by decide +kernel
theorem dX2_build_152 : decode cX2_build 152 = .ok (.aload_n 0, 1) := by decide +kernel
theorem dX2_build_153 : decode cX2_build 153 = .ok (.getfield 20, 3) := by decide +kernel
theorem dX2_build_156 : decode cX2_build 156 = .ok (.iconst 1, 1) := by decide +kernel
theorem dX2_build_157 : decode cX2_build 157 = .ok (.invokevirtual 32, 3) := by decide +kernel
theorem dX2_build_160 : decode cX2_build 160 = .ok (.iload 6, 2) := by decide +kernel
theorem dX2_build_162 : decode cX2_build 162 = .ok (.iload 4, 2) := by decide +kernel
theorem dX2_build_164 : decode cX2_build 164 = .ok (.iadd, 1) := by decide +kernel
theorem dX2_build_165 : decode cX2_build 165 = .ok (.istore 6, 2) := by decide +kernel
theorem dX2_build_167 : decode cX2_build 167 = .ok (.goto 18, 3) := by decide +kernel
theorem dX2_build_170 : decode cX2_build 170 = .ok (.aload_n 0, 1) := by decide +kernel
theorem dX2_build_171 : decode cX2_build 171 = .ok (.getfield 20, 3) := by decide +kernel
theorem dX2_build_174 : decode cX2_build 174 = .ok (.iconst 2, 1) := by decide +kernel
theorem dX2_build_175 : decode cX2_build 175 = .ok (.invokevirtual 32, 3) := by decide +kernel
theorem dX2_build_178 : decode cX2_build 178 = .ok (.iload 7, 2) := by decide +kernel
theorem dX2_build_180 : decode cX2_build 180 = .ok (.iload 4, 2) := by decide +kernel
theorem dX2_build_182 : decode cX2_build 182 = .ok (.iadd, 1) := by decide +kernel
theorem dX2_build_183 : decode cX2_build 183 = .ok (.istore 7, 2) := by decide +kernel
theorem dX2_build_185 : decode cX2_build 185 = .ok (.iinc 9 1, 3) := by decide +kernel
theorem dX2_build_188 : decode cX2_build 188 = .ok (.goto (-138), 3) := by decide +kernel
theorem dX2_build_191 : decode cX2_build 191 = .ok (.aload_n 0, 1) := by decide +kernel
theorem dX2_build_192 : decode cX2_build 192 = .ok (.aload_n 0, 1) := by decide +kernel
theorem dX2_build_193 : decode cX2_build 193 = .ok (.getfield 23, 3) := by decide +kernel
theorem dX2_build_196 : decode cX2_build 196 = .ok (.aload_n 1, 1) := by decide +kernel
theorem dX2_build_197 : decode cX2_build 197 = .ok (.invokevirtual 51, 3) := by decide +kernel
theorem dX2_build_200 : decode cX2_build 200 = .ok (.aload_n 0, 1) := by decide +kernel
theorem dX2_build_201 : decode cX2_build 201 = .ok (.aload_n 0, 1) := by decide +kernel
theorem dX2_build_202 : decode cX2_build 202 = .ok (.getfield 26, 3) := by decide +kernel
theorem dX2_build_205 : decode cX2_build 205 = .ok (.aload_n 2, 1) := by decide +kernel
theorem dX2_build_206 : decode cX2_build 206 = .ok (.invokevirtual 51, 3) := by decide +kernel
theorem dX2_build_209 : decode cX2_build 209 = .ok (.aload_n 0, 1) := by decide +kernel
theorem dX2_build_210 : decode cX2_build 210 = .ok (.aload_n 0, 1) := by decide +kernel
theorem dX2_build_211 : decode cX2_build 211 = .ok (.getfield 29, 3) := by decide +kernel
theorem dX2_build_214 : decode cX2_build 214 = .ok (.aload_n 3, 1) := by decide +kernel
theorem dX2_build_215 : decode cX2_build 215 = .ok (.invokevirtual 51, 3) := by decide +kernel
theorem dX2_build_218 : decode cX2_build 218 = .ok (.return_, 1) := by decide +kernel
theorem dX2_layBridges_0 : decode cX2_layBridges 0 = .ok (.aload_n 1, 1) := by decide +kernel
theorem dX2_layBridges_1 : decode cX2_layBridges 1 = .ok (.iconst 0, 1) := by decide +kernel
theorem dX2_layBridges_2 : decode cX2_layBridges 2 = .ok (.invokevirtual 43, 3) := by decide +kernel
theorem dX2_layBridges_5 : decode cX2_layBridges 5 = .ok (.iconst 0, 1) := by decide +kernel
theorem dX2_layBridges_6 : decode cX2_layBridges 6 = .ok (.istore_n 3, 1) := by decide +kernel
theorem dX2_layBridges_7 : decode cX2_layBridges 7 = .ok (.iconst 0, 1) := by decide +kernel
theorem dX2_layBridges_8 : decode cX2_layBridges 8 = .ok (.istore 4, 2) := by decide +kernel
theorem dX2_layBridges_10 : decode cX2_layBridges 10 = .ok (.iload 4, 2) := by decide +kernel
theorem dX2_layBridges_12 : decode cX2_layBridges 12 = .ok (.aload_n 0, 1) := by decide +kernel
theorem dX2_layBridges_13 : decode cX2_layBridges 13 = .ok (.getfield 14, 3) := by decide +kernel
theorem dX2_layBridges_16 : decode cX2_layBridges 16 = .ok (.invokevirtual 35, 3) := by decide +kernel
theorem dX2_layBridges_19 : decode cX2_layBridges 19 = .ok (.if_icmp .gt 32, 3) := by decide +kernel
theorem dX2_layBridges_22 : decode cX2_layBridges 22 = .ok (.aload_n 2, 1) := by decide +kernel
theorem dX2_layBridges_23 : decode cX2_layBridges 23 = .ok (.aload_n 0, 1) := by decide +kernel
theorem dX2_layBridges_24 : decode cX2_layBridges 24 = .ok (.getfield 14, 3) := by decide +kernel
theorem dX2_layBridges_27 : decode cX2_layBridges 27 = .ok (.iload 4, 2) := by decide +kernel
theorem dX2_layBridges_29 : decode cX2_layBridges 29 = .ok (.sipush 10000, 3) := by decide +kernel
theorem dX2_layBridges_32 : decode cX2_layBridges 32 = .ok (.invokevirtual 39, 3) := by decide +kernel
theorem dX2_layBridges_35 : decode cX2_layBridges 35 = .ok (.iload_n 3, 1) := by decide +kernel
theorem dX2_layBridges_36 : decode cX2_layBridges 36 = .ok (.invokevirtual 55, 3) := by decide +kernel
theorem dX2_layBridges_39 : decode cX2_layBridges 39 = .ok (.istore_n 3, 1) := by decide +kernel
theorem dX2_layBridges_40 : decode cX2_layBridges 40 = .ok (.aload_n 1, 1) := by decide +kernel
theorem dX2_layBridges_41 : decode cX2_layBridges 41 = .ok (.iload_n 3, 1) := by decide +kernel
theorem dX2_layBridges_42 : decode cX2_layBridges 42 = .ok (.invokevirtual 32, 3) := by decide +kernel
theorem dX2_layBridges_45 : decode cX2_layBridges 45 = .ok (.iinc 4 1, 3) := by decide +kernel
theorem dX2_layBridges_48 : decode cX2_layBridges 48 = .ok (.goto (-38), 3) := by decide +kernel
theorem dX2_layBridges_51 : decode cX2_layBridges 51 = .ok (.return_, 1) := by decide +kernel
theorem dX2_copyFrom_0 : decode cX2_copyFrom 0 = .ok (.aload_n 0, 1) := by decide +kernel
theorem dX2_copyFrom_1 : decode cX2_copyFrom 1 = .ok (.getfield 14, 3) := by decide +kernel
theorem dX2_copyFrom_4 : decode cX2_copyFrom 4 = .ok (.aload_n 1, 1) := by decide +kernel
theorem dX2_copyFrom_5 : decode cX2_copyFrom 5 = .ok (.getfield 14, 3) := by decide +kernel
theorem dX2_copyFrom_8 : decode cX2_copyFrom 8 = .ok (.invokevirtual 58, 3) := by decide +kernel
theorem dX2_copyFrom_11 : decode cX2_copyFrom 11 = .ok (.aload_n 0, 1) := by decide +kernel
theorem dX2_copyFrom_12 : decode cX2_copyFrom 12 = .ok (.getfield 20, 3) := by decide +kernel
theorem dX2_copyFrom_15 : decode cX2_copyFrom 15 = .ok (.aload_n 1, 1) := by decide +kernel
theorem dX2_copyFrom_16 : decode cX2_copyFrom 16 = .ok (.getfield 20, 3) := by decide +kernel
theorem dX2_copyFrom_19 : decode cX2_copyFrom 19 = .ok (.invokevirtual 58, 3) := by decide +kernel
theorem dX2_copyFrom_22 : decode cX2_copyFrom 22 = .ok (.aload_n 0, 1) := by decide +kernel
theorem dX2_copyFrom_23 : decode cX2_copyFrom 23 = .ok (.getfield 23, 3) := by decide +kernel
theorem dX2_copyFrom_26 : decode cX2_copyFrom 26 = .ok (.aload_n 1, 1) := by decide +kernel
theorem dX2_copyFrom_27 : decode cX2_copyFrom 27 = .ok (.getfield 23, 3) := by decide +kernel
theorem dX2_copyFrom_30 : decode cX2_copyFrom 30 = .ok (.invokevirtual 58, 3) := by decide +kernel
theorem dX2_copyFrom_33 : decode cX2_copyFrom 33 = .ok (.aload_n 0, 1) := by decide +kernel
theorem dX2_copyFrom_34 : decode cX2_copyFrom 34 = .ok (.getfield 26, 3) := by decide +kernel
theorem dX2_copyFrom_37 : decode cX2_copyFrom 37 = .ok (.aload_n 1, 1) := by decide +kernel
theorem dX2_copyFrom_38 : decode cX2_copyFrom 38 = .ok (.getfield 26, 3) := by decide +kernel
theorem dX2_copyFrom_41 : decode cX2_copyFrom 41 = .ok (.invokevirtual 58, 3) := by decide +kernel
theorem dX2_copyFrom_44 : decode cX2_copyFrom 44 = .ok (.aload_n 0, 1) := by decide +kernel
theorem dX2_copyFrom_45 : decode cX2_copyFrom 45 = .ok (.getfield 29, 3) := by decide +kernel
theorem dX2_copyFrom_48 : decode cX2_copyFrom 48 = .ok (.aload_n 1, 1) := by decide +kernel
theorem dX2_copyFrom_49 : decode cX2_copyFrom 49 = .ok (.getfield 29, 3) := by decide +kernel
theorem dX2_copyFrom_52 : decode cX2_copyFrom 52 = .ok (.invokevirtual 58, 3) := by decide +kernel
theorem dX2_copyFrom_55 : decode cX2_copyFrom 55 = .ok (.return_, 1) := by decide +kernel
