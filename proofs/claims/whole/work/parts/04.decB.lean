theorem dX4_lookAtBlocks_118 : decode cX4_lookAtBlocks 118 = .ok (.lconst 0, 1) := by decide +kernel
theorem dX4_lookAtBlocks_119 : decode cX4_lookAtBlocks 119 = .ok (.lcmp, 1) := by decide +kernel
theorem dX4_lookAtBlocks_120 : decode cX4_lookAtBlocks 120 = .ok (.ifCond .le 14, 3) := by decide +kernel
theorem dX4_lookAtBlocks_123 : decode cX4_lookAtBlocks 123 = .ok (.aload_n 0, 1) := by decide +kernel
theorem dX4_lookAtBlocks_124 : decode cX4_lookAtBlocks 124 = .ok (.iload_n 1, 1) := by decide +kernel
theorem dX4_lookAtBlocks_125 : decode cX4_lookAtBlocks 125 = .ok (.iload 9, 2) := by decide +kernel
theorem dX4_lookAtBlocks_127 : decode cX4_lookAtBlocks 127 = .ok (.iload_n 2, 1) := by decide +kernel
theorem dX4_lookAtBlocks_128 : decode cX4_lookAtBlocks 128 = .ok (.invokevirtual 140, 3) := by decide +kernel
theorem dX4_lookAtBlocks_131 : decode cX4_lookAtBlocks 131 = .ok (.goto 11, 3) := by decide +kernel
theorem dX4_lookAtBlocks_134 : decode cX4_lookAtBlocks 134 = .ok (.aload_n 0, 1) := by decide +kernel
theorem dX4_lookAtBlocks_135 : decode cX4_lookAtBlocks 135 = .ok (.iload_n 1, 1) := by decide +kernel
theorem dX4_lookAtBlocks_136 : decode cX4_lookAtBlocks 136 = .ok (.iload 9, 2) := by decide +kernel
theorem dX4_lookAtBlocks_138 : decode cX4_lookAtBlocks 138 = .ok (.iload_n 2, 1) := by decide +kernel
theorem dX4_lookAtBlocks_139 : decode cX4_lookAtBlocks 139 = .ok (.invokevirtual 144, 3) := by decide +kernel
theorem dX4_lookAtBlocks_142 : decode cX4_lookAtBlocks 142 = .ok (.iinc 5 1, 3) := by decide +kernel
theorem dX4_lookAtBlocks_145 : decode cX4_lookAtBlocks 145 = .ok (.goto (-131), 3) := by decide +kernel
theorem dX4_lookAtBlocks_148 : decode cX4_lookAtBlocks 148 = .ok (.aload_n 0, 1) := by decide +kernel
theorem dX4_lookAtBlocks_149 : decode cX4_lookAtBlocks 149 = .ok (.getfield 41, 3) := by decide +kernel
theorem dX4_lookAtBlocks_152 : decode cX4_lookAtBlocks 152 = .ok (.invokevirtual 21, 3) := by decide +kernel
theorem dX4_lookAtBlocks_155 : decode cX4_lookAtBlocks 155 = .ok (.istore 5, 2) := by decide +kernel
theorem dX4_lookAtBlocks_157 : decode cX4_lookAtBlocks 157 = .ok (.iload 4, 2) := by decide +kernel
theorem dX4_lookAtBlocks_159 : decode cX4_lookAtBlocks 159 = .ok (.ifCond .le 24, 3) := by decide +kernel
theorem dX4_lookAtBlocks_162 : decode cX4_lookAtBlocks 162 = .ok (.aload_n 0, 1) := by decide +kernel
theorem dX4_lookAtBlocks_163 : decode cX4_lookAtBlocks 163 = .ok (.getfield 41, 3) := by decide +kernel
theorem dX4_lookAtBlocks_166 : decode cX4_lookAtBlocks 166 = .ok (.iload 4, 2) := by decide +kernel
theorem dX4_lookAtBlocks_168 : decode cX4_lookAtBlocks 168 = .ok (.i2l, 1) := by decide +kernel
theorem dX4_lookAtBlocks_169 : decode cX4_lookAtBlocks 169 = .ok (.invokevirtual 114, 3) := by decide +kernel
theorem dX4_lookAtBlocks_172 : decode cX4_lookAtBlocks 172 = .ok (.pop, 1) := by decide +kernel
theorem dX4_lookAtBlocks_173 : decode cX4_lookAtBlocks 173 = .ok (.aload_n 0, 1) := by decide +kernel
theorem dX4_lookAtBlocks_174 : decode cX4_lookAtBlocks 174 = .ok (.getfield 41, 3) := by decide +kernel
theorem dX4_lookAtBlocks_177 : decode cX4_lookAtBlocks 177 = .ok (.iload_n 3, 1) := by decide +kernel
theorem dX4_lookAtBlocks_178 : decode cX4_lookAtBlocks 178 = .ok (.iload 5, 2) := by decide +kernel
theorem dX4_lookAtBlocks_180 : decode cX4_lookAtBlocks 180 = .ok (.invokevirtual 147, 3) := by decide +kernel
theorem dX4_lookAtBlocks_183 : decode cX4_lookAtBlocks 183 = .ok (.aload_n 0, 1) := by decide +kernel
theorem dX4_lookAtBlocks_184 : decode cX4_lookAtBlocks 184 = .ok (.getfield 41, 3) := by decide +kernel
theorem dX4_lookAtBlocks_187 : decode cX4_lookAtBlocks 187 = .ok (.lconst 0, 1) := by decide +kernel
theorem dX4_lookAtBlocks_188 : decode cX4_lookAtBlocks 188 = .ok (.invokevirtual 114, 3) := by decide +kernel
theorem dX4_lookAtBlocks_191 : decode cX4_lookAtBlocks 191 = .ok (.pop, 1) := by decide +kernel
theorem dX4_lookAtBlocks_192 : decode cX4_lookAtBlocks 192 = .ok (.return_, 1) := by decide +kernel
theorem dX4_lookAtMeasuredItems_0 : decode cX4_lookAtMeasuredItems 0 = .ok (.aload_n 0, 1) := by decide +kernel
theorem dX4_lookAtMeasuredItems_1 : decode cX4_lookAtMeasuredItems 1 = .ok (.getfield 18, 3) := by decide +kernel
theorem dX4_lookAtMeasuredItems_4 : decode cX4_lookAtMeasuredItems 4 = .ok (.istore 4, 2) := by decide +kernel
theorem dX4_lookAtMeasuredItems_6 : decode cX4_lookAtMeasuredItems 6 = .ok (.aload_n 0, 1) := by decide +kernel
theorem dX4_lookAtMeasuredItems_7 : decode cX4_lookAtMeasuredItems 7 = .ok (.invokevirtual 110, 3) := by decide +kernel
theorem dX4_lookAtMeasuredItems_10 : decode cX4_lookAtMeasuredItems 10 = .ok (.lstore 5, 2) := by decide +kernel
theorem dX4_lookAtMeasuredItems_12 : decode cX4_lookAtMeasuredItems 12 = .ok (.aload_n 0, 1) := by decide +kernel
theorem dX4_lookAtMeasuredItems_13 : decode cX4_lookAtMeasuredItems 13 = .ok (.getfield 18, 3) := by decide +kernel
theorem dX4_lookAtMeasuredItems_16 : decode cX4_lookAtMeasuredItems 16 = .ok (.istore 7, 2) := by decide +kernel
theorem dX4_lookAtMeasuredItems_18 : decode cX4_lookAtMeasuredItems 18 = .ok (.aload_n 0, 1) := by decide +kernel
theorem dX4_lookAtMeasuredItems_19 : decode cX4_lookAtMeasuredItems 19 = .ok (.iload_n 1, 1) := by decide +kernel
theorem dX4_lookAtMeasuredItems_20 : decode cX4_lookAtMeasuredItems 20 = .ok (.iload_n 2, 1) := by decide +kernel
theorem dX4_lookAtMeasuredItems_21 : decode cX4_lookAtMeasuredItems 21 = .ok (.iload_n 3, 1) := by decide +kernel
theorem dX4_lookAtMeasuredItems_22 : decode cX4_lookAtMeasuredItems 22 = .ok (.invokevirtual 140, 3) := by decide +kernel
theorem dX4_lookAtMeasuredItems_25 : decode cX4_lookAtMeasuredItems 25 = .ok (.aload_n 0, 1) := by decide +kernel
theorem dX4_lookAtMeasuredItems_26 : decode cX4_lookAtMeasuredItems 26 = .ok (.getfield 18, 3) := by decide +kernel
theorem dX4_lookAtMeasuredItems_29 : decode cX4_lookAtMeasuredItems 29 = .ok (.iload 7, 2) := by decide +kernel
theorem dX4_lookAtMeasuredItems_31 : decode cX4_lookAtMeasuredItems 31 = .ok (.isub, 1) := by decide +kernel
theorem dX4_lookAtMeasuredItems_32 : decode cX4_lookAtMeasuredItems 32 = .ok (.i2l, 1) := by decide +kernel
theorem dX4_lookAtMeasuredItems_33 : decode cX4_lookAtMeasuredItems 33 = .ok (.lload 5, 2) := by decide +kernel
theorem dX4_lookAtMeasuredItems_35 : decode cX4_lookAtMeasuredItems 35 = .ok (.lcmp, 1) := by decide +kernel
theorem dX4_lookAtMeasuredItems_36 : decode cX4_lookAtMeasuredItems 36 = .ok (.ifCond .eq 11, 3) := by decide +kernel
theorem dX4_lookAtMeasuredItems_39 : decode cX4_lookAtMeasuredItems 39 = .ok (.aload_n 0, 1) := by decide +kernel
theorem dX4_lookAtMeasuredItems_40 : decode cX4_lookAtMeasuredItems 40 = .ok (.bipush 6, 2) := by decide +kernel
theorem dX4_lookAtMeasuredItems_42 : decode cX4_lookAtMeasuredItems 42 = .ok (.iload 4, 2) := by decide +kernel
theorem dX4_lookAtMeasuredItems_44 : decode cX4_lookAtMeasuredItems 44 = .ok (.invokevirtual 66, 3) := by decide +kernel
theorem dX4_lookAtMeasuredItems_47 : decode cX4_lookAtMeasuredItems 47 = .ok (.return_, 1) := by decide +kernel
theorem dX4_lookAtItems_0 : decode cX4_lookAtItems 0 = .ok (.iconst 0, 1) := by decide +kernel
theorem dX4_lookAtItems_1 : decode cX4_lookAtItems 1 = .ok (.istore 4, 2) := by decide +kernel
theorem dX4_lookAtItems_3 : decode cX4_lookAtItems 3 = .ok (.iload 4, 2) := by decide +kernel
theorem dX4_lookAtItems_5 : decode cX4_lookAtItems 5 = .ok (.iload_n 2, 1) := by decide +kernel
theorem dX4_lookAtItems_6 : decode cX4_lookAtItems 6 = .ok (.if_icmp .ge 55, 3) := by decide +kernel
theorem dX4_lookAtItems_9 : decode cX4_lookAtItems 9 = .ok (.aload_n 0, 1) := by decide +kernel
theorem dX4_lookAtItems_10 : decode cX4_lookAtItems 10 = .ok (.getfield 15, 3) := by decide +kernel
theorem dX4_lookAtItems_13 : decode cX4_lookAtItems 13 = .ok (.ifCond .ne 48, 3) := by decide +kernel
theorem dX4_lookAtItems_16 : decode cX4_lookAtItems 16 = .ok (.aload_n 0, 1) := by decide +kernel
theorem dX4_lookAtItems_17 : decode cX4_lookAtItems 17 = .ok (.getfield 31, 3) := by decide +kernel
theorem dX4_lookAtItems_20 : decode cX4_lookAtItems 20 = .ok (.iload_n 1, 1) := by decide +kernel
theorem dX4_lookAtItems_21 : decode cX4_lookAtItems 21 = .ok (.invokevirtual 69, 3) := by decide +kernel
theorem dX4_lookAtItems_24 : decode cX4_lookAtItems 24 = .ok (.bipush 7, 2) := by decide +kernel
theorem dX4_lookAtItems_26 : decode cX4_lookAtItems 26 = .ok (.if_icmp .ne 7, 3) := by decide +kernel
theorem dX4_lookAtItems_29 : decode cX4_lookAtItems 29 = .ok (.aload_n 0, 1) := by decide +kernel
theorem dX4_lookAtItems_30 : decode cX4_lookAtItems 30 = .ok (.invokevirtual 80, 3) := by decide +kernel
theorem dX4_lookAtItems_33 : decode cX4_lookAtItems 33 = .ok (.aload_n 0, 1) := by decide +kernel
theorem dX4_lookAtItems_34 : decode cX4_lookAtItems 34 = .ok (.getfield 15, 3) := by decide +kernel
theorem dX4_lookAtItems_37 : decode cX4_lookAtItems 37 = .ok (.ifCond .ne 18, 3) := by decide +kernel
theorem dX4_lookAtItems_40 : decode cX4_lookAtItems 40 = .ok (.aload_n 0, 1) := by decide +kernel
theorem dX4_lookAtItems_41 : decode cX4_lookAtItems 41 = .ok (.aload_n 0, 1) := by decide +kernel
theorem dX4_lookAtItems_42 : decode cX4_lookAtItems 42 = .ok (.getfield 31, 3) := by decide +kernel
theorem dX4_lookAtItems_45 : decode cX4_lookAtItems 45 = .ok (.iload_n 1, 1) := by decide +kernel
theorem dX4_lookAtItems_46 : decode cX4_lookAtItems 46 = .ok (.invokevirtual 150, 3) := by decide +kernel
theorem dX4_lookAtItems_49 : decode cX4_lookAtItems 49 = .ok (.iload_n 3, 1) := by decide +kernel
theorem dX4_lookAtItems_50 : decode cX4_lookAtItems 50 = .ok (.iconst 1, 1) := by decide +kernel
theorem dX4_lookAtItems_51 : decode cX4_lookAtItems 51 = .ok (.iadd, 1) := by decide +kernel
theorem dX4_lookAtItems_52 : decode cX4_lookAtItems 52 = .ok (.invokevirtual 61, 3) := by decide +kernel
theorem dX4_lookAtItems_55 : decode cX4_lookAtItems 55 = .ok (.iinc 4 1, 3) := by decide +kernel
theorem dX4_lookAtItems_58 : decode cX4_lookAtItems 58 = .ok (.goto (-55), 3) := by decide +kernel
theorem dX4_lookAtItems_61 : decode cX4_lookAtItems 61 = .ok (.return_, 1) := by decide +kernel
theorem dX5_init_0 : decode cX5_init 0 = .ok (.aload_n 0, 1) := by decide +kernel
theorem dX5_init_1 : decode cX5_init 1 = .ok (.invokespecial 3, 3) := by decide +kernel
theorem dX5_init_4 : decode cX5_init 4 = .ok (.aload_n 0, 1) := by decide +kernel
theorem dX5_init_5 : decode cX5_init 5 = .ok (.new 9, 3) := by decide +kernel
theorem dX5_init_8 : decode cX5_init 8 = .ok (.dup, 1) := by decide +kernel
theorem dX5_init_9 : decode cX5_init 9 = .ok (.sipush 4096, 3) := by decide +kernel
theorem dX5_init_12 : decode cX5_init 12 = .ok (.invokespecial 11, 3) := by decide +kernel
theorem dX5_init_15 : decode cX5_init 15 = .ok (.putfield 14, 3) := by decide +kernel
theorem dX5_init_18 : decode cX5_init 18 = .ok (.aload_n 0, 1) := by decide +kernel
theorem dX5_init_19 : decode cX5_init 19 = .ok (.new 9, 3) := by decide +kernel
theorem dX5_init_22 : decode cX5_init 22 = .ok (.dup, 1) := by decide +kernel
theorem dX5_init_23 : decode cX5_init 23 = .ok (.sipush 4096, 3) := by decide +kernel
theorem dX5_init_26 : decode cX5_init 26 = .ok (.invokespecial 11, 3) := by decide +kernel
theorem dX5_init_29 : decode cX5_init 29 = .ok (.putfield 20, 3) := by decide +kernel
theorem dX5_init_32 : decode cX5_init 32 = .ok (.return_, 1) := by decide +kernel
theorem dX5_clear_0 : decode cX5_clear 0 = .ok (.aload_n 0, 1) := by decide +kernel
theorem dX5_clear_1 : decode cX5_clear 1 = .ok (.getfield 14, 3) := by decide +kernel
theorem dX5_clear_4 : decode cX5_clear 4 = .ok (.iconst 0, 1) := by decide +kernel
theorem dX5_clear_5 : decode cX5_clear 5 = .ok (.invokevirtual 23, 3) := by decide +kernel
theorem dX5_clear_8 : decode cX5_clear 8 = .ok (.aload_n 0, 1) := by decide +kernel
theorem dX5_clear_9 : decode cX5_clear 9 = .ok (.getfield 20, 3) := by decide +kernel
theorem dX5_clear_12 : decode cX5_clear 12 = .ok (.iconst 0, 1) := by decide +kernel
theorem dX5_clear_13 : decode cX5_clear 13 = .ok (.invokevirtual 23, 3) := by decide +kernel
theorem dX5_clear_16 : decode cX5_clear 16 = .ok (.return_, 1) := by decide +kernel
theorem dX5_open_0 : decode cX5_open 0 = .ok (.aload_n 0, 1) := by decide +kernel
theorem dX5_open_1 : decode cX5_open 1 = .ok (.getfield 20, 3) := by decide +kernel
theorem dX5_open_4 : decode cX5_open 4 = .ok (.aload_n 0, 1) := by decide +kernel
theorem dX5_open_5 : decode cX5_open 5 = .ok (.getfield 14, 3) := by decide +kernel
theorem dX5_open_8 : decode cX5_open 8 = .ok (.invokevirtual 26, 3) := by decide +kernel
theorem dX5_open_11 : decode cX5_open 11 = .ok (.invokevirtual 30, 3) := by decide +kernel
theorem dX5_open_14 : decode cX5_open 14 = .ok (.pop, 1) := by decide +kernel
theorem dX5_open_15 : decode cX5_open 15 = .ok (.return_, 1) := by decide +kernel
theorem dX5_count_0 : decode cX5_count 0 = .ok (.aload_n 0, 1) := by decide +kernel
theorem dX5_count_1 : decode cX5_count 1 = .ok (.getfield 20, 3) := by decide +kernel
theorem dX5_count_4 : decode cX5_count 4 = .ok (.invokevirtual 26, 3) := by decide +kernel
theorem dX5_count_7 : decode cX5_count 7 = .ok (.ireturn, 1) := by decide +kernel
theorem dX5_start_0 : decode cX5_start 0 = .ok (.aload_n 0, 1) := by decide +kernel
theorem dX5_start_1 : decode cX5_start 1 = .ok (.getfield 20, 3) := by decide +kernel
theorem dX5_start_4 : decode cX5_start 4 = .ok (.iload_n 1, 1) := by decide +kernel
theorem dX5_start_5 : decode cX5_start 5 = .ok (.invokevirtual 34, 3) := by decide +kernel
theorem dX5_start_8 : decode cX5_start 8 = .ok (.ireturn, 1) := by decide +kernel
theorem dX5_bytes_0 : decode cX5_bytes 0 = .ok (.aload_n 0, 1) := by decide +kernel
theorem dX5_bytes_1 : decode cX5_bytes 1 = .ok (.getfield 14, 3) := by decide +kernel
theorem dX5_bytes_4 : decode cX5_bytes 4 = .ok (.areturn, 1) := by decide +kernel
theorem dX6_init_0 : decode cX6_init 0 = .ok (.aload_n 0, 1) := by decide +kernel
theorem dX6_init_1 : decode cX6_init 1 = .ok (.invokespecial 5, 3) := by decide +kernel
theorem dX6_init_4 : decode cX6_init 4 = .ok (.aload_n 0, 1) := by decide +kernel
theorem dX6_init_5 : decode cX6_init 5 = .ok (.new 11, 3) := by decide +kernel
theorem dX6_init_8 : decode cX6_init 8 = .ok (.dup, 1) := by decide +kernel
theorem dX6_init_9 : decode cX6_init 9 = .ok (.sipush 134, 3) := by decide +kernel
theorem dX6_init_12 : decode cX6_init 12 = .ok (.invokespecial 13, 3) := by decide +kernel
theorem dX6_init_15 : decode cX6_init 15 = .ok (.putfield 16, 3) := by decide +kernel
theorem dX6_init_18 : decode cX6_init 18 = .ok (.aload_n 0, 1) := by decide +kernel
theorem dX6_init_19 : decode cX6_init 19 = .ok (.new 11, 3) := by decide +kernel
theorem dX6_init_22 : decode cX6_init 22 = .ok (.dup, 1) := by decide +kernel
theorem dX6_init_23 : decode cX6_init 23 = .ok (.sipush 134, 3) := by decide +kernel
theorem dX6_init_26 : decode cX6_init 26 = .ok (.invokespecial 13, 3) := by decide +kernel
theorem dX6_init_29 : decode cX6_init 29 = .ok (.putfield 20, 3) := by decide +kernel
theorem dX6_init_32 : decode cX6_init 32 = .ok (.aload_n 0, 1) := by decide +kernel
theorem dX6_init_33 : decode cX6_init 33 = .ok (.new 11, 3) := by decide +kernel
theorem dX6_init_36 : decode cX6_init 36 = .ok (.dup, 1) := by decide +kernel
theorem dX6_init_37 : decode cX6_init 37 = .ok (.sipush 134, 3) := by decide +kernel
theorem dX6_init_40 : decode cX6_init 40 = .ok (.invokespecial 13, 3) := by decide +kernel
theorem dX6_init_43 : decode cX6_init 43 = .ok (.putfield 23, 3) := by decide +kernel
theorem dX6_init_46 : decode cX6_init 46 = .ok (.aload_n 0, 1) := by decide +kernel
theorem dX6_init_47 : decode cX6_init 47 = .ok (.new 11, 3) := by decide +kernel
theorem dX6_init_50 : decode cX6_init 50 = .ok (.dup, 1) := by decide +kernel
theorem dX6_init_51 : decode cX6_init 51 = .ok (.sipush 134, 3) := by decide +kernel
theorem dX6_init_54 : decode cX6_init 54 = .ok (.invokespecial 13, 3) := by decide +kernel
theorem dX6_init_57 : decode cX6_init 57 = .ok (.putfield 26, 3) := by decide +kernel
theorem dX6_init_60 : decode cX6_init 60 = .ok (.aload_n 0, 1) := by decide +kernel
theorem dX6_init_61 : decode cX6_init 61 = .ok (.new 11, 3) := by decide +kernel
theorem dX6_init_64 : decode cX6_init 64 = .ok (.dup, 1) := by decide +kernel
theorem dX6_init_65 : decode cX6_init 65 = .ok (.sipush 134, 3) := by decide +kernel
theorem dX6_init_68 : decode cX6_init 68 = .ok (.invokespecial 13, 3) := by decide +kernel
theorem dX6_init_71 : decode cX6_init 71 = .ok (.putfield 29, 3) := by decide +kernel
theorem dX6_init_74 : decode cX6_init 74 = .ok (.aload_n 0, 1) := by decide +kernel
theorem dX6_init_75 : decode cX6_init 75 = .ok (.new 11, 3) := by decide +kernel
theorem dX6_init_78 : decode cX6_init 78 = .ok (.dup, 1) := by decide +kernel
theorem dX6_init_79 : decode cX6_init 79 = .ok (.sipush 134, 3) := by decide +kernel
theorem dX6_init_82 : decode cX6_init 82 = .ok (.invokespecial 13, 3) := by decide +kernel
theorem dX6_init_85 : decode cX6_init 85 = .ok (.putfield 32, 3) := by decide +kernel
theorem dX6_init_88 : decode cX6_init 88 = .ok (.aload_n 0, 1) := by decide +kernel
theorem dX6_init_89 : decode cX6_init 89 = .ok (.new 11, 3) := by decide +kernel
theorem dX6_init_92 : decode cX6_init 92 = .ok (.dup, 1) := by decide +kernel
theorem dX6_init_93 : decode cX6_init 93 = .ok (.sipush 2048, 3) := by decide +kernel
theorem dX6_init_96 : decode cX6_init 96 = .ok (.invokespecial 13, 3) := by decide +kernel
theorem dX6_init_99 : decode cX6_init 99 = .ok (.putfield 35, 3) := by decide +kernel
theorem dX6_init_102 : decode cX6_init 102 = .ok (.aload_n 0, 1) := by decide +kernel
theorem dX6_init_103 : decode cX6_init 103 = .ok (.new 11, 3) := by decide +kernel
theorem dX6_init_106 : decode cX6_init 106 = .ok (.dup, 1) := by decide +kernel
theorem dX6_init_107 : decode cX6_init 107 = .ok (.sipush 2048, 3) := by decide +kernel
theorem dX6_init_110 : decode cX6_init 110 = .ok (.invokespecial 13, 3) := by decide +kernel
theorem dX6_init_113 : decode cX6_init 113 = .ok (.putfield 38, 3) := by decide +kernel
theorem dX6_init_116 : decode cX6_init 116 = .ok (.aload_n 0, 1) := by decide +kernel
theorem dX6_init_117 : decode cX6_init 117 = .ok (.new 11, 3) := by decide +kernel
theorem dX6_init_120 : decode cX6_init 120 = .ok (.dup, 1) := by decide +kernel
theorem dX6_init_121 : decode cX6_init 121 = .ok (.sipush 2048, 3) := by decide +kernel
theorem dX6_init_124 : decode cX6_init 124 = .ok (.invokespecial 13, 3) := by decide +kernel
theorem dX6_init_127 : decode cX6_init 127 = .ok (.putfield 41, 3) := by decide +kernel
theorem dX6_init_130 : decode cX6_init 130 = .ok (.aload_n 0, 1) := by decide +kernel
theorem dX6_init_131 : decode cX6_init 131 = .ok (.new 11, 3) := by decide +kernel
theorem dX6_init_134 : decode cX6_init 134 = .ok (.dup, 1) := by decide +kernel
theorem dX6_init_135 : decode cX6_init 135 = .ok (.sipush 2048, 3) := by decide +kernel
theorem dX6_init_138 : decode cX6_init 138 = .ok (.invokespecial 13, 3) := by decide +kernel
theorem dX6_init_141 : decode cX6_init 141 = .ok (.putfield 44, 3) := by decide +kernel
theorem dX6_init_144 : decode cX6_init 144 = .ok (.aload_n 0, 1) := by decide +kernel
theorem dX6_init_145 : decode cX6_init 145 = .ok (.new 11, 3) := by decide +kernel
theorem dX6_init_148 : decode cX6_init 148 = .ok (.dup, 1) := by decide +kernel
theorem dX6_init_149 : decode cX6_init 149 = .ok (.sipush 4096, 3) := by decide +kernel
theorem dX6_init_152 : decode cX6_init 152 = .ok (.invokespecial 13, 3) := by decide +kernel
theorem dX6_init_155 : decode cX6_init 155 = .ok (.putfield 47, 3) := by decide +kernel
theorem dX6_init_158 : decode cX6_init 158 = .ok (.aload_n 0, 1) := by decide +kernel
theorem dX6_init_159 : decode cX6_init 159 = .ok (.new 11, 3) := by decide +kernel
theorem dX6_init_162 : decode cX6_init 162 = .ok (.dup, 1) := by decide +kernel
theorem dX6_init_163 : decode cX6_init 163 = .ok (.sipush 8192, 3) := by decide +kernel
theorem dX6_init_166 : decode cX6_init 166 = .ok (.invokespecial 13, 3) := by decide +kernel
theorem dX6_init_169 : decode cX6_init 169 = .ok (.putfield 50, 3) := by decide +kernel
theorem dX6_init_172 : decode cX6_init 172 = .ok (.return_, 1) := by decide +kernel
theorem dX6_clear_0 : decode cX6_clear 0 = .ok (.aload_n 0, 1) := by decide +kernel
theorem dX6_clear_1 : decode cX6_clear 1 = .ok (.getfield 16, 3) := by decide +kernel
theorem dX6_clear_4 : decode cX6_clear 4 = .ok (.iconst 0, 1) := by decide +kernel
theorem dX6_clear_5 : decode cX6_clear 5 = .ok (.invokevirtual 53, 3) := by decide +kernel
theorem dX6_clear_8 : decode cX6_clear 8 = .ok (.iconst 0, 1) := by decide +kernel
theorem dX6_clear_9 : decode cX6_clear 9 = .ok (.istore_n 1, 1) := by decide +kernel
theorem dX6_clear_10 : decode cX6_clear 10 = .ok (.iload_n 1, 1) := by decide +kernel
theorem dX6_clear_11 : decode cX6_clear 11 = .ok (.bipush 6, 2) := by decide +kernel
theorem dX6_clear_13 : decode cX6_clear 13 = .ok (.if_icmp .ge 27, 3) := by decide +kernel
theorem dX6_clear_16 : decode cX6_clear 16 = .ok (.aload_n 0, 1) := by decide +kernel
theorem dX6_clear_17 : decode cX6_clear 17 = .ok (.getfield 16, 3) := by decide +kernel
theorem dX6_clear_20 : decode cX6_clear 20 = .ok (.iload_n 1, 1) := by decide +kernel
theorem dX6_clear_21 : decode cX6_clear 21 = .ok (.invokevirtual 56, 3) := by decide +kernel
theorem dX6_clear_24 : decode cX6_clear 24 = .ok (.pop, 1) := by decide +kernel
theorem dX6_clear_25 : decode cX6_clear 25 = .ok (.aload_n 0, 1) := by decide +kernel
theorem dX6_clear_26 : decode cX6_clear 26 = .ok (.getfield 26, 3) := by decide +kernel
theorem dX6_clear_29 : decode cX6_clear 29 = .ok (.iload_n 1, 1) := by decide +kernel
theorem dX6_clear_30 : decode cX6_clear 30 = .ok (.iconst (-1), 1) := by decide +kernel
theorem dX6_clear_31 : decode cX6_clear 31 = .ok (.invokevirtual 60, 3) := by decide +kernel
theorem dX6_clear_34 : decode cX6_clear 34 = .ok (.iinc 1 1, 3) := by decide +kernel
theorem dX6_clear_37 : decode cX6_clear 37 = .ok (.goto (-27), 3) := by decide +kernel
theorem dX6_clear_40 : decode cX6_clear 40 = .ok (.aload_n 0, 1) := by decide +kernel
theorem dX6_clear_41 : decode cX6_clear 41 = .ok (.getfield 26, 3) := by decide +kernel
theorem dX6_clear_44 : decode cX6_clear 44 = .ok (.iconst 0, 1) := by decide +kernel
theorem dX6_clear_45 : decode cX6_clear 45 = .ok (.iconst 0, 1) := by decide +kernel
theorem dX6_clear_46 : decode cX6_clear 46 = .ok (.invokevirtual 60, 3) := by decide +kernel
theorem dX6_clear_49 : decode cX6_clear 49 = .ok (.aload_n 0, 1) := by decide +kernel
theorem dX6_clear_50 : decode cX6_clear 50 = .ok (.getfield 26, 3) := by decide +kernel
theorem dX6_clear_53 : decode cX6_clear 53 = .ok (.iconst 1, 1) := by decide +kernel
theorem dX6_clear_54 : decode cX6_clear 54 = .ok (.iconst 1, 1) := by decide +kernel
theorem dX6_clear_55 : decode cX6_clear 55 = .ok (.invokevirtual 60, 3) := by decide +kernel
theorem dX6_clear_58 : decode cX6_clear 58 = .ok (.aload_n 0, 1) := by decide +kernel
theorem dX6_clear_59 : decode cX6_clear 59 = .ok (.getfield 35, 3) := by decide +kernel
theorem dX6_clear_62 : decode cX6_clear 62 = .ok (.iconst 0, 1) := by decide +kernel
theorem dX6_clear_63 : decode cX6_clear 63 = .ok (.invokevirtual 53, 3) := by decide +kernel
theorem dX6_clear_66 : decode cX6_clear 66 = .ok (.aload_n 0, 1) := by decide +kernel
theorem dX6_clear_67 : decode cX6_clear 67 = .ok (.getfield 47, 3) := by decide +kernel
theorem dX6_clear_70 : decode cX6_clear 70 = .ok (.iconst 0, 1) := by decide +kernel
theorem dX6_clear_71 : decode cX6_clear 71 = .ok (.invokevirtual 53, 3) := by decide +kernel
theorem dX6_clear_74 : decode cX6_clear 74 = .ok (.aload_n 0, 1) := by decide +kernel
theorem dX6_clear_75 : decode cX6_clear 75 = .ok (.getfield 50, 3) := by decide +kernel
theorem dX6_clear_78 : decode cX6_clear 78 = .ok (.iconst 0, 1) := by decide +kernel
theorem dX6_clear_79 : decode cX6_clear 79 = .ok (.invokevirtual 53, 3) := by decide +kernel
theorem dX6_clear_82 : decode cX6_clear 82 = .ok (.aload_n 0, 1) := by decide +kernel
theorem dX6_clear_83 : decode cX6_clear 83 = .ok (.iconst 0, 1) := by decide +kernel
theorem dX6_clear_84 : decode cX6_clear 84 = .ok (.putfield 64, 3) := by decide +kernel
theorem dX6_clear_87 : decode cX6_clear 87 = .ok (.return_, 1) := by decide +kernel
theorem dX6_root_0 : decode cX6_root 0 = .ok (.aload_n 0, 1) := by decide +kernel
theorem dX6_root_1 : decode cX6_root 1 = .ok (.getfield 64, 3) := by decide +kernel
theorem dX6_root_4 : decode cX6_root 4 = .ok (.ireturn, 1) := by decide +kernel
theorem dX6_setRoot_0 : decode cX6_setRoot 0 = .ok (.aload_n 0, 1) := by decide +kernel
theorem dX6_setRoot_1 : decode cX6_setRoot 1 = .ok (.iload_n 1, 1) := by decide +kernel
theorem dX6_setRoot_2 : decode cX6_setRoot 2 = .ok (.putfield 64, 3) := by decide +kernel
theorem dX6_setRoot_5 : decode cX6_setRoot 5 = .ok (.return_, 1) := by decide +kernel
theorem dX6_addNode_0 : decode cX6_addNode 0 = .ok (.aload_n 0, 1) := by decide +kernel
theorem dX6_addNode_1 : decode cX6_addNode 1 = .ok (.getfield 16, 3) := by decide +kernel
theorem dX6_addNode_4 : decode cX6_addNode 4 = .ok (.invokevirtual 68, 3) := by decide +kernel
theorem dX6_addNode_7 : decode cX6_addNode 7 = .ok (.istore_n 2, 1) := by decide +kernel
theorem dX6_addNode_8 : decode cX6_addNode 8 = .ok (.aload_n 0, 1) := by decide +kernel
theorem dX6_addNode_9 : decode cX6_addNode 9 = .ok (.getfield 16, 3) := by decide +kernel
theorem dX6_addNode_12 : decode cX6_addNode 12 = .ok (.iload_n 1, 1) := by decide +kernel
theorem dX6_addNode_13 : decode cX6_addNode 13 = .ok (.invokevirtual 56, 3) := by decide +kernel
theorem dX6_addNode_16 : decode cX6_addNode 16 = .ok (.pop, 1) := by decide +kernel
theorem dX6_addNode_17 : decode cX6_addNode 17 = .ok (.aload_n 0, 1) := by decide +kernel
theorem dX6_addNode_18 : decode cX6_addNode 18 = .ok (.getfield 20, 3) := by decide +kernel
theorem dX6_addNode_21 : decode cX6_addNode 21 = .ok (.iload_n 2, 1) := by decide +kernel
theorem dX6_addNode_22 : decode cX6_addNode 22 = .ok (.iconst (-1), 1) := by decide +kernel
theorem dX6_addNode_23 : decode cX6_addNode 23 = .ok (.invokevirtual 60, 3) := by decide +kernel
theorem dX6_addNode_26 : decode cX6_addNode 26 = .ok (.aload_n 0, 1) := by decide +kernel
theorem dX6_addNode_27 : decode cX6_addNode 27 = .ok (.getfield 23, 3) := by decide +kernel
theorem dX6_addNode_30 : decode cX6_addNode 30 = .ok (.iload_n 2, 1) := by decide +kernel
theorem dX6_addNode_31 : decode cX6_addNode 31 = .ok (.iconst (-1), 1) := by decide +kernel
theorem dX6_addNode_32 : decode cX6_addNode 32 = .ok (.invokevirtual 60, 3) := by decide +kernel
theorem dX6_addNode_35 : decode cX6_addNode 35 = .ok (.aload_n 0, 1) := by decide +kernel
theorem dX6_addNode_36 : decode cX6_addNode 36 = .ok (.getfield 26, 3) := by decide +kernel
theorem dX6_addNode_39 : decode cX6_addNode 39 = .ok (.iload_n 2, 1) := by decide +kernel
theorem dX6_addNode_40 : decode cX6_addNode 40 = .ok (.iconst (-1), 1) := by decide +kernel
theorem dX6_addNode_41 : decode cX6_addNode 41 = .ok (.invokevirtual 60, 3) := by decide +kernel
theorem dX6_addNode_44 : decode cX6_addNode 44 = .ok (.aload_n 0, 1) := by decide +kernel
theorem dX6_addNode_45 : decode cX6_addNode 45 = .ok (.getfield 29, 3) := by decide +kernel
theorem dX6_addNode_48 : decode cX6_addNode 48 = .ok (.iload_n 2, 1) := by decide +kernel
theorem dX6_addNode_49 : decode cX6_addNode 49 = .ok (.iconst 0, 1) := by decide +kernel
theorem dX6_addNode_50 : decode cX6_addNode 50 = .ok (.invokevirtual 60, 3) := by decide +kernel
theorem dX6_addNode_53 : decode cX6_addNode 53 = .ok (.aload_n 0, 1) := by decide +kernel
theorem dX6_addNode_54 : decode cX6_addNode 54 = .ok (.getfield 32, 3) := by decide +kernel
theorem dX6_addNode_57 : decode cX6_addNode 57 = .ok (.iload_n 2, 1) := by decide +kernel
theorem dX6_addNode_58 : decode cX6_addNode 58 = .ok (.iconst 0, 1) := by decide +kernel
theorem dX6_addNode_59 : decode cX6_addNode 59 = .ok (.invokevirtual 60, 3) := by decide +kernel
theorem dX6_addNode_62 : decode cX6_addNode 62 = .ok (.iload_n 2, 1) := by decide +kernel
theorem dX6_addNode_63 : decode cX6_addNode 63 = .ok (.ireturn, 1) := by decide +kernel
theorem dX6_kind_0 : decode cX6_kind 0 = .ok (.aload_n 0, 1) := by decide +kernel
theorem dX6_kind_1 : decode cX6_kind 1 = .ok (.getfield 16, 3) := by decide +kernel
theorem dX6_kind_4 : decode cX6_kind 4 = .ok (.iload_n 1, 1) := by decide +kernel
theorem dX6_kind_5 : decode cX6_kind 5 = .ok (.invokevirtual 72, 3) := by decide +kernel
theorem dX6_kind_8 : decode cX6_kind 8 = .ok (.ireturn, 1) := by decide +kernel
theorem dX6_setName_0 : decode cX6_setName 0 = .ok (.aload_n 0, 1) := by decide +kernel
theorem dX6_setName_1 : decode cX6_setName 1 = .ok (.getfield 20, 3) := by decide +kernel
theorem dX6_setName_4 : decode cX6_setName 4 = .ok (.iload_n 1, 1) := by decide +kernel
theorem dX6_setName_5 : decode cX6_setName 5 = .ok (.iload_n 2, 1) := by decide +kernel
theorem dX6_setName_6 : decode cX6_setName 6 = .ok (.invokevirtual 60, 3) := by decide +kernel
theorem dX6_setName_9 : decode cX6_setName 9 = .ok (.return_, 1) := by decide +kernel
theorem dX6_item_0 : decode cX6_item 0 = .ok (.aload_n 0, 1) := by decide +kernel
theorem dX6_item_1 : decode cX6_item 1 = .ok (.getfield 23, 3) := by decide +kernel
theorem dX6_item_4 : decode cX6_item 4 = .ok (.iload_n 1, 1) := by decide +kernel
theorem dX6_item_5 : decode cX6_item 5 = .ok (.invokevirtual 72, 3) := by decide +kernel
theorem dX6_item_8 : decode cX6_item 8 = .ok (.ireturn, 1) := by decide +kernel
theorem dX6_fixedSize_0 : decode cX6_fixedSize 0 = .ok (.aload_n 0, 1) := by decide +kernel
theorem dX6_fixedSize_1 : decode cX6_fixedSize 1 = .ok (.getfield 23, 3) := by decide +kernel
theorem dX6_fixedSize_4 : decode cX6_fixedSize 4 = .ok (.iload_n 1, 1) := by decide +kernel
theorem dX6_fixedSize_5 : decode cX6_fixedSize 5 = .ok (.invokevirtual 72, 3) := by decide +kernel
theorem dX6_fixedSize_8 : decode cX6_fixedSize 8 = .ok (.ireturn, 1) := by decide +kernel
theorem dX6_setFixedSize_0 : decode cX6_setFixedSize 0 = .ok (.aload_n 0, 1) := by decide +kernel
theorem dX6_setFixedSize_1 : decode cX6_setFixedSize 1 = .ok (.getfield 23, 3) := by decide +kernel
theorem dX6_setFixedSize_4 : decode cX6_setFixedSize 4 = .ok (.iload_n 1, 1) := by decide +kernel
theorem dX6_setFixedSize_5 : decode cX6_setFixedSize 5 = .ok (.iload_n 2, 1) := by decide +kernel
theorem dX6_setFixedSize_6 : decode cX6_setFixedSize 6 = .ok (.invokevirtual 60, 3) := by decide +kernel
theorem dX6_setFixedSize_9 : decode cX6_setFixedSize 9 = .ok (.aload_n 0, 1) := by decide +kernel
theorem dX6_setFixedSize_10 : decode cX6_setFixedSize 10 = .ok (.getfield 26, 3) := by decide +kernel
theorem dX6_setFixedSize_13 : decode cX6_setFixedSize 13 = .ok (.iload_n 1, 1) := by decide +kernel
theorem dX6_setFixedSize_14 : decode cX6_setFixedSize 14 = .ok (.iload_n 2, 1) := by decide +kernel
theorem dX6_setFixedSize_15 : decode cX6_setFixedSize 15 = .ok (.invokevirtual 60, 3) := by decide +kernel
theorem dX6_setFixedSize_18 : decode cX6_setFixedSize 18 = .ok (.return_, 1) := by decide +kernel
theorem dX6_width_0 : decode cX6_width 0 = .ok (.aload_n 0, 1) := by decide +kernel
theorem dX6_width_1 : decode cX6_width 1 = .ok (.getfield 26, 3) := by decide +kernel
theorem dX6_width_4 : decode cX6_width 4 = .ok (.iload_n 1, 1) := by decide +kernel
theorem dX6_width_5 : decode cX6_width 5 = .ok (.invokevirtual 72, 3) := by decide +kernel
theorem dX6_width_8 : decode cX6_width 8 = .ok (.ireturn, 1) := by decide +kernel
theorem dX6_measureRecord_0 : decode cX6_measureRecord 0 = .ok (.iconst 0, 1) := by decide +kernel
theorem dX6_measureRecord_1 : decode cX6_measureRecord 1 = .ok (.istore_n 2, 1) := by decide +kernel
theorem dX6_measureRecord_2 : decode cX6_measureRecord 2 = .ok (.iconst 0, 1) := by decide +kernel
theorem dX6_measureRecord_3 : decode cX6_measureRecord 3 = .ok (.istore_n 3, 1) := by decide +kernel
theorem dX6_measureRecord_4 : decode cX6_measureRecord 4 = .ok (.iload_n 3, 1) := by decide +kernel
theorem dX6_measureRecord_5 : decode cX6_measureRecord 5 = .ok (.aload_n 0, 1) := by decide +kernel
theorem dX6_measureRecord_6 : decode cX6_measureRecord 6 = .ok (.getfield 32, 3) := by decide +kernel
theorem dX6_measureRecord_9 : decode cX6_measureRecord 9 = .ok (.iload_n 1, 1) := by decide +kernel
theorem dX6_measureRecord_10 : decode cX6_measureRecord 10 = .ok (.invokevirtual 72, 3) := by decide +kernel
theorem dX6_measureRecord_13 : decode cX6_measureRecord 13 = .ok (.if_icmp .ge 57, 3) := by decide +kernel
theorem dX6_measureRecord_16 : decode cX6_measureRecord 16 = .ok (.aload_n 0, 1) := by decide +kernel
theorem dX6_measureRecord_17 : decode cX6_measureRecord 17 = .ok (.getfield 26, 3) := by decide +kernel
theorem dX6_measureRecord_20 : decode cX6_measureRecord 20 = .ok (.aload_n 0, 1) := by decide +kernel
theorem dX6_measureRecord_21 : decode cX6_measureRecord 21 = .ok (.getfield 35, 3) := by decide +kernel
theorem dX6_measureRecord_24 : decode cX6_measureRecord 24 = .ok (.aload_n 0, 1) := by decide +kernel
theorem dX6_measureRecord_25 : decode cX6_measureRecord 25 = .ok (.getfield 29, 3) := by decide +kernel
theorem dX6_measureRecord_28 : decode cX6_measureRecord 28 = .ok (.iload_n 1, 1) := by decide +kernel
theorem dX6_measureRecord_29 : decode cX6_measureRecord 29 = .ok (.invokevirtual 72, 3) := by decide +kernel
theorem dX6_measureRecord_32 : decode cX6_measureRecord 32 = .ok (.iload_n 3, 1) := by decide +kernel
theorem dX6_measureRecord_33 : decode cX6_measureRecord 33 = .ok (.iadd, 1) := by decide +kernel
theorem dX6_measureRecord_34 : decode cX6_measureRecord 34 = .ok (.invokevirtual 72, 3) := by decide +kernel
theorem dX6_measureRecord_37 : decode cX6_measureRecord 37 = .ok (.invokevirtual 72, 3) := by decide +kernel
theorem dX6_measureRecord_40 : decode cX6_measureRecord 40 = .ok (.istore 4, 2) := by decide +kernel
theorem dX6_measureRecord_42 : decode cX6_measureRecord 42 = .ok (.iload 4, 2) := by decide +kernel
theorem dX6_measureRecord_44 : decode cX6_measureRecord 44 = .ok (.iconst (-1), 1) := by decide +kernel
theorem dX6_measureRecord_45 : decode cX6_measureRecord 45 = .ok (.if_icmp .eq 13, 3) := by decide +kernel
theorem dX6_measureRecord_48 : decode cX6_measureRecord 48 = .ok (.iload_n 2, 1) := by decide +kernel
theorem dX6_measureRecord_49 : decode cX6_measureRecord 49 = .ok (.iload 4, 2) := by decide +kernel
theorem dX6_measureRecord_51 : decode cX6_measureRecord 51 = .ok (.iadd, 1) := by decide +kernel
theorem dX6_measureRecord_52 : decode cX6_measureRecord 52 = .ok (.sipush 4096, 3) := by decide +kernel
theorem dX6_measureRecord_55 : decode cX6_measureRecord 55 = .ok (.if_icmp .le 4, 3) := by decide +kernel
theorem dX6_measureRecord_58 : decode cX6_measureRecord 58 = .ok (.return_, 1) := by decide +kernel
theorem dX6_measureRecord_59 : decode cX6_measureRecord 59 = .ok (.iload_n 2, 1) := by decide +kernel
theorem dX6_measureRecord_60 : decode cX6_measureRecord 60 = .ok (.iload 4, 2) := by decide +kernel
theorem dX6_measureRecord_62 : decode cX6_measureRecord 62 = .ok (.iadd, 1) := by decide +kernel
theorem dX6_measureRecord_63 : decode cX6_measureRecord 63 = .ok (.istore_n 2, 1) := by decide +kernel
theorem dX6_measureRecord_64 : decode cX6_measureRecord 64 = .ok (.iinc 3 1, 3) := by decide +kernel
theorem dX6_measureRecord_67 : decode cX6_measureRecord 67 = .ok (.goto (-63), 3) := by decide +kernel
theorem dX6_measureRecord_70 : decode cX6_measureRecord 70 = .ok (.aload_n 0, 1) := by decide +kernel
theorem dX6_measureRecord_71 : decode cX6_measureRecord 71 = .ok (.getfield 26, 3) := by decide +kernel
theorem dX6_measureRecord_74 : decode cX6_measureRecord 74 = .ok (.iload_n 1, 1) := by decide +kernel
theorem dX6_measureRecord_75 : decode cX6_measureRecord 75 = .ok (.iload_n 2, 1) := by decide +kernel
theorem dX6_measureRecord_76 : decode cX6_measureRecord 76 = .ok (.invokevirtual 60, 3) := by decide +kernel
theorem dX6_measureRecord_79 : decode cX6_measureRecord 79 = .ok (.return_, 1) := by decide +kernel
theorem dX6_fallback_0 : decode cX6_fallback 0 = .ok (.aload_n 0, 1) := by decide +kernel
theorem dX6_fallback_1 : decode cX6_fallback 1 = .ok (.getfield 23, 3) := by decide +kernel
theorem dX6_fallback_4 : decode cX6_fallback 4 = .ok (.iload_n 1, 1) := by decide +kernel
theorem dX6_fallback_5 : decode cX6_fallback 5 = .ok (.invokevirtual 72, 3) := by decide +kernel
theorem dX6_fallback_8 : decode cX6_fallback 8 = .ok (.ireturn, 1) := by decide +kernel
theorem dX6_setDetail_0 : decode cX6_setDetail 0 = .ok (.aload_n 0, 1) := by decide +kernel
theorem dX6_setDetail_1 : decode cX6_setDetail 1 = .ok (.getfield 23, 3) := by decide +kernel
theorem dX6_setDetail_4 : decode cX6_setDetail 4 = .ok (.iload_n 1, 1) := by decide +kernel
theorem dX6_setDetail_5 : decode cX6_setDetail 5 = .ok (.iload_n 2, 1) := by decide +kernel
theorem dX6_setDetail_6 : decode cX6_setDetail 6 = .ok (.invokevirtual 60, 3) := by decide +kernel
theorem dX6_setDetail_9 : decode cX6_setDetail 9 = .ok (.return_, 1) := by decide +kernel
theorem dX6_addParts_0 : decode cX6_addParts 0 = .ok (.aload_n 0, 1) := by decide +kernel
theorem dX6_addParts_1 : decode cX6_addParts 1 = .ok (.getfield 29, 3) := by decide +kernel
theorem dX6_addParts_4 : decode cX6_addParts 4 = .ok (.iload_n 1, 1) := by decide +kernel
theorem dX6_addParts_5 : decode cX6_addParts 5 = .ok (.aload_n 0, 1) := by decide +kernel
theorem dX6_addParts_6 : decode cX6_addParts 6 = .ok (.getfield 35, 3) := by decide +kernel
theorem dX6_addParts_9 : decode cX6_addParts 9 = .ok (.invokevirtual 68, 3) := by decide +kernel
theorem dX6_addParts_12 : decode cX6_addParts 12 = .ok (.invokevirtual 60, 3) := by decide +kernel
theorem dX6_addParts_15 : decode cX6_addParts 15 = .ok (.aload_n 0, 1) := by decide +kernel
theorem dX6_addParts_16 : decode cX6_addParts 16 = .ok (.getfield 32, 3) := by decide +kernel
theorem dX6_addParts_19 : decode cX6_addParts 19 = .ok (.iload_n 1, 1) := by decide +kernel
theorem dX6_addParts_20 : decode cX6_addParts 20 = .ok (.iload_n 2, 1) := by decide +kernel
theorem dX6_addParts_21 : decode cX6_addParts 21 = .ok (.invokevirtual 60, 3) := by decide +kernel
theorem dX6_addParts_24 : decode cX6_addParts 24 = .ok (.iconst 0, 1) := by decide +kernel
theorem dX6_addParts_25 : decode cX6_addParts 25 = .ok (.istore_n 3, 1) := by decide +kernel
theorem dX6_addParts_26 : decode cX6_addParts 26 = .ok (.iload_n 3, 1) := by decide +kernel
theorem dX6_addParts_27 : decode cX6_addParts 27 = .ok (.iload_n 2, 1) := by decide +kernel
theorem dX6_addParts_28 : decode cX6_addParts 28 = .ok (.if_icmp .ge 57, 3) := by decide +kernel
theorem dX6_addParts_31 : decode cX6_addParts 31 = .ok (.aload_n 0, 1) := by decide +kernel
theorem dX6_addParts_32 : decode cX6_addParts 32 = .ok (.getfield 35, 3) := by decide +kernel
theorem dX6_addParts_35 : decode cX6_addParts 35 = .ok (.invokevirtual 68, 3) := by decide +kernel
theorem dX6_addParts_38 : decode cX6_addParts 38 = .ok (.istore 4, 2) := by decide +kernel
theorem dX6_addParts_40 : decode cX6_addParts 40 = .ok (.aload_n 0, 1) := by decide +kernel
theorem dX6_addParts_41 : decode cX6_addParts 41 = .ok (.getfield 35, 3) := by decide +kernel
theorem dX6_addParts_44 : decode cX6_addParts 44 = .ok (.iconst 0, 1) := by decide +kernel
theorem dX6_addParts_45 : decode cX6_addParts 45 = .ok (.invokevirtual 56, 3) := by decide +kernel
theorem dX6_addParts_48 : decode cX6_addParts 48 = .ok (.pop, 1) := by decide +kernel
theorem dX6_addParts_49 : decode cX6_addParts 49 = .ok (.aload_n 0, 1) := by decide +kernel
theorem dX6_addParts_50 : decode cX6_addParts 50 = .ok (.getfield 38, 3) := by decide +kernel
theorem dX6_addParts_53 : decode cX6_addParts 53 = .ok (.iload 4, 2) := by decide +kernel
theorem dX6_addParts_55 : decode cX6_addParts 55 = .ok (.iconst (-1), 1) := by decide +kernel
theorem dX6_addParts_56 : decode cX6_addParts 56 = .ok (.invokevirtual 60, 3) := by decide +kernel
theorem dX6_addParts_59 : decode cX6_addParts 59 = .ok (.aload_n 0, 1) := by decide +kernel
theorem dX6_addParts_60 : decode cX6_addParts 60 = .ok (.getfield 41, 3) := by decide +kernel
theorem dX6_addParts_63 : decode cX6_addParts 63 = .ok (.iload 4, 2) := by decide +kernel
theorem dX6_addParts_65 : decode cX6_addParts 65 = .ok (.iconst (-1), 1) := by decide +kernel
theorem dX6_addParts_66 : decode cX6_addParts 66 = .ok (.invokevirtual 60, 3) := by decide +kernel
theorem dX6_addParts_69 : decode cX6_addParts 69 = .ok (.aload_n 0, 1) := by decide +kernel
theorem dX6_addParts_70 : decode cX6_addParts 70 = .ok (.getfield 44, 3) := by decide +kernel
theorem dX6_addParts_73 : decode cX6_addParts 73 = .ok (.iload 4, 2) := by decide +kernel
theorem dX6_addParts_75 : decode cX6_addParts 75 = .ok (.iconst (-1), 1) := by decide +kernel
theorem dX6_addParts_76 : decode cX6_addParts 76 = .ok (.invokevirtual 60, 3) := by decide +kernel
theorem dX6_addParts_79 : decode cX6_addParts 79 = .ok (.iinc 3 1, 3) := by decide +kernel
theorem dX6_addParts_82 : decode cX6_addParts 82 = .ok (.goto (-56), 3) := by decide +kernel
theorem dX6_addParts_85 : decode cX6_addParts 85 = .ok (.return_, 1) := by decide +kernel
theorem dX6_parts_0 : decode cX6_parts 0 = .ok (.aload_n 0, 1) := by decide +kernel
theorem dX6_parts_1 : decode cX6_parts 1 = .ok (.getfield 32, 3) := by decide +kernel
theorem dX6_parts_4 : decode cX6_parts 4 = .ok (.iload_n 1, 1) := by decide +kernel
theorem dX6_parts_5 : decode cX6_parts 5 = .ok (.invokevirtual 72, 3) := by decide +kernel
theorem dX6_parts_8 : decode cX6_parts 8 = .ok (.ireturn, 1) := by decide +kernel
theorem dX6_allParts_0 : decode cX6_allParts 0 = .ok (.aload_n 0, 1) := by decide +kernel
theorem dX6_allParts_1 : decode cX6_allParts 1 = .ok (.getfield 35, 3) := by decide +kernel
theorem dX6_allParts_4 : decode cX6_allParts 4 = .ok (.invokevirtual 68, 3) := by decide +kernel
theorem dX6_allParts_7 : decode cX6_allParts 7 = .ok (.ireturn, 1) := by decide +kernel
theorem dX6_part_0 : decode cX6_part 0 = .ok (.aload_n 0, 1) := by decide +kernel
theorem dX6_part_1 : decode cX6_part 1 = .ok (.getfield 29, 3) := by decide +kernel
theorem dX6_part_4 : decode cX6_part 4 = .ok (.iload_n 1, 1) := by decide +kernel
theorem dX6_part_5 : decode cX6_part 5 = .ok (.invokevirtual 72, 3) := by decide +kernel
theorem dX6_part_8 : decode cX6_part 8 = .ok (.iload_n 2, 1) := by decide +kernel
theorem dX6_part_9 : decode cX6_part 9 = .ok (.iadd, 1) := by decide +kernel
theorem dX6_part_10 : decode cX6_part 10 = .ok (.ireturn, 1) := by decide +kernel
theorem dX6_partNode_0 : decode cX6_partNode 0 = .ok (.aload_n 0, 1) := by decide +kernel
theorem dX6_partNode_1 : decode cX6_partNode 1 = .ok (.getfield 35, 3) := by decide +kernel
theorem dX6_partNode_4 : decode cX6_partNode 4 = .ok (.iload_n 1, 1) := by decide +kernel
theorem dX6_partNode_5 : decode cX6_partNode 5 = .ok (.invokevirtual 72, 3) := by decide +kernel
theorem dX6_partNode_8 : decode cX6_partNode 8 = .ok (.ireturn, 1) := by decide +kernel
theorem dX6_setPartNode_0 : decode cX6_setPartNode 0 = .ok (.aload_n 0, 1) := by decide +kernel
theorem dX6_setPartNode_1 : decode cX6_setPartNode 1 = .ok (.getfield 35, 3) := by decide +kernel
theorem dX6_setPartNode_4 : decode cX6_setPartNode 4 = .ok (.iload_n 1, 1) := by decide +kernel
theorem dX6_setPartNode_5 : decode cX6_setPartNode 5 = .ok (.iload_n 2, 1) := by decide +kernel
theorem dX6_setPartNode_6 : decode cX6_setPartNode 6 = .ok (.invokevirtual 60, 3) := by decide +kernel
theorem dX6_setPartNode_9 : decode cX6_setPartNode 9 = .ok (.return_, 1) := by decide +kernel
theorem dX6_partName_0 : decode cX6_partName 0 = .ok (.aload_n 0, 1) := by decide +kernel
theorem dX6_partName_1 : decode cX6_partName 1 = .ok (.getfield 38, 3) := by decide +kernel
theorem dX6_partName_4 : decode cX6_partName 4 = .ok (.iload_n 1, 1) := by decide +kernel
theorem dX6_partName_5 : decode cX6_partName 5 = .ok (.invokevirtual 72, 3) := by decide +kernel
theorem dX6_partName_8 : decode cX6_partName 8 = .ok (.ireturn, 1) := by decide +kernel
theorem dX6_setPartName_0 : decode cX6_setPartName 0 = .ok (.aload_n 0, 1) := by decide +kernel
theorem dX6_setPartName_1 : decode cX6_setPartName 1 = .ok (.getfield 38, 3) := by decide +kernel
theorem dX6_setPartName_4 : decode cX6_setPartName 4 = .ok (.iload_n 1, 1) := by decide +kernel
theorem dX6_setPartName_5 : decode cX6_setPartName 5 = .ok (.iload_n 2, 1) := by decide +kernel
theorem dX6_setPartName_6 : decode cX6_setPartName 6 = .ok (.invokevirtual 60, 3) := by decide +kernel
theorem dX6_setPartName_9 : decode cX6_setPartName 9 = .ok (.return_, 1) := by decide +kernel
theorem dX6_branch_0 : decode cX6_branch 0 = .ok (.iload_n 2, 1) := by decide +kernel
theorem dX6_branch_1 : decode cX6_branch 1 = .ok (.ifCond .lt 35, 3) := by decide +kernel
theorem dX6_branch_4 : decode cX6_branch 4 = .ok (.iload_n 2, 1) := by decide +kernel
theorem dX6_branch_5 : decode cX6_branch 5 = .ok (.aload_n 0, 1) := by decide +kernel
theorem dX6_branch_6 : decode cX6_branch 6 = .ok (.getfield 32, 3) := by decide +kernel
theorem dX6_branch_9 : decode cX6_branch 9 = .ok (.iload_n 1, 1) := by decide +kernel
theorem dX6_branch_10 : decode cX6_branch 10 = .ok (.invokevirtual 72, 3) := by decide +kernel
theorem dX6_branch_13 : decode cX6_branch 13 = .ok (.if_icmp .ge 23, 3) := by decide +kernel
theorem dX6_branch_16 : decode cX6_branch 16 = .ok (.aload_n 0, 1) := by decide +kernel
theorem dX6_branch_17 : decode cX6_branch 17 = .ok (.getfield 35, 3) := by decide +kernel
theorem dX6_branch_20 : decode cX6_branch 20 = .ok (.aload_n 0, 1) := by decide +kernel
theorem dX6_branch_21 : decode cX6_branch 21 = .ok (.getfield 29, 3) := by decide +kernel
theorem dX6_branch_24 : decode cX6_branch 24 = .ok (.iload_n 1, 1) := by decide +kernel
theorem dX6_branch_25 : decode cX6_branch 25 = .ok (.invokevirtual 72, 3) := by decide +kernel
theorem dX6_branch_28 : decode cX6_branch 28 = .ok (.iload_n 2, 1) := by decide +kernel
theorem dX6_branch_29 : decode cX6_branch 29 = .ok (.iadd, 1) := by decide +kernel
theorem dX6_branch_30 : decode cX6_branch 30 = .ok (.invokevirtual 72, 3) := by decide +kernel
theorem dX6_branch_33 : decode cX6_branch 33 = .ok (.goto 4, 3) := by decide +kernel
theorem dX6_branch_36 : decode cX6_branch 36 = .ok (.iconst 0, 1) := by decide +kernel
theorem dX6_branch_37 : decode cX6_branch 37 = .ok (.ireturn, 1) := by decide +kernel
theorem dX6_defaults_0 : decode cX6_defaults 0 = .ok (.aload_n 0, 1) := by decide +kernel
theorem dX6_defaults_1 : decode cX6_defaults 1 = .ok (.getfield 50, 3) := by decide +kernel
theorem dX6_defaults_4 : decode cX6_defaults 4 = .ok (.areturn, 1) := by decide +kernel
theorem dX6_hasDefault_0 : decode cX6_hasDefault 0 = .ok (.aload_n 0, 1) := by decide +kernel
theorem dX6_hasDefault_1 : decode cX6_hasDefault 1 = .ok (.getfield 41, 3) := by decide +kernel
theorem dX6_hasDefault_4 : decode cX6_hasDefault 4 = .ok (.iload_n 1, 1) := by decide +kernel
theorem dX6_hasDefault_5 : decode cX6_hasDefault 5 = .ok (.invokevirtual 72, 3) := by decide +kernel
theorem dX6_hasDefault_8 : decode cX6_hasDefault 8 = .ok (.iconst (-1), 1) := by decide +kernel
theorem dX6_hasDefault_9 : decode cX6_hasDefault 9 = .ok (.if_icmp .eq 7, 3) := by decide +kernel
theorem dX6_hasDefault_12 : decode cX6_hasDefault 12 = .ok (.iconst 1, 1) := by decide +kernel
theorem dX6_hasDefault_13 : decode cX6_hasDefault 13 = .ok (.goto 4, 3) := by decide +kernel
theorem dX6_hasDefault_16 : decode cX6_hasDefault 16 = .ok (.iconst 0, 1) := by decide +kernel
theorem dX6_hasDefault_17 : decode cX6_hasDefault 17 = .ok (.ireturn, 1) := by decide +kernel
theorem dX6_defaultStart_0 : decode cX6_defaultStart 0 = .ok (.aload_n 0, 1) := by decide +kernel
theorem dX6_defaultStart_1 : decode cX6_defaultStart 1 = .ok (.getfield 41, 3) := by decide +kernel
theorem dX6_defaultStart_4 : decode cX6_defaultStart 4 = .ok (.iload_n 1, 1) := by decide +kernel
theorem dX6_defaultStart_5 : decode cX6_defaultStart 5 = .ok (.invokevirtual 72, 3) := by decide +kernel
theorem dX6_defaultStart_8 : decode cX6_defaultStart 8 = .ok (.ireturn, 1) := by decide +kernel
theorem dX6_defaultEnd_0 : decode cX6_defaultEnd 0 = .ok (.aload_n 0, 1) := by decide +kernel
theorem dX6_defaultEnd_1 : decode cX6_defaultEnd 1 = .ok (.getfield 44, 3) := by decide +kernel
theorem dX6_defaultEnd_4 : decode cX6_defaultEnd 4 = .ok (.iload_n 1, 1) := by decide +kernel
theorem dX6_defaultEnd_5 : decode cX6_defaultEnd 5 = .ok (.invokevirtual 72, 3) := by decide +kernel
theorem dX6_defaultEnd_8 : decode cX6_defaultEnd 8 = .ok (.ireturn, 1) := by decide +kernel
theorem dX6_setDefault_0 : decode cX6_setDefault 0 = .ok (.aload_n 0, 1) := by decide +kernel
theorem dX6_setDefault_1 : decode cX6_setDefault 1 = .ok (.getfield 41, 3) := by decide +kernel
theorem dX6_setDefault_4 : decode cX6_setDefault 4 = .ok (.iload_n 1, 1) := by decide +kernel
theorem dX6_setDefault_5 : decode cX6_setDefault 5 = .ok (.iload_n 2, 1) := by decide +kernel
theorem dX6_setDefault_6 : decode cX6_setDefault 6 = .ok (.invokevirtual 60, 3) := by decide +kernel
theorem dX6_setDefault_9 : decode cX6_setDefault 9 = .ok (.aload_n 0, 1) := by decide +kernel
theorem dX6_setDefault_10 : decode cX6_setDefault 10 = .ok (.getfield 44, 3) := by decide +kernel
theorem dX6_setDefault_13 : decode cX6_setDefault 13 = .ok (.iload_n 1, 1) := by decide +kernel
theorem dX6_setDefault_14 : decode cX6_setDefault 14 = .ok (.iload_n 3, 1) := by decide +kernel
theorem dX6_setDefault_15 : decode cX6_setDefault 15 = .ok (.invokevirtual 60, 3) := by decide +kernel
theorem dX6_setDefault_18 : decode cX6_setDefault 18 = .ok (.return_, 1) := by decide +kernel
theorem dX6_addName_0 : decode cX6_addName 0 = .ok (.aload_n 0, 1) := by decide +kernel
theorem dX6_addName_1 : decode cX6_addName 1 = .ok (.getfield 47, 3) := by decide +kernel
theorem dX6_addName_4 : decode cX6_addName 4 = .ok (.invokevirtual 68, 3) := by decide +kernel
theorem dX6_addName_7 : decode cX6_addName 7 = .ok (.istore_n 3, 1) := by decide +kernel
theorem dX6_addName_8 : decode cX6_addName 8 = .ok (.aload_n 0, 1) := by decide +kernel
theorem dX6_addName_9 : decode cX6_addName 9 = .ok (.getfield 47, 3) := by decide +kernel
theorem dX6_addName_12 : decode cX6_addName 12 = .ok (.aload_n 1, 1) := by decide +kernel
theorem dX6_addName_13 : decode cX6_addName 13 = .ok (.iload_n 2, 1) := by decide +kernel
theorem dX6_addName_14 : decode cX6_addName 14 = .ok (.iload_n 2, 1) := by decide +kernel
theorem dX6_addName_15 : decode cX6_addName 15 = .ok (.iconst 1, 1) := by decide +kernel
theorem dX6_addName_16 : decode cX6_addName 16 = .ok (.iadd, 1) := by decide +kernel
theorem dX6_addName_17 : decode cX6_addName 17 = .ok (.aload_n 1, 1) := by decide +kernel
theorem dX6_addName_18 : decode cX6_addName 18 = .ok (.iload_n 2, 1) := by decide +kernel
theorem dX6_addName_19 : decode cX6_addName 19 = .ok (.invokevirtual 72, 3) := by decide +kernel
theorem dX6_addName_22 : decode cX6_addName 22 = .ok (.iadd, 1) := by decide +kernel
theorem dX6_addName_23 : decode cX6_addName 23 = .ok (.invokevirtual 76, 3) := by decide +kernel
theorem dX6_addName_26 : decode cX6_addName 26 = .ok (.pop, 1) := by decide +kernel
theorem dX6_addName_27 : decode cX6_addName 27 = .ok (.iload_n 3, 1) := by decide +kernel
theorem dX6_addName_28 : decode cX6_addName 28 = .ok (.ireturn, 1) := by decide +kernel
theorem dX6_names_0 : decode cX6_names 0 = .ok (.aload_n 0, 1) := by decide +kernel
theorem dX6_names_1 : decode cX6_names 1 = .ok (.getfield 47, 3) := by decide +kernel
theorem dX6_names_4 : decode cX6_names 4 = .ok (.areturn, 1) := by decide +kernel
theorem dX6_partNamed_0 : decode cX6_partNamed 0 = .ok (.aload_n 0, 1) := by decide +kernel
theorem dX6_partNamed_1 : decode cX6_partNamed 1 = .ok (.getfield 29, 3) := by decide +kernel
theorem dX6_partNamed_4 : decode cX6_partNamed 4 = .ok (.iload_n 1, 1) := by decide +kernel
theorem dX6_partNamed_5 : decode cX6_partNamed 5 = .ok (.invokevirtual 72, 3) := by decide +kernel
theorem dX6_partNamed_8 : decode cX6_partNamed 8 = .ok (.istore 4, 2) := by decide +kernel
theorem dX6_partNamed_10 : decode cX6_partNamed 10 = .ok (.iconst 0, 1) := by decide +kernel
theorem dX6_partNamed_11 : decode cX6_partNamed 11 = .ok (.istore 5, 2) := by decide +kernel
theorem dX6_partNamed_13 : decode cX6_partNamed 13 = .ok (.iload 5, 2) := by decide +kernel
theorem dX6_partNamed_15 : decode cX6_partNamed 15 = .ok (.aload_n 0, 1) := by decide +kernel
theorem dX6_partNamed_16 : decode cX6_partNamed 16 = .ok (.getfield 32, 3) := by decide +kernel
theorem dX6_partNamed_19 : decode cX6_partNamed 19 = .ok (.iload_n 1, 1) := by decide +kernel
theorem dX6_partNamed_20 : decode cX6_partNamed 20 = .ok (.invokevirtual 72, 3) := by decide +kernel
theorem dX6_partNamed_23 : decode cX6_partNamed 23 = .ok (.if_icmp .ge 36, 3) := by decide +kernel
theorem dX6_partNamed_26 : decode cX6_partNamed 26 = .ok (.aload_n 0, 1) := by decide +kernel
theorem dX6_partNamed_27 : decode cX6_partNamed 27 = .ok (.getfield 47, 3) := by decide +kernel
theorem dX6_partNamed_30 : decode cX6_partNamed 30 = .ok (.aload_n 0, 1) := by decide +kernel
theorem dX6_partNamed_31 : decode cX6_partNamed 31 = .ok (.getfield 38, 3) := by decide +kernel
theorem dX6_partNamed_34 : decode cX6_partNamed 34 = .ok (.iload 4, 2) := by decide +kernel
theorem dX6_partNamed_36 : decode cX6_partNamed 36 = .ok (.iload 5, 2) := by decide +kernel
theorem dX6_partNamed_38 : decode cX6_partNamed 38 = .ok (.iadd, 1) := by decide +kernel
theorem dX6_partNamed_39 : decode cX6_partNamed 39 = .ok (.invokevirtual 72, 3) := by decide +kernel
theorem dX6_partNamed_42 : decode cX6_partNamed 42 = .ok (.aload_n 2, 1) := by decide +kernel
theorem dX6_partNamed_43 : decode cX6_partNamed 43 = .ok (.iload_n 3, 1) := by decide +kernel
theorem dX6_partNamed_44 : decode cX6_partNamed 44 = .ok (.invokevirtual 80, 3) := by decide +kernel
theorem dX6_partNamed_47 : decode cX6_partNamed 47 = .ok (.ifCond .eq 6, 3) := by decide +kernel
theorem dX6_partNamed_50 : decode cX6_partNamed 50 = .ok (.iload 5, 2) := by decide +kernel
theorem dX6_partNamed_52 : decode cX6_partNamed 52 = .ok (.ireturn, 1) := by decide +kernel
theorem dX6_partNamed_53 : decode cX6_partNamed 53 = .ok (.iinc 5 1, 3) := by decide +kernel
theorem dX6_partNamed_56 : decode cX6_partNamed 56 = .ok (.goto (-43), 3) := by decide +kernel
theorem dX6_partNamed_59 : decode cX6_partNamed 59 = .ok (.iconst (-1), 1) := by decide +kernel
theorem dX6_partNamed_60 : decode cX6_partNamed 60 = .ok (.ireturn, 1) := by decide +kernel
theorem dX6_nodeNamed_0 : decode cX6_nodeNamed 0 = .ok (.bipush 6, 2) := by decide +kernel
theorem dX6_nodeNamed_2 : decode cX6_nodeNamed 2 = .ok (.istore_n 3, 1) := by decide +kernel
theorem dX6_nodeNamed_3 : decode cX6_nodeNamed 3 = .ok (.iload_n 3, 1) := by decide +kernel
theorem dX6_nodeNamed_4 : decode cX6_nodeNamed 4 = .ok (.aload_n 0, 1) := by decide +kernel
theorem dX6_nodeNamed_5 : decode cX6_nodeNamed 5 = .ok (.getfield 16, 3) := by decide +kernel
theorem dX6_nodeNamed_8 : decode cX6_nodeNamed 8 = .ok (.invokevirtual 68, 3) := by decide +kernel
theorem dX6_nodeNamed_11 : decode cX6_nodeNamed 11 = .ok (.if_icmp .ge 31, 3) := by decide +kernel
theorem dX6_nodeNamed_14 : decode cX6_nodeNamed 14 = .ok (.aload_n 0, 1) := by decide +kernel
theorem dX6_nodeNamed_15 : decode cX6_nodeNamed 15 = .ok (.getfield 47, 3) := by decide +kernel
theorem dX6_nodeNamed_18 : decode cX6_nodeNamed 18 = .ok (.aload_n 0, 1) := by decide +kernel
theorem dX6_nodeNamed_19 : decode cX6_nodeNamed 19 = .ok (.getfield 20, 3) := by decide +kernel
theorem dX6_nodeNamed_22 : decode cX6_nodeNamed 22 = .ok (.iload_n 3, 1) := by decide +kernel
theorem dX6_nodeNamed_23 : decode cX6_nodeNamed 23 = .ok (.invokevirtual 72, 3) := by decide +kernel
theorem dX6_nodeNamed_26 : decode cX6_nodeNamed 26 = .ok (.aload_n 1, 1) := by decide +kernel
theorem dX6_nodeNamed_27 : decode cX6_nodeNamed 27 = .ok (.iload_n 2, 1) := by decide +kernel
theorem dX6_nodeNamed_28 : decode cX6_nodeNamed 28 = .ok (.invokevirtual 80, 3) := by decide +kernel
theorem dX6_nodeNamed_31 : decode cX6_nodeNamed 31 = .ok (.ifCond .eq 5, 3) := by decide +kernel
theorem dX6_nodeNamed_34 : decode cX6_nodeNamed 34 = .ok (.iload_n 3, 1) := by decide +kernel
theorem dX6_nodeNamed_35 : decode cX6_nodeNamed 35 = .ok (.ireturn, 1) := by decide +kernel
theorem dX6_nodeNamed_36 : decode cX6_nodeNamed 36 = .ok (.iinc 3 1, 3) := by decide +kernel
theorem dX6_nodeNamed_39 : decode cX6_nodeNamed 39 = .ok (.goto (-36), 3) := by decide +kernel
theorem dX6_nodeNamed_42 : decode cX6_nodeNamed 42 = .ok (.iconst (-1), 1) := by decide +kernel
theorem dX6_nodeNamed_43 : decode cX6_nodeNamed 43 = .ok (.ireturn, 1) := by decide +kernel
theorem dX6_matchPlainly_0 : decode cX6_matchPlainly 0 = .ok (.aload_n 0, 1) := by decide +kernel
theorem dX6_matchPlainly_1 : decode cX6_matchPlainly 1 = .ok (.getfield 16, 3) := by decide +kernel
theorem dX6_matchPlainly_4 : decode cX6_matchPlainly 4 = .ok (.iload_n 1, 1) := by decide +kernel
theorem dX6_matchPlainly_5 : decode cX6_matchPlainly 5 = .ok (.invokevirtual 72, 3) := by decide +kernel
theorem dX6_matchPlainly_8 : decode cX6_matchPlainly 8 = .ok (.istore 4, 2) := by decide +kernel
theorem dX6_matchPlainly_10 : decode cX6_matchPlainly 10 = .ok (.aload_n 2, 1) := by decide +kernel
theorem dX6_matchPlainly_11 : decode cX6_matchPlainly 11 = .ok (.getfield 16, 3) := by decide +kernel
theorem dX6_matchPlainly_14 : decode cX6_matchPlainly 14 = .ok (.iload_n 3, 1) := by decide +kernel
theorem dX6_matchPlainly_15 : decode cX6_matchPlainly 15 = .ok (.invokevirtual 72, 3) := by decide +kernel
theorem dX6_matchPlainly_18 : decode cX6_matchPlainly 18 = .ok (.istore 5, 2) := by decide +kernel
theorem dX6_matchPlainly_20 : decode cX6_matchPlainly 20 = .ok (.iload 4, 2) := by decide +kernel
theorem dX6_matchPlainly_22 : decode cX6_matchPlainly 22 = .ok (.bipush 6, 2) := by decide +kernel
theorem dX6_matchPlainly_24 : decode cX6_matchPlainly 24 = .ok (.if_icmp .ge 52, 3) := by decide +kernel
theorem dX6_matchPlainly_27 : decode cX6_matchPlainly 27 = .ok (.iload 4, 2) := by decide +kernel
theorem dX6_matchPlainly_29 : decode cX6_matchPlainly 29 = .ok (.iload 5, 2) := by decide +kernel
theorem dX6_matchPlainly_31 : decode cX6_matchPlainly 31 = .ok (.if_icmp .eq 39, 3) := by decide +kernel
theorem dX6_matchPlainly_34 : decode cX6_matchPlainly 34 = .ok (.iload 4, 2) := by decide +kernel
theorem dX6_matchPlainly_36 : decode cX6_matchPlainly 36 = .ok (.iconst 2, 1) := by decide +kernel
theorem dX6_matchPlainly_37 : decode cX6_matchPlainly 37 = .ok (.if_icmp .ne 9, 3) := by decide +kernel
theorem dX6_matchPlainly_40 : decode cX6_matchPlainly 40 = .ok (.iload 5, 2) := by decide +kernel
theorem dX6_matchPlainly_42 : decode cX6_matchPlainly 42 = .ok (.iconst 3, 1) := by decide +kernel
theorem dX6_matchPlainly_43 : decode cX6_matchPlainly 43 = .ok (.if_icmp .eq 27, 3) := by decide +kernel
theorem dX6_matchPlainly_46 : decode cX6_matchPlainly 46 = .ok (.iload 4, 2) := by decide +kernel
theorem dX6_matchPlainly_48 : decode cX6_matchPlainly 48 = .ok (.iconst 4, 1) := by decide +kernel
theorem dX6_matchPlainly_49 : decode cX6_matchPlainly 49 = .ok (.if_icmp .ne 9, 3) := by decide +kernel
theorem dX6_matchPlainly_52 : decode cX6_matchPlainly 52 = .ok (.iload 5, 2) := by decide +kernel
theorem dX6_matchPlainly_54 : decode cX6_matchPlainly 54 = .ok (.iconst 5, 1) := by decide +kernel
theorem dX6_matchPlainly_55 : decode cX6_matchPlainly 55 = .ok (.if_icmp .eq 15, 3) := by decide +kernel
theorem dX6_matchPlainly_58 : decode cX6_matchPlainly 58 = .ok (.iload 4, 2) := by decide +kernel
theorem dX6_matchPlainly_60 : decode cX6_matchPlainly 60 = .ok (.iconst 5, 1) := by decide +kernel
theorem dX6_matchPlainly_61 : decode cX6_matchPlainly 61 = .ok (.if_icmp .ne 13, 3) := by decide +kernel
theorem dX6_matchPlainly_64 : decode cX6_matchPlainly 64 = .ok (.iload 5, 2) := by decide +kernel
theorem dX6_matchPlainly_66 : decode cX6_matchPlainly 66 = .ok (.iconst 4, 1) := by decide +kernel
theorem dX6_matchPlainly_67 : decode cX6_matchPlainly 67 = .ok (.if_icmp .ne 7, 3) := by decide +kernel
theorem dX6_matchPlainly_70 : decode cX6_matchPlainly 70 = .ok (.iconst 1, 1) := by decide +kernel
theorem dX6_matchPlainly_71 : decode cX6_matchPlainly 71 = .ok (.goto 4, 3) := by decide +kernel
theorem dX6_matchPlainly_74 : decode cX6_matchPlainly 74 = .ok (.iconst 0, 1) := by decide +kernel
theorem dX6_matchPlainly_75 : decode cX6_matchPlainly 75 = .ok (.ireturn, 1) := by decide +kernel
theorem dX6_matchPlainly_76 : decode cX6_matchPlainly 76 = .ok (.iload 4, 2) := by decide +kernel
theorem dX6_matchPlainly_78 : decode cX6_matchPlainly 78 = .ok (.iload 5, 2) := by decide +kernel
theorem dX6_matchPlainly_80 : decode cX6_matchPlainly 80 = .ok (.if_icmp .ne 24, 3) := by decide +kernel
theorem dX6_matchPlainly_83 : decode cX6_matchPlainly 83 = .ok (.iload 4, 2) := by decide +kernel
theorem dX6_matchPlainly_85 : decode cX6_matchPlainly 85 = .ok (.bipush 9, 2) := by decide +kernel
theorem dX6_matchPlainly_87 : decode cX6_matchPlainly 87 = .ok (.if_icmp .eq 19, 3) := by decide +kernel
theorem dX6_matchPlainly_90 : decode cX6_matchPlainly 90 = .ok (.iload 4, 2) := by decide +kernel
theorem dX6_matchPlainly_92 : decode cX6_matchPlainly 92 = .ok (.bipush 10, 2) := by decide +kernel
theorem dX6_matchPlainly_94 : decode cX6_matchPlainly 94 = .ok (.if_icmp .eq 12, 3) := by decide +kernel
theorem dX6_matchPlainly_97 : decode cX6_matchPlainly 97 = .ok (.iload 4, 2) := by decide +kernel
theorem dX6_matchPlainly_99 : decode cX6_matchPlainly 99 = .ok (.bipush 11, 2) := by decide +kernel
theorem dX6_matchPlainly_101 : decode cX6_matchPlainly 101 = .ok (.if_icmp .eq 5, 3) := by decide +kernel
theorem dX6_matchPlainly_104 : decode cX6_matchPlainly 104 = .ok (.iconst 0, 1) := by decide +kernel
theorem dX6_matchPlainly_105 : decode cX6_matchPlainly 105 = .ok (.ireturn, 1) := by decide +kernel
theorem dX6_matchPlainly_106 : decode cX6_matchPlainly 106 = .ok (.aload_n 0, 1) := by decide +kernel
theorem dX6_matchPlainly_107 : decode cX6_matchPlainly 107 = .ok (.getfield 47, 3) := by decide +kernel
theorem dX6_matchPlainly_110 : decode cX6_matchPlainly 110 = .ok (.aload_n 0, 1) := by decide +kernel
theorem dX6_matchPlainly_111 : decode cX6_matchPlainly 111 = .ok (.getfield 20, 3) := by decide +kernel
theorem dX6_matchPlainly_114 : decode cX6_matchPlainly 114 = .ok (.iload_n 1, 1) := by decide +kernel
theorem dX6_matchPlainly_115 : decode cX6_matchPlainly 115 = .ok (.invokevirtual 72, 3) := by decide +kernel
theorem dX6_matchPlainly_118 : decode cX6_matchPlainly 118 = .ok (.aload_n 2, 1) := by decide +kernel
theorem dX6_matchPlainly_119 : decode cX6_matchPlainly 119 = .ok (.getfield 47, 3) := by decide +kernel
theorem dX6_matchPlainly_122 : decode cX6_matchPlainly 122 = .ok (.aload_n 2, 1) := by decide +kernel
theorem dX6_matchPlainly_123 : decode cX6_matchPlainly 123 = .ok (.getfield 20, 3) := by decide +kernel
theorem dX6_matchPlainly_126 : decode cX6_matchPlainly 126 = .ok (.iload_n 3, 1) := by decide +kernel
theorem dX6_matchPlainly_127 : decode cX6_matchPlainly 127 = .ok (.invokevirtual 72, 3) := by decide +kernel
theorem dX6_matchPlainly_130 : decode cX6_matchPlainly 130 = .ok (.invokevirtual 80, 3) := by decide +kernel
theorem dX6_matchPlainly_133 : decode cX6_matchPlainly 133 = .ok (.ifCond .eq 33, 3) := by decide +kernel
theorem dX6_matchPlainly_136 : decode cX6_matchPlainly 136 = .ok (.iload 4, 2) := by decide +kernel
theorem dX6_matchPlainly_138 : decode cX6_matchPlainly 138 = .ok (.bipush 9, 2) := by decide +kernel
theorem dX6_matchPlainly_140 : decode cX6_matchPlainly 140 = .ok (.if_icmp .ne 22, 3) := by decide +kernel
theorem dX6_matchPlainly_143 : decode cX6_matchPlainly 143 = .ok (.aload_n 0, 1) := by decide +kernel
theorem dX6_matchPlainly_144 : decode cX6_matchPlainly 144 = .ok (.getfield 23, 3) := by decide +kernel
theorem dX6_matchPlainly_147 : decode cX6_matchPlainly 147 = .ok (.iload_n 1, 1) := by decide +kernel
theorem dX6_matchPlainly_148 : decode cX6_matchPlainly 148 = .ok (.invokevirtual 72, 3) := by decide +kernel
theorem dX6_matchPlainly_151 : decode cX6_matchPlainly 151 = .ok (.aload_n 2, 1) := by decide +kernel
theorem dX6_matchPlainly_152 : decode cX6_matchPlainly 152 = .ok (.getfield 23, 3) := by decide +kernel
theorem dX6_matchPlainly_155 : decode cX6_matchPlainly 155 = .ok (.iload_n 3, 1) := by decide +kernel
theorem dX6_matchPlainly_156 : decode cX6_matchPlainly 156 = .ok (.invokevirtual 72, 3) := by decide +kernel
theorem dX6_matchPlainly_159 : decode cX6_matchPlainly 159 = .ok (.if_icmp .ne 7, 3) := by decide +kernel
theorem dX6_matchPlainly_162 : decode cX6_matchPlainly 162 = .ok (.iconst 1, 1) := by decide +kernel
theorem dX6_matchPlainly_163 : decode cX6_matchPlainly 163 = .ok (.goto 4, 3) := by decide +kernel
theorem dX6_matchPlainly_166 : decode cX6_matchPlainly 166 = .ok (.iconst 0, 1) := by decide +kernel
theorem dX6_matchPlainly_167 : decode cX6_matchPlainly 167 = .ok (.ireturn, 1) := by decide +kernel
theorem dX6_match_0 : decode cX6_match 0 = .ok (.iload_n 1, 1) := by decide +kernel
theorem dX6_match_1 : decode cX6_match 1 = .ok (.istore 4, 2) := by decide +kernel
theorem dX6_match_3 : decode cX6_match 3 = .ok (.iload_n 3, 1) := by decide +kernel
theorem dX6_match_4 : decode cX6_match 4 = .ok (.istore 5, 2) := by decide +kernel
theorem dX6_match_6 : decode cX6_match 6 = .ok (.iconst 0, 1) := by decide +kernel
theorem dX6_match_7 : decode cX6_match 7 = .ok (.istore 6, 2) := by decide +kernel
theorem dX6_match_9 : decode cX6_match 9 = .ok (.iload 6, 2) := by decide +kernel
theorem dX6_match_11 : decode cX6_match 11 = .ok (.sipush 134, 3) := by decide +kernel
theorem dX6_match_14 : decode cX6_match 14 = .ok (.if_icmp .ge 88, 3) := by decide +kernel
theorem dX6_match_17 : decode cX6_match 17 = .ok (.aload_n 0, 1) := by decide +kernel
theorem dX6_match_18 : decode cX6_match 18 = .ok (.iload 4, 2) := by decide +kernel
theorem dX6_match_20 : decode cX6_match 20 = .ok (.invokevirtual 84, 3) := by decide +kernel
theorem dX6_match_23 : decode cX6_match 23 = .ok (.istore 7, 2) := by decide +kernel
theorem dX6_match_25 : decode cX6_match 25 = .ok (.iload 7, 2) := by decide +kernel
theorem dX6_match_27 : decode cX6_match 27 = .ok (.bipush 8, 2) := by decide +kernel
theorem dX6_match_29 : decode cX6_match 29 = .ok (.if_icmp .eq 14, 3) := by decide +kernel
theorem dX6_match_32 : decode cX6_match 32 = .ok (.aload_n 2, 1) := by decide +kernel
theorem dX6_match_33 : decode cX6_match 33 = .ok (.iload 5, 2) := by decide +kernel
theorem dX6_match_35 : decode cX6_match 35 = .ok (.invokevirtual 84, 3) := by decide +kernel
theorem dX6_match_38 : decode cX6_match 38 = .ok (.bipush 8, 2) := by decide +kernel
theorem dX6_match_40 : decode cX6_match 40 = .ok (.if_icmp .ne 5, 3) := by decide +kernel
theorem dX6_match_43 : decode cX6_match 43 = .ok (.iconst 1, 1) := by decide +kernel
theorem dX6_match_44 : decode cX6_match 44 = .ok (.ireturn, 1) := by decide +kernel
theorem dX6_match_45 : decode cX6_match 45 = .ok (.iload 7, 2) := by decide +kernel
theorem dX6_match_47 : decode cX6_match 47 = .ok (.bipush 6, 2) := by decide +kernel
theorem dX6_match_49 : decode cX6_match 49 = .ok (.if_icmp .eq 10, 3) := by decide +kernel
theorem dX6_match_52 : decode cX6_match 52 = .ok (.iload 7, 2) := by decide +kernel
theorem dX6_match_54 : decode cX6_match 54 = .ok (.bipush 7, 2) := by decide +kernel
theorem dX6_match_56 : decode cX6_match 56 = .ok (.if_icmp .ne 14, 3) := by decide +kernel
theorem dX6_match_59 : decode cX6_match 59 = .ok (.aload_n 2, 1) := by decide +kernel
theorem dX6_match_60 : decode cX6_match 60 = .ok (.iload 5, 2) := by decide +kernel
theorem dX6_match_62 : decode cX6_match 62 = .ok (.invokevirtual 84, 3) := by decide +kernel
theorem dX6_match_65 : decode cX6_match 65 = .ok (.iload 7, 2) := by decide +kernel
theorem dX6_match_67 : decode cX6_match 67 = .ok (.if_icmp .eq 13, 3) := by decide +kernel
theorem dX6_match_70 : decode cX6_match 70 = .ok (.aload_n 0, 1) := by decide +kernel
theorem dX6_match_71 : decode cX6_match 71 = .ok (.iload 4, 2) := by decide +kernel
theorem dX6_match_73 : decode cX6_match 73 = .ok (.aload_n 2, 1) := by decide +kernel
theorem dX6_match_74 : decode cX6_match 74 = .ok (.iload 5, 2) := by decide +kernel
theorem dX6_match_76 : decode cX6_match 76 = .ok (.invokestatic 86, 3) := by decide +kernel
theorem dX6_match_79 : decode cX6_match 79 = .ok (.ireturn, 1) := by decide +kernel
theorem dX6_match_80 : decode cX6_match 80 = .ok (.aload_n 0, 1) := by decide +kernel
theorem dX6_match_81 : decode cX6_match 81 = .ok (.iload 4, 2) := by decide +kernel
theorem dX6_match_83 : decode cX6_match 83 = .ok (.invokevirtual 90, 3) := by decide +kernel
theorem dX6_match_86 : decode cX6_match 86 = .ok (.istore 4, 2) := by decide +kernel
theorem dX6_match_88 : decode cX6_match 88 = .ok (.aload_n 2, 1) := by decide +kernel
theorem dX6_match_89 : decode cX6_match 89 = .ok (.iload 5, 2) := by decide +kernel
theorem dX6_match_91 : decode cX6_match 91 = .ok (.invokevirtual 90, 3) := by decide +kernel
theorem dX6_match_94 : decode cX6_match 94 = .ok (.istore 5, 2) := by decide +kernel
theorem dX6_match_96 : decode cX6_match 96 = .ok (.iinc 6 1, 3) := by decide +kernel
theorem dX6_match_99 : decode cX6_match 99 = .ok (.goto (-90), 3) := by decide +kernel
theorem dX6_match_102 : decode cX6_match 102 = .ok (.iconst 0, 1) := by decide +kernel
theorem dX6_match_103 : decode cX6_match 103 = .ok (.ireturn, 1) := by decide +kernel
theorem dX6_firstMatch_0 : decode cX6_firstMatch 0 = .ok (.iconst 0, 1) := by decide +kernel
theorem dX6_firstMatch_1 : decode cX6_firstMatch 1 = .ok (.istore 4, 2) := by decide +kernel
theorem dX6_firstMatch_3 : decode cX6_firstMatch 3 = .ok (.iload 4, 2) := by decide +kernel
theorem dX6_firstMatch_5 : decode cX6_firstMatch 5 = .ok (.aload_n 2, 1) := by decide +kernel
theorem dX6_firstMatch_6 : decode cX6_firstMatch 6 = .ok (.iload_n 3, 1) := by decide +kernel
theorem dX6_firstMatch_7 : decode cX6_firstMatch 7 = .ok (.invokevirtual 93, 3) := by decide +kernel
theorem dX6_firstMatch_10 : decode cX6_firstMatch 10 = .ok (.if_icmp .ge 28, 3) := by decide +kernel
theorem dX6_firstMatch_13 : decode cX6_firstMatch 13 = .ok (.aload_n 0, 1) := by decide +kernel
theorem dX6_firstMatch_14 : decode cX6_firstMatch 14 = .ok (.iload_n 1, 1) := by decide +kernel
theorem dX6_firstMatch_15 : decode cX6_firstMatch 15 = .ok (.aload_n 2, 1) := by decide +kernel
theorem dX6_firstMatch_16 : decode cX6_firstMatch 16 = .ok (.aload_n 2, 1) := by decide +kernel
theorem dX6_firstMatch_17 : decode cX6_firstMatch 17 = .ok (.iload_n 3, 1) := by decide +kernel
theorem dX6_firstMatch_18 : decode cX6_firstMatch 18 = .ok (.iload 4, 2) := by decide +kernel
theorem dX6_firstMatch_20 : decode cX6_firstMatch 20 = .ok (.invokevirtual 95, 3) := by decide +kernel
theorem dX6_firstMatch_23 : decode cX6_firstMatch 23 = .ok (.invokestatic 99, 3) := by decide +kernel
theorem dX6_firstMatch_26 : decode cX6_firstMatch 26 = .ok (.ifCond .eq 6, 3) := by decide +kernel
theorem dX6_firstMatch_29 : decode cX6_firstMatch 29 = .ok (.iload 4, 2) := by decide +kernel
theorem dX6_firstMatch_31 : decode cX6_firstMatch 31 = .ok (.ireturn, 1) := by decide +kernel
theorem dX6_firstMatch_32 : decode cX6_firstMatch 32 = .ok (.iinc 4 1, 3) := by decide +kernel
theorem dX6_firstMatch_35 : decode cX6_firstMatch 35 = .ok (.goto (-32), 3) := by decide +kernel
theorem dX6_firstMatch_38 : decode cX6_firstMatch 38 = .ok (.iconst (-1), 1) := by decide +kernel
theorem dX6_firstMatch_39 : decode cX6_firstMatch 39 = .ok (.ireturn, 1) := by decide +kernel
theorem dX7_init_0 : decode cX7_init 0 = .ok (.aload_n 0, 1) := by decide +kernel
theorem dX7_init_1 : decode cX7_init 1 = .ok (.invokespecial 3, 3) := by decide +kernel
theorem dX7_init_4 : decode cX7_init 4 = .ok (.aload_n 0, 1) := by decide +kernel
theorem dX7_init_5 : decode cX7_init 5 = .ok (.new 9, 3) := by decide +kernel
theorem dX7_init_8 : decode cX7_init 8 = .ok (.dup, 1) := by decide +kernel
theorem dX7_init_9 : decode cX7_init 9 = .ok (.sipush 4096, 3) := by decide +kernel
theorem dX7_init_12 : decode cX7_init 12 = .ok (.invokespecial 11, 3) := by decide +kernel
theorem dX7_init_15 : decode cX7_init 15 = .ok (.putfield 14, 3) := by decide +kernel
theorem dX7_init_18 : decode cX7_init 18 = .ok (.aload_n 0, 1) := by decide +kernel
theorem dX7_init_19 : decode cX7_init 19 = .ok (.new 9, 3) := by decide +kernel
theorem dX7_init_22 : decode cX7_init 22 = .ok (.dup, 1) := by decide +kernel
theorem dX7_init_23 : decode cX7_init 23 = .ok (.sipush 2048, 3) := by decide +kernel
theorem dX7_init_26 : decode cX7_init 26 = .ok (.invokespecial 11, 3) := by decide +kernel
theorem dX7_init_29 : decode cX7_init 29 = .ok (.putfield 22, 3) := by decide +kernel
theorem dX7_init_32 : decode cX7_init 32 = .ok (.aload_n 0, 1) := by decide +kernel
theorem dX7_init_33 : decode cX7_init 33 = .ok (.new 9, 3) := by decide +kernel
theorem dX7_init_36 : decode cX7_init 36 = .ok (.dup, 1) := by decide +kernel
theorem dX7_init_37 : decode cX7_init 37 = .ok (.sipush 1089, 3) := by decide +kernel
theorem dX7_init_40 : decode cX7_init 40 = .ok (.invokespecial 11, 3) := by decide +kernel
theorem dX7_init_43 : decode cX7_init 43 = .ok (.putfield 25, 3) := by decide +kernel
theorem dX7_init_46 : decode cX7_init 46 = .ok (.aload_n 0, 1) := by decide +kernel
theorem dX7_init_47 : decode cX7_init 47 = .ok (.new 9, 3) := by decide +kernel
theorem dX7_init_50 : decode cX7_init 50 = .ok (.dup, 1) := by decide +kernel
theorem dX7_init_51 : decode cX7_init 51 = .ok (.sipush 134, 3) := by decide +kernel
theorem dX7_init_54 : decode cX7_init 54 = .ok (.invokespecial 11, 3) := by decide +kernel
theorem dX7_init_57 : decode cX7_init 57 = .ok (.putfield 28, 3) := by decide +kernel
theorem dX7_init_60 : decode cX7_init 60 = .ok (.aload_n 0, 1) := by decide +kernel
theorem dX7_init_61 : decode cX7_init 61 = .ok (.new 9, 3) := by decide +kernel
theorem dX7_init_64 : decode cX7_init 64 = .ok (.dup, 1) := by decide +kernel
theorem dX7_init_65 : decode cX7_init 65 = .ok (.sipush 134, 3) := by decide +kernel
theorem dX7_init_68 : decode cX7_init 68 = .ok (.invokespecial 11, 3) := by decide +kernel
theorem dX7_init_71 : decode cX7_init 71 = .ok (.putfield 31, 3) := by decide +kernel
theorem dX7_init_74 : decode cX7_init 74 = .ok (.aload_n 0, 1) := by decide +kernel
theorem dX7_init_75 : decode cX7_init 75 = .ok (.new 9, 3) := by decide +kernel
theorem dX7_init_78 : decode cX7_init 78 = .ok (.dup, 1) := by decide +kernel
theorem dX7_init_79 : decode cX7_init 79 = .ok (.sipush 134, 3) := by decide +kernel
theorem dX7_init_82 : decode cX7_init 82 = .ok (.invokespecial 11, 3) := by decide +kernel
theorem dX7_init_85 : decode cX7_init 85 = .ok (.putfield 34, 3) := by decide +kernel
theorem dX7_init_88 : decode cX7_init 88 = .ok (.return_, 1) := by decide +kernel
theorem dX7_prepare_0 : decode cX7_prepare 0 = .ok (.aload_n 0, 1) := by decide +kernel
theorem dX7_prepare_1 : decode cX7_prepare 1 = .ok (.aload_n 1, 1) := by decide +kernel
theorem dX7_prepare_2 : decode cX7_prepare 2 = .ok (.putfield 37, 3) := by decide +kernel
theorem dX7_prepare_5 : decode cX7_prepare 5 = .ok (.aload_n 0, 1) := by decide +kernel
theorem dX7_prepare_6 : decode cX7_prepare 6 = .ok (.aload_n 2, 1) := by decide +kernel
theorem dX7_prepare_7 : decode cX7_prepare 7 = .ok (.putfield 41, 3) := by decide +kernel
theorem dX7_prepare_10 : decode cX7_prepare 10 = .ok (.aload_n 2, 1) := by decide +kernel
theorem dX7_prepare_11 : decode cX7_prepare 11 = .ok (.ifnonnull 7, 3) := by decide +kernel
theorem dX7_prepare_14 : decode cX7_prepare 14 = .ok (.iconst 0, 1) := by decide +kernel
theorem dX7_prepare_15 : decode cX7_prepare 15 = .ok (.goto 7, 3) := by decide +kernel
theorem dX7_prepare_18 : decode cX7_prepare 18 = .ok (.aload_n 2, 1) := by decide +kernel
theorem dX7_prepare_19 : decode cX7_prepare 19 = .ok (.invokevirtual 44, 3) := by decide +kernel
theorem dX7_prepare_22 : decode cX7_prepare 22 = .ok (.istore_n 3, 1) := by decide +kernel
theorem dX7_prepare_23 : decode cX7_prepare 23 = .ok (.iconst 0, 1) := by decide +kernel
theorem dX7_prepare_24 : decode cX7_prepare 24 = .ok (.istore 4, 2) := by decide +kernel
theorem dX7_prepare_26 : decode cX7_prepare 26 = .ok (.iload 4, 2) := by decide +kernel
theorem dX7_prepare_28 : decode cX7_prepare 28 = .ok (.iload_n 3, 1) := by decide +kernel
theorem dX7_prepare_29 : decode cX7_prepare 29 = .ok (.if_icmp .ge 20, 3) := by decide +kernel
theorem dX7_prepare_32 : decode cX7_prepare 32 = .ok (.aload_n 0, 1) := by decide +kernel
theorem dX7_prepare_33 : decode cX7_prepare 33 = .ok (.getfield 22, 3) := by decide +kernel
theorem dX7_prepare_36 : decode cX7_prepare 36 = .ok (.iload 4, 2) := by decide +kernel
theorem dX7_prepare_38 : decode cX7_prepare 38 = .ok (.bipush (-2), 2) := by decide +kernel
theorem dX7_prepare_40 : decode cX7_prepare 40 = .ok (.invokevirtual 48, 3) := by decide +kernel
theorem dX7_prepare_43 : decode cX7_prepare 43 = .ok (.iinc 4 1, 3) := by decide +kernel
theorem dX7_prepare_46 : decode cX7_prepare 46 = .ok (.goto (-20), 3) := by decide +kernel
theorem dX7_prepare_49 : decode cX7_prepare 49 = .ok (.return_, 1) := by decide +kernel
theorem dX7_tell_0 : decode cX7_tell 0 = .ok (.aload_n 0, 1) := by decide +kernel
theorem dX7_tell_1 : decode cX7_tell 1 = .ok (.getfield 14, 3) := by decide +kernel
theorem dX7_tell_4 : decode cX7_tell 4 = .ok (.iconst 0, 1) := by decide +kernel
theorem dX7_tell_5 : decode cX7_tell 5 = .ok (.invokevirtual 52, 3) := by decide +kernel
theorem dX7_tell_8 : decode cX7_tell 8 = .ok (.aload_n 0, 1) := by decide +kernel
theorem dX7_tell_9 : decode cX7_tell 9 = .ok (.dup, 1) := by decide +kernel
theorem dX7_tell_10 : decode cX7_tell 10 = .ok (.getfield 55, 3) := by decide +kernel
theorem dX7_tell_13 : decode cX7_tell 13 = .ok (.iconst 1, 1) := by decide +kernel
theorem dX7_tell_14 : decode cX7_tell 14 = .ok (.iadd, 1) := by decide +kernel
theorem dX7_tell_15 : decode cX7_tell 15 = .ok (.putfield 55, 3) := by decide +kernel
theorem dX7_tell_18 : decode cX7_tell 18 = .ok (.aload_n 0, 1) := by decide +kernel
theorem dX7_tell_19 : decode cX7_tell 19 = .ok (.iconst 0, 1) := by decide +kernel
theorem dX7_tell_20 : decode cX7_tell 20 = .ok (.putfield 59, 3) := by decide +kernel
theorem dX7_tell_23 : decode cX7_tell 23 = .ok (.aload_n 1, 1) := by decide +kernel
theorem dX7_tell_24 : decode cX7_tell 24 = .ok (.ifnull 17, 3) := by decide +kernel
theorem dX7_tell_27 : decode cX7_tell 27 = .ok (.aload_n 0, 1) := by decide +kernel
theorem dX7_tell_28 : decode cX7_tell 28 = .ok (.getfield 37, 3) := by decide +kernel
theorem dX7_tell_31 : decode cX7_tell 31 = .ok (.ifnull 10, 3) := by decide +kernel
theorem dX7_tell_34 : decode cX7_tell 34 = .ok (.aload_n 0, 1) := by decide +kernel
theorem dX7_tell_35 : decode cX7_tell 35 = .ok (.getfield 41, 3) := by decide +kernel
theorem dX7_tell_38 : decode cX7_tell 38 = .ok (.ifnonnull 6, 3) := by decide +kernel
theorem dX7_tell_41 : decode cX7_tell 41 = .ok (.bipush (-20), 2) := by decide +kernel
theorem dX7_tell_43 : decode cX7_tell 43 = .ok (.ireturn, 1) := by decide +kernel
theorem dX7_tell_44 : decode cX7_tell 44 = .ok (.aload_n 0, 1) := by decide +kernel
theorem dX7_tell_45 : decode cX7_tell 45 = .ok (.aload_n 1, 1) := by decide +kernel
theorem dX7_tell_46 : decode cX7_tell 46 = .ok (.invokevirtual 62, 3) := by decide +kernel
theorem dX7_tell_49 : decode cX7_tell 49 = .ok (.putfield 68, 3) := by decide +kernel
theorem dX7_tell_52 : decode cX7_tell 52 = .ok (.aload_n 0, 1) := by decide +kernel
theorem dX7_tell_53 : decode cX7_tell 53 = .ok (.aload_n 1, 1) := by decide +kernel
theorem dX7_tell_54 : decode cX7_tell 54 = .ok (.iload_n 2, 1) := by decide +kernel
theorem dX7_tell_55 : decode cX7_tell 55 = .ok (.invokevirtual 70, 3) := by decide +kernel
theorem dX7_tell_58 : decode cX7_tell 58 = .ok (.putfield 74, 3) := by decide +kernel
theorem dX7_tell_61 : decode cX7_tell 61 = .ok (.aload_n 0, 1) := by decide +kernel
theorem dX7_tell_62 : decode cX7_tell 62 = .ok (.aload_n 0, 1) := by decide +kernel
theorem dX7_tell_63 : decode cX7_tell 63 = .ok (.getfield 37, 3) := by decide +kernel
theorem dX7_tell_66 : decode cX7_tell 66 = .ok (.invokevirtual 77, 3) := by decide +kernel
theorem dX7_tell_69 : decode cX7_tell 69 = .ok (.aload_n 0, 1) := by decide +kernel
theorem dX7_tell_70 : decode cX7_tell 70 = .ok (.getfield 41, 3) := by decide +kernel
theorem dX7_tell_73 : decode cX7_tell 73 = .ok (.invokevirtual 77, 3) := by decide +kernel
theorem dX7_tell_76 : decode cX7_tell 76 = .ok (.iconst 0, 1) := by decide +kernel
theorem dX7_tell_77 : decode cX7_tell 77 = .ok (.invokevirtual 80, 3) := by decide +kernel
theorem dX7_tell_80 : decode cX7_tell 80 = .ok (.aload_n 0, 1) := by decide +kernel
theorem dX7_tell_81 : decode cX7_tell 81 = .ok (.getfield 59, 3) := by decide +kernel
theorem dX7_tell_84 : decode cX7_tell 84 = .ok (.ireturn, 1) := by decide +kernel
theorem dX7_told_0 : decode cX7_told 0 = .ok (.aload_n 0, 1) := by decide +kernel
theorem dX7_told_1 : decode cX7_told 1 = .ok (.getfield 14, 3) := by decide +kernel
theorem dX7_told_4 : decode cX7_told 4 = .ok (.areturn, 1) := by decide +kernel
theorem dX7_halt_0 : decode cX7_halt 0 = .ok (.aload_n 0, 1) := by decide +kernel
theorem dX7_halt_1 : decode cX7_halt 1 = .ok (.getfield 59, 3) := by decide +kernel
theorem dX7_halt_4 : decode cX7_halt 4 = .ok (.ifCond .ne 8, 3) := by decide +kernel
theorem dX7_halt_7 : decode cX7_halt 7 = .ok (.aload_n 0, 1) := by decide +kernel
theorem dX7_halt_8 : decode cX7_halt 8 = .ok (.iload_n 1, 1) := by decide +kernel
theorem dX7_halt_9 : decode cX7_halt 9 = .ok (.putfield 59, 3) := by decide +kernel
theorem dX7_halt_12 : decode cX7_halt 12 = .ok (.return_, 1) := by decide +kernel
theorem dX7_put_0 : decode cX7_put 0 = .ok (.aload_n 0, 1) := by decide +kernel
theorem dX7_put_1 : decode cX7_put 1 = .ok (.getfield 59, 3) := by decide +kernel
theorem dX7_put_4 : decode cX7_put 4 = .ok (.ifCond .ne 20, 3) := by decide +kernel
theorem dX7_put_7 : decode cX7_put 7 = .ok (.aload_n 0, 1) := by decide +kernel
theorem dX7_put_8 : decode cX7_put 8 = .ok (.getfield 14, 3) := by decide +kernel
theorem dX7_put_11 : decode cX7_put 11 = .ok (.lload_n 1, 1) := by decide +kernel
theorem dX7_put_12 : decode cX7_put 12 = .ok (.invokevirtual 84, 3) := by decide +kernel
theorem dX7_put_15 : decode cX7_put 15 = .ok (.ifCond .ne 9, 3) := by decide +kernel
theorem dX7_put_18 : decode cX7_put 18 = .ok (.aload_n 0, 1) := by decide +kernel
theorem dX7_put_19 : decode cX7_put 19 = .ok (.bipush (-31), 2) := by decide +kernel
theorem dX7_put_21 : decode cX7_put 21 = .ok (.invokevirtual 88, 3) := by decide +kernel
theorem dX7_put_24 : decode cX7_put 24 = .ok (.return_, 1) := by decide +kernel
theorem dX7_putPart_0 : decode cX7_putPart 0 = .ok (.aload_n 0, 1) := by decide +kernel
theorem dX7_putPart_1 : decode cX7_putPart 1 = .ok (.getfield 59, 3) := by decide +kernel
theorem dX7_putPart_4 : decode cX7_putPart 4 = .ok (.ifCond .ne 22, 3) := by decide +kernel
theorem dX7_putPart_7 : decode cX7_putPart 7 = .ok (.aload_n 0, 1) := by decide +kernel
theorem dX7_putPart_8 : decode cX7_putPart 8 = .ok (.getfield 14, 3) := by decide +kernel
theorem dX7_putPart_11 : decode cX7_putPart 11 = .ok (.aload_n 1, 1) := by decide +kernel
theorem dX7_putPart_12 : decode cX7_putPart 12 = .ok (.iload_n 2, 1) := by decide +kernel
theorem dX7_putPart_13 : decode cX7_putPart 13 = .ok (.iload_n 3, 1) := by decide +kernel
theorem dX7_putPart_14 : decode cX7_putPart 14 = .ok (.invokevirtual 91, 3) := by decide +kernel
theorem dX7_putPart_17 : decode cX7_putPart 17 = .ok (.ifCond .ne 9, 3) := by decide +kernel
theorem dX7_putPart_20 : decode cX7_putPart 20 = .ok (.aload_n 0, 1) := by decide +kernel
theorem dX7_putPart_21 : decode cX7_putPart 21 = .ok (.bipush (-31), 2) := by decide +kernel
theorem dX7_putPart_23 : decode cX7_putPart 23 = .ok (.invokevirtual 88, 3) := by decide +kernel
theorem dX7_putPart_26 : decode cX7_putPart 26 = .ok (.return_, 1) := by decide +kernel
theorem dX7_varint_0 : decode cX7_varint 0 = .ok (.lconst 0, 1) := by decide +kernel
theorem dX7_varint_1 : decode cX7_varint 1 = .ok (.lstore_n 1, 1) := by decide +kernel
theorem dX7_varint_2 : decode cX7_varint 2 = .ok (.iconst 0, 1) := by decide +kernel
theorem dX7_varint_3 : decode cX7_varint 3 = .ok (.istore_n 3, 1) := by decide +kernel
theorem dX7_varint_4 : decode cX7_varint 4 = .ok (.iload_n 3, 1) := by decide +kernel
theorem dX7_varint_5 : decode cX7_varint 5 = .ok (.bipush 10, 2) := by decide +kernel
theorem dX7_varint_7 : decode cX7_varint 7 = .ok (.if_icmp .ge 57, 3) := by decide +kernel
theorem dX7_varint_10 : decode cX7_varint 10 = .ok (.aload_n 0, 1) := by decide +kernel
theorem dX7_varint_11 : decode cX7_varint 11 = .ok (.getfield 68, 3) := by decide +kernel
theorem dX7_varint_14 : decode cX7_varint 14 = .ok (.aload_n 0, 1) := by decide +kernel
theorem dX7_varint_15 : decode cX7_varint 15 = .ok (.getfield 74, 3) := by decide +kernel
theorem dX7_varint_18 : decode cX7_varint 18 = .ok (.invokevirtual 95, 3) := by decide +kernel
theorem dX7_varint_21 : decode cX7_varint 21 = .ok (.istore 4, 2) := by decide +kernel
theorem dX7_varint_23 : decode cX7_varint 23 = .ok (.aload_n 0, 1) := by decide +kernel
theorem dX7_varint_24 : decode cX7_varint 24 = .ok (.dup, 1) := by decide +kernel
theorem dX7_varint_25 : decode cX7_varint 25 = .ok (.getfield 74, 3) := by decide +kernel
theorem dX7_varint_28 : decode cX7_varint 28 = .ok (.iconst 1, 1) := by decide +kernel
theorem dX7_varint_29 : decode cX7_varint 29 = .ok (.iadd, 1) := by decide +kernel
theorem dX7_varint_30 : decode cX7_varint 30 = .ok (.putfield 74, 3) := by decide +kernel
theorem dX7_varint_33 : decode cX7_varint 33 = .ok (.lload_n 1, 1) := by decide +kernel
theorem dX7_varint_34 : decode cX7_varint 34 = .ok (.iload 4, 2) := by decide +kernel
theorem dX7_varint_36 : decode cX7_varint 36 = .ok (.bipush 127, 2) := by decide +kernel
theorem dX7_varint_38 : decode cX7_varint 38 = .ok (.iand, 1) := by decide +kernel
theorem dX7_varint_39 : decode cX7_varint 39 = .ok (.i2l, 1) := by decide +kernel
theorem dX7_varint_40 : decode cX7_varint 40 = .ok (.bipush 7, 2) := by decide +kernel
theorem dX7_varint_42 : decode cX7_varint 42 = .ok (.iload_n 3, 1) := by decide +kernel
theorem dX7_varint_43 : decode cX7_varint 43 = .ok (.imul, 1) := by decide +kernel
theorem dX7_varint_44 : decode cX7_varint 44 = .ok (.lshl, 1) := by decide +kernel
theorem dX7_varint_45 : decode cX7_varint 45 = .ok (.lor, 1) := by decide +kernel
theorem dX7_varint_46 : decode cX7_varint 46 = .ok (.lstore_n 1, 1) := by decide +kernel
theorem dX7_varint_47 : decode cX7_varint 47 = .ok (.iload 4, 2) := by decide +kernel
theorem dX7_varint_49 : decode cX7_varint 49 = .ok (.sipush 128, 3) := by decide +kernel
theorem dX7_varint_52 : decode cX7_varint 52 = .ok (.if_icmp .ge 6, 3) := by decide +kernel
theorem dX7_varint_55 : decode cX7_varint 55 = .ok (.goto 9, 3) := by decide +kernel
theorem dX7_varint_58 : decode cX7_varint 58 = .ok (.iinc 3 1, 3) := by decide +kernel
theorem dX7_varint_61 : decode cX7_varint 61 = .ok (.goto (-57), 3) := by decide +kernel
theorem dX7_varint_64 : decode cX7_varint 64 = .ok (.lload_n 1, 1) := by decide +kernel
theorem dX7_varint_65 : decode cX7_varint 65 = .ok (.iconst 1, 1) := by decide +kernel
theorem dX7_varint_66 : decode cX7_varint 66 = .ok (.lushr, 1) := by decide +kernel
theorem dX7_varint_67 : decode cX7_varint 67 = .ok (.lload_n 1, 1) := by decide +kernel
theorem dX7_varint_68 : decode cX7_varint 68 = .ok (.lconst 1, 1) := by decide +kernel
theorem dX7_varint_69 : decode cX7_varint 69 = .ok (.land, 1) := by decide +kernel
theorem dX7_varint_70 : decode cX7_varint 70 = .ok (.lneg, 1) := by decide +kernel
theorem dX7_varint_71 : decode cX7_varint 71 = .ok (.lxor, 1) := by decide +kernel
theorem dX7_varint_72 : decode cX7_varint 72 = .ok (.lreturn, 1) := by decide +kernel
theorem dX7_tellDatum_0 : decode cX7_tellDatum 0 = .ok (.iload_n 3, 1) := by decide +kernel
theorem dX7_tellDatum_1 : decode cX7_tellDatum 1 = .ok (.bipush 33, 2) := by decide +kernel
theorem dX7_tellDatum_3 : decode cX7_tellDatum 3 = .ok (.if_icmp .lt 10, 3) := by decide +kernel
theorem dX7_tellDatum_6 : decode cX7_tellDatum 6 = .ok (.aload_n 0, 1) := by decide +kernel
theorem dX7_tellDatum_7 : decode cX7_tellDatum 7 = .ok (.bipush (-20), 2) := by decide +kernel
theorem dX7_tellDatum_9 : decode cX7_tellDatum 9 = .ok (.invokevirtual 88, 3) := by decide +kernel
theorem dX7_tellDatum_12 : decode cX7_tellDatum 12 = .ok (.return_, 1) := by decide +kernel
theorem dX7_tellDatum_13 : decode cX7_tellDatum 13 = .ok (.aload_n 0, 1) := by decide +kernel
theorem dX7_tellDatum_14 : decode cX7_tellDatum 14 = .ok (.getfield 37, 3) := by decide +kernel
theorem dX7_tellDatum_17 : decode cX7_tellDatum 17 = .ok (.iload_n 1, 1) := by decide +kernel
theorem dX7_tellDatum_18 : decode cX7_tellDatum 18 = .ok (.invokevirtual 98, 3) := by decide +kernel
theorem dX7_tellDatum_21 : decode cX7_tellDatum 21 = .ok (.bipush 8, 2) := by decide +kernel
theorem dX7_tellDatum_23 : decode cX7_tellDatum 23 = .ok (.if_icmp .ne 25, 3) := by decide +kernel
theorem dX7_tellDatum_26 : decode cX7_tellDatum 26 = .ok (.aload_n 0, 1) := by decide +kernel
theorem dX7_tellDatum_27 : decode cX7_tellDatum 27 = .ok (.aload_n 0, 1) := by decide +kernel
theorem dX7_tellDatum_28 : decode cX7_tellDatum 28 = .ok (.getfield 37, 3) := by decide +kernel
theorem dX7_tellDatum_31 : decode cX7_tellDatum 31 = .ok (.iload_n 1, 1) := by decide +kernel
theorem dX7_tellDatum_32 : decode cX7_tellDatum 32 = .ok (.aload_n 0, 1) := by decide +kernel
theorem dX7_tellDatum_33 : decode cX7_tellDatum 33 = .ok (.invokevirtual 101, 3) := by decide +kernel
theorem dX7_tellDatum_36 : decode cX7_tellDatum 36 = .ok (.l2i, 1) := by decide +kernel
theorem dX7_tellDatum_37 : decode cX7_tellDatum 37 = .ok (.invokevirtual 105, 3) := by decide +kernel
theorem dX7_tellDatum_40 : decode cX7_tellDatum 40 = .ok (.iload_n 2, 1) := by decide +kernel
theorem dX7_tellDatum_41 : decode cX7_tellDatum 41 = .ok (.iload_n 3, 1) := by decide +kernel
theorem dX7_tellDatum_42 : decode cX7_tellDatum 42 = .ok (.iconst 1, 1) := by decide +kernel
theorem dX7_tellDatum_43 : decode cX7_tellDatum 43 = .ok (.iadd, 1) := by decide +kernel
theorem dX7_tellDatum_44 : decode cX7_tellDatum 44 = .ok (.invokevirtual 80, 3) := by decide +kernel
theorem dX7_tellDatum_47 : decode cX7_tellDatum 47 = .ok (.return_, 1) := by decide +kernel
theorem dX7_tellDatum_48 : decode cX7_tellDatum 48 = .ok (.aload_n 0, 1) := by decide +kernel
theorem dX7_tellDatum_49 : decode cX7_tellDatum 49 = .ok (.getfield 41, 3) := by decide +kernel
theorem dX7_tellDatum_52 : decode cX7_tellDatum 52 = .ok (.iload_n 2, 1) := by decide +kernel
theorem dX7_tellDatum_53 : decode cX7_tellDatum 53 = .ok (.invokevirtual 98, 3) := by decide +kernel
theorem dX7_tellDatum_56 : decode cX7_tellDatum 56 = .ok (.bipush 8, 2) := by decide +kernel
theorem dX7_tellDatum_58 : decode cX7_tellDatum 58 = .ok (.if_icmp .eq 11, 3) := by decide +kernel
theorem dX7_tellDatum_61 : decode cX7_tellDatum 61 = .ok (.aload_n 0, 1) := by decide +kernel
theorem dX7_tellDatum_62 : decode cX7_tellDatum 62 = .ok (.iload_n 1, 1) := by decide +kernel
theorem dX7_tellDatum_63 : decode cX7_tellDatum 63 = .ok (.iload_n 2, 1) := by decide +kernel
theorem dX7_tellDatum_64 : decode cX7_tellDatum 64 = .ok (.iload_n 3, 1) := by decide +kernel
theorem dX7_tellDatum_65 : decode cX7_tellDatum 65 = .ok (.invokevirtual 109, 3) := by decide +kernel
theorem dX7_tellDatum_68 : decode cX7_tellDatum 68 = .ok (.return_, 1) := by decide +kernel
theorem dX7_tellDatum_69 : decode cX7_tellDatum 69 = .ok (.aload_n 0, 1) := by decide +kernel
theorem dX7_tellDatum_70 : decode cX7_tellDatum 70 = .ok (.getfield 37, 3) := by decide +kernel
theorem dX7_tellDatum_73 : decode cX7_tellDatum 73 = .ok (.iload_n 1, 1) := by decide +kernel
theorem dX7_tellDatum_74 : decode cX7_tellDatum 74 = .ok (.aload_n 0, 1) := by decide +kernel
theorem dX7_tellDatum_75 : decode cX7_tellDatum 75 = .ok (.getfield 41, 3) := by decide +kernel
theorem dX7_tellDatum_78 : decode cX7_tellDatum 78 = .ok (.iload_n 2, 1) := by decide +kernel
theorem dX7_tellDatum_79 : decode cX7_tellDatum 79 = .ok (.invokestatic 112, 3) := by decide +kernel
theorem dX7_tellDatum_82 : decode cX7_tellDatum 82 = .ok (.istore 4, 2) := by decide +kernel
theorem dX7_tellDatum_84 : decode cX7_tellDatum 84 = .ok (.iload 4, 2) := by decide +kernel
theorem dX7_tellDatum_86 : decode cX7_tellDatum 86 = .ok (.iconst (-1), 1) := by decide +kernel
theorem dX7_tellDatum_87 : decode cX7_tellDatum 87 = .ok (.if_icmp .ne 10, 3) := by decide +kernel
theorem dX7_tellDatum_90 : decode cX7_tellDatum 90 = .ok (.aload_n 0, 1) := by decide +kernel
theorem dX7_tellDatum_91 : decode cX7_tellDatum 91 = .ok (.bipush (-20), 2) := by decide +kernel
theorem dX7_tellDatum_93 : decode cX7_tellDatum 93 = .ok (.invokevirtual 88, 3) := by decide +kernel
theorem dX7_tellDatum_96 : decode cX7_tellDatum 96 = .ok (.return_, 1) := by decide +kernel
theorem dX7_tellDatum_97 : decode cX7_tellDatum 97 = .ok (.aload_n 0, 1) := by decide +kernel
theorem dX7_tellDatum_98 : decode cX7_tellDatum 98 = .ok (.iload 4, 2) := by decide +kernel
theorem dX7_tellDatum_100 : decode cX7_tellDatum 100 = .ok (.i2l, 1) := by decide +kernel
theorem dX7_tellDatum_101 : decode cX7_tellDatum 101 = .ok (.invokevirtual 116, 3) := by decide +kernel
theorem dX7_tellDatum_104 : decode cX7_tellDatum 104 = .ok (.aload_n 0, 1) := by decide +kernel
theorem dX7_tellDatum_105 : decode cX7_tellDatum 105 = .ok (.getfield 59, 3) := by decide +kernel
theorem dX7_tellDatum_108 : decode cX7_tellDatum 108 = .ok (.ifCond .ne 19, 3) := by decide +kernel
theorem dX7_tellDatum_111 : decode cX7_tellDatum 111 = .ok (.aload_n 0, 1) := by decide +kernel
theorem dX7_tellDatum_112 : decode cX7_tellDatum 112 = .ok (.iload_n 1, 1) := by decide +kernel
theorem dX7_tellDatum_113 : decode cX7_tellDatum 113 = .ok (.aload_n 0, 1) := by decide +kernel
theorem dX7_tellDatum_114 : decode cX7_tellDatum 114 = .ok (.getfield 41, 3) := by decide +kernel
theorem dX7_tellDatum_117 : decode cX7_tellDatum 117 = .ok (.iload_n 2, 1) := by decide +kernel
theorem dX7_tellDatum_118 : decode cX7_tellDatum 118 = .ok (.iload 4, 2) := by decide +kernel
theorem dX7_tellDatum_120 : decode cX7_tellDatum 120 = .ok (.invokevirtual 105, 3) := by decide +kernel
theorem dX7_tellDatum_123 : decode cX7_tellDatum 123 = .ok (.iload_n 3, 1) := by decide +kernel
theorem dX7_tellDatum_124 : decode cX7_tellDatum 124 = .ok (.invokevirtual 109, 3) := by decide +kernel
theorem dX7_tellDatum_127 : decode cX7_tellDatum 127 = .ok (.return_, 1) := by decide +kernel
theorem dX7_tellPlain_0 : decode cX7_tellPlain 0 = .ok (.aload_n 0, 1) := by decide +kernel
theorem dX7_tellPlain_1 : decode cX7_tellPlain 1 = .ok (.getfield 37, 3) := by decide +kernel
theorem dX7_tellPlain_4 : decode cX7_tellPlain 4 = .ok (.iload_n 1, 1) := by decide +kernel
theorem dX7_tellPlain_5 : decode cX7_tellPlain 5 = .ok (.invokevirtual 98, 3) := by decide +kernel
theorem dX7_tellPlain_8 : decode cX7_tellPlain 8 = .ok (.istore 4, 2) := by decide +kernel
theorem dX7_tellPlain_10 : decode cX7_tellPlain 10 = .ok (.iload 4, 2) := by decide +kernel
theorem dX7_tellPlain_12 : decode cX7_tellPlain 12 = .ok (.bipush 6, 2) := by decide +kernel
theorem dX7_tellPlain_14 : decode cX7_tellPlain 14 = .ok (.if_icmp .eq 10, 3) := by decide +kernel
theorem dX7_tellPlain_17 : decode cX7_tellPlain 17 = .ok (.iload 4, 2) := by decide +kernel
theorem dX7_tellPlain_19 : decode cX7_tellPlain 19 = .ok (.bipush 7, 2) := by decide +kernel
theorem dX7_tellPlain_21 : decode cX7_tellPlain 21 = .ok (.if_icmp .ne 35, 3) := by decide +kernel
theorem dX7_tellPlain_24 : decode cX7_tellPlain 24 = .ok (.aload_n 0, 1) := by decide +kernel
theorem dX7_tellPlain_25 : decode cX7_tellPlain 25 = .ok (.getfield 41, 3) := by decide +kernel
theorem dX7_tellPlain_28 : decode cX7_tellPlain 28 = .ok (.iload_n 2, 1) := by decide +kernel
theorem dX7_tellPlain_29 : decode cX7_tellPlain 29 = .ok (.invokevirtual 98, 3) := by decide +kernel
theorem dX7_tellPlain_32 : decode cX7_tellPlain 32 = .ok (.iload 4, 2) := by decide +kernel
theorem dX7_tellPlain_34 : decode cX7_tellPlain 34 = .ok (.if_icmp .ne 13, 3) := by decide +kernel
theorem dX7_tellPlain_37 : decode cX7_tellPlain 37 = .ok (.aload_n 0, 1) := by decide +kernel
theorem dX7_tellPlain_38 : decode cX7_tellPlain 38 = .ok (.iload_n 1, 1) := by decide +kernel
theorem dX7_tellPlain_39 : decode cX7_tellPlain 39 = .ok (.iload_n 2, 1) := by decide +kernel
theorem dX7_tellPlain_40 : decode cX7_tellPlain 40 = .ok (.iload_n 3, 1) := by decide +kernel
theorem dX7_tellPlain_41 : decode cX7_tellPlain 41 = .ok (.invokevirtual 119, 3) := by decide +kernel
theorem dX7_tellPlain_44 : decode cX7_tellPlain 44 = .ok (.goto 96, 3) := by decide +kernel
theorem dX7_tellPlain_47 : decode cX7_tellPlain 47 = .ok (.aload_n 0, 1) := by decide +kernel
theorem dX7_tellPlain_48 : decode cX7_tellPlain 48 = .ok (.bipush (-20), 2) := by decide +kernel
theorem dX7_tellPlain_50 : decode cX7_tellPlain 50 = .ok (.invokevirtual 88, 3) := by decide +kernel
theorem dX7_tellPlain_53 : decode cX7_tellPlain 53 = .ok (.goto 87, 3) := by decide +kernel
theorem dX7_tellPlain_56 : decode cX7_tellPlain 56 = .ok (.aload_n 0, 1) := by decide +kernel
theorem dX7_tellPlain_57 : decode cX7_tellPlain 57 = .ok (.getfield 37, 3) := by decide +kernel
theorem dX7_tellPlain_60 : decode cX7_tellPlain 60 = .ok (.iload_n 1, 1) := by decide +kernel
theorem dX7_tellPlain_61 : decode cX7_tellPlain 61 = .ok (.aload_n 0, 1) := by decide +kernel
theorem dX7_tellPlain_62 : decode cX7_tellPlain 62 = .ok (.getfield 41, 3) := by decide +kernel
theorem dX7_tellPlain_65 : decode cX7_tellPlain 65 = .ok (.iload_n 2, 1) := by decide +kernel
theorem dX7_tellPlain_66 : decode cX7_tellPlain 66 = .ok (.invokestatic 122, 3) := by decide +kernel
theorem dX7_tellPlain_69 : decode cX7_tellPlain 69 = .ok (.ifCond .ne 12, 3) := by decide +kernel
theorem dX7_tellPlain_72 : decode cX7_tellPlain 72 = .ok (.aload_n 0, 1) := by decide +kernel
theorem dX7_tellPlain_73 : decode cX7_tellPlain 73 = .ok (.bipush (-20), 2) := by decide +kernel
theorem dX7_tellPlain_75 : decode cX7_tellPlain 75 = .ok (.invokevirtual 88, 3) := by decide +kernel
theorem dX7_tellPlain_78 : decode cX7_tellPlain 78 = .ok (.goto 62, 3) := by decide +kernel
theorem dX7_tellPlain_81 : decode cX7_tellPlain 81 = .ok (.iload 4, 2) := by decide +kernel
theorem dX7_tellPlain_83 : decode cX7_tellPlain 83 = .ok (.bipush 11, 2) := by decide +kernel
theorem dX7_tellPlain_85 : decode cX7_tellPlain 85 = .ok (.if_icmp .ne 13, 3) := by decide +kernel
theorem dX7_tellPlain_88 : decode cX7_tellPlain 88 = .ok (.aload_n 0, 1) := by decide +kernel
theorem dX7_tellPlain_89 : decode cX7_tellPlain 89 = .ok (.iload_n 1, 1) := by decide +kernel
theorem dX7_tellPlain_90 : decode cX7_tellPlain 90 = .ok (.iload_n 2, 1) := by decide +kernel
theorem dX7_tellPlain_91 : decode cX7_tellPlain 91 = .ok (.iload_n 3, 1) := by decide +kernel
theorem dX7_tellPlain_92 : decode cX7_tellPlain 92 = .ok (.invokevirtual 126, 3) := by decide +kernel
theorem dX7_tellPlain_95 : decode cX7_tellPlain 95 = .ok (.goto 45, 3) := by decide +kernel
theorem dX7_tellPlain_98 : decode cX7_tellPlain 98 = .ok (.iload 4, 2) := by decide +kernel
theorem dX7_tellPlain_100 : decode cX7_tellPlain 100 = .ok (.bipush 10, 2) := by decide +kernel
theorem dX7_tellPlain_102 : decode cX7_tellPlain 102 = .ok (.if_icmp .ne 12, 3) := by decide +kernel
theorem dX7_tellPlain_105 : decode cX7_tellPlain 105 = .ok (.aload_n 0, 1) := by decide +kernel
theorem dX7_tellPlain_106 : decode cX7_tellPlain 106 = .ok (.iload_n 1, 1) := by decide +kernel
theorem dX7_tellPlain_107 : decode cX7_tellPlain 107 = .ok (.iload_n 2, 1) := by decide +kernel
theorem dX7_tellPlain_108 : decode cX7_tellPlain 108 = .ok (.invokevirtual 129, 3) := by decide +kernel
theorem dX7_tellPlain_111 : decode cX7_tellPlain 111 = .ok (.goto 29, 3) := by decide +kernel
theorem dX7_tellPlain_114 : decode cX7_tellPlain 114 = .ok (.aload_n 0, 1) := by decide +kernel
theorem dX7_tellPlain_115 : decode cX7_tellPlain 115 = .ok (.getfield 74, 3) := by decide +kernel
theorem dX7_tellPlain_118 : decode cX7_tellPlain 118 = .ok (.istore 5, 2) := by decide +kernel
theorem dX7_tellPlain_120 : decode cX7_tellPlain 120 = .ok (.aload_n 0, 1) := by decide +kernel
theorem dX7_tellPlain_121 : decode cX7_tellPlain 121 = .ok (.iload_n 1, 1) := by decide +kernel
theorem dX7_tellPlain_122 : decode cX7_tellPlain 122 = .ok (.iload_n 3, 1) := by decide +kernel
theorem dX7_tellPlain_123 : decode cX7_tellPlain 123 = .ok (.invokevirtual 132, 3) := by decide +kernel
theorem dX7_tellPlain_126 : decode cX7_tellPlain 126 = .ok (.aload_n 0, 1) := by decide +kernel
theorem dX7_tellPlain_127 : decode cX7_tellPlain 127 = .ok (.aload_n 0, 1) := by decide +kernel
theorem dX7_tellPlain_128 : decode cX7_tellPlain 128 = .ok (.getfield 68, 3) := by decide +kernel
theorem dX7_tellPlain_131 : decode cX7_tellPlain 131 = .ok (.iload 5, 2) := by decide +kernel
theorem dX7_tellPlain_133 : decode cX7_tellPlain 133 = .ok (.aload_n 0, 1) := by decide +kernel
theorem dX7_tellPlain_134 : decode cX7_tellPlain 134 = .ok (.getfield 74, 3) := by decide +kernel
theorem dX7_tellPlain_137 : decode cX7_tellPlain 137 = .ok (.invokevirtual 135, 3) := by decide +kernel
theorem dX7_tellPlain_140 : decode cX7_tellPlain 140 = .ok (.return_, 1) := by decide +kernel
theorem dX7_tellSymbol_0 : decode cX7_tellSymbol 0 = .ok (.aload_n 0, 1) := by decide +kernel
theorem dX7_tellSymbol_1 : decode cX7_tellSymbol 1 = .ok (.getfield 41, 3) := by decide +kernel
theorem dX7_tellSymbol_4 : decode cX7_tellSymbol 4 = .ok (.iload_n 2, 1) := by decide +kernel
theorem dX7_tellSymbol_5 : decode cX7_tellSymbol 5 = .ok (.aload_n 0, 1) := by decide +kernel
theorem dX7_tellSymbol_6 : decode cX7_tellSymbol 6 = .ok (.getfield 37, 3) := by decide +kernel
theorem dX7_tellSymbol_9 : decode cX7_tellSymbol 9 = .ok (.invokevirtual 139, 3) := by decide +kernel
theorem dX7_tellSymbol_12 : decode cX7_tellSymbol 12 = .ok (.aload_n 0, 1) := by decide +kernel
theorem dX7_tellSymbol_13 : decode cX7_tellSymbol 13 = .ok (.getfield 37, 3) := by decide +kernel
theorem dX7_tellSymbol_16 : decode cX7_tellSymbol 16 = .ok (.aload_n 0, 1) := by decide +kernel
theorem dX7_tellSymbol_17 : decode cX7_tellSymbol 17 = .ok (.getfield 37, 3) := by decide +kernel
theorem dX7_tellSymbol_20 : decode cX7_tellSymbol 20 = .ok (.iload_n 1, 1) := by decide +kernel
theorem dX7_tellSymbol_21 : decode cX7_tellSymbol 21 = .ok (.aload_n 0, 1) := by decide +kernel
theorem dX7_tellSymbol_22 : decode cX7_tellSymbol 22 = .ok (.invokevirtual 101, 3) := by decide +kernel
theorem dX7_tellSymbol_25 : decode cX7_tellSymbol 25 = .ok (.l2i, 1) := by decide +kernel
theorem dX7_tellSymbol_26 : decode cX7_tellSymbol 26 = .ok (.invokevirtual 142, 3) := by decide +kernel
theorem dX7_tellSymbol_29 : decode cX7_tellSymbol 29 = .ok (.invokevirtual 145, 3) := by decide +kernel
theorem dX7_tellSymbol_32 : decode cX7_tellSymbol 32 = .ok (.invokevirtual 148, 3) := by decide +kernel
theorem dX7_tellSymbol_35 : decode cX7_tellSymbol 35 = .ok (.istore_n 3, 1) := by decide +kernel
theorem dX7_tellSymbol_36 : decode cX7_tellSymbol 36 = .ok (.iload_n 3, 1) := by decide +kernel
theorem dX7_tellSymbol_37 : decode cX7_tellSymbol 37 = .ok (.iconst (-1), 1) := by decide +kernel
theorem dX7_tellSymbol_38 : decode cX7_tellSymbol 38 = .ok (.if_icmp .ne 12, 3) := by decide +kernel
theorem dX7_tellSymbol_41 : decode cX7_tellSymbol 41 = .ok (.aload_n 0, 1) := by decide +kernel
theorem dX7_tellSymbol_42 : decode cX7_tellSymbol 42 = .ok (.getfield 41, 3) := by decide +kernel
theorem dX7_tellSymbol_45 : decode cX7_tellSymbol 45 = .ok (.iload_n 2, 1) := by decide +kernel
theorem dX7_tellSymbol_46 : decode cX7_tellSymbol 46 = .ok (.invokevirtual 152, 3) := by decide +kernel
theorem dX7_tellSymbol_49 : decode cX7_tellSymbol 49 = .ok (.istore_n 3, 1) := by decide +kernel
theorem dX7_tellSymbol_50 : decode cX7_tellSymbol 50 = .ok (.iload_n 3, 1) := by decide +kernel
theorem dX7_tellSymbol_51 : decode cX7_tellSymbol 51 = .ok (.iconst (-1), 1) := by decide +kernel
theorem dX7_tellSymbol_52 : decode cX7_tellSymbol 52 = .ok (.if_icmp .ne 12, 3) := by decide +kernel
theorem dX7_tellSymbol_55 : decode cX7_tellSymbol 55 = .ok (.aload_n 0, 1) := by decide +kernel
theorem dX7_tellSymbol_56 : decode cX7_tellSymbol 56 = .ok (.bipush (-20), 2) := by decide +kernel
theorem dX7_tellSymbol_58 : decode cX7_tellSymbol 58 = .ok (.invokevirtual 88, 3) := by decide +kernel
theorem dX7_tellSymbol_61 : decode cX7_tellSymbol 61 = .ok (.goto 9, 3) := by decide +kernel
theorem dX7_tellSymbol_64 : decode cX7_tellSymbol 64 = .ok (.aload_n 0, 1) := by decide +kernel
theorem dX7_tellSymbol_65 : decode cX7_tellSymbol 65 = .ok (.iload_n 3, 1) := by decide +kernel
theorem dX7_tellSymbol_66 : decode cX7_tellSymbol 66 = .ok (.i2l, 1) := by decide +kernel
theorem dX7_tellSymbol_67 : decode cX7_tellSymbol 67 = .ok (.invokevirtual 116, 3) := by decide +kernel
theorem dX7_tellSymbol_70 : decode cX7_tellSymbol 70 = .ok (.return_, 1) := by decide +kernel
theorem dX7_tellItems_0 : decode cX7_tellItems 0 = .ok (.aload_n 0, 1) := by decide +kernel
theorem dX7_tellItems_1 : decode cX7_tellItems 1 = .ok (.invokevirtual 101, 3) := by decide +kernel
theorem dX7_tellItems_4 : decode cX7_tellItems 4 = .ok (.lstore 4, 2) := by decide +kernel
theorem dX7_tellItems_6 : decode cX7_tellItems 6 = .ok (.aload_n 0, 1) := by decide +kernel
theorem dX7_tellItems_7 : decode cX7_tellItems 7 = .ok (.lload 4, 2) := by decide +kernel
theorem dX7_tellItems_9 : decode cX7_tellItems 9 = .ok (.invokevirtual 116, 3) := by decide +kernel
theorem dX7_tellItems_12 : decode cX7_tellItems 12 = .ok (.lload 4, 2) := by decide +kernel
theorem dX7_tellItems_14 : decode cX7_tellItems 14 = .ok (.lconst 0, 1) := by decide +kernel
theorem dX7_tellItems_15 : decode cX7_tellItems 15 = .ok (.lcmp, 1) := by decide +kernel
theorem dX7_tellItems_16 : decode cX7_tellItems 16 = .ok (.ifCond .ne 4, 3) := by decide +kernel
theorem dX7_tellItems_19 : decode cX7_tellItems 19 = .ok (.return_, 1) := by decide +kernel
theorem dX7_tellItems_20 : decode cX7_tellItems 20 = .ok (.iconst 0, 1) := by decide +kernel
theorem dX7_tellItems_21 : decode cX7_tellItems 21 = .ok (.istore 6, 2) := by decide +kernel
theorem dX7_tellItems_23 : decode cX7_tellItems 23 = .ok (.iload 6, 2) := by decide +kernel
theorem dX7_tellItems_25 : decode cX7_tellItems 25 = .ok (.i2l, 1) := by decide +kernel
theorem dX7_tellItems_26 : decode cX7_tellItems 26 = .ok (.lload 4, 2) := by decide +kernel
theorem dX7_tellItems_28 : decode cX7_tellItems 28 = .ok (.lcmp, 1) := by decide +kernel
theorem dX7_tellItems_29 : decode cX7_tellItems 29 = .ok (.ifCond .ge 93, 3) := by decide +kernel
theorem dX7_tellItems_32 : decode cX7_tellItems 32 = .ok (.iload 6, 2) := by decide +kernel
theorem dX7_tellItems_34 : decode cX7_tellItems 34 = .ok (.sipush 2000, 3) := by decide +kernel
theorem dX7_tellItems_37 : decode cX7_tellItems 37 = .ok (.if_icmp .ge 85, 3) := by decide +kernel
theorem dX7_tellItems_40 : decode cX7_tellItems 40 = .ok (.aload_n 0, 1) := by decide +kernel
theorem dX7_tellItems_41 : decode cX7_tellItems 41 = .ok (.getfield 59, 3) := by decide +kernel
theorem dX7_tellItems_44 : decode cX7_tellItems 44 = .ok (.ifCond .ne 78, 3) := by decide +kernel
theorem dX7_tellItems_47 : decode cX7_tellItems 47 = .ok (.aload_n 0, 1) := by decide +kernel
theorem dX7_tellItems_48 : decode cX7_tellItems 48 = .ok (.getfield 37, 3) := by decide +kernel
theorem dX7_tellItems_51 : decode cX7_tellItems 51 = .ok (.iload_n 1, 1) := by decide +kernel
theorem dX7_tellItems_52 : decode cX7_tellItems 52 = .ok (.invokevirtual 98, 3) := by decide +kernel
theorem dX7_tellItems_55 : decode cX7_tellItems 55 = .ok (.bipush 7, 2) := by decide +kernel
theorem dX7_tellItems_57 : decode cX7_tellItems 57 = .ok (.if_icmp .ne 29, 3) := by decide +kernel
theorem dX7_tellItems_60 : decode cX7_tellItems 60 = .ok (.aload_n 0, 1) := by decide +kernel
theorem dX7_tellItems_61 : decode cX7_tellItems 61 = .ok (.getfield 74, 3) := by decide +kernel
theorem dX7_tellItems_64 : decode cX7_tellItems 64 = .ok (.istore 7, 2) := by decide +kernel
theorem dX7_tellItems_66 : decode cX7_tellItems 66 = .ok (.aload_n 0, 1) := by decide +kernel
theorem dX7_tellItems_67 : decode cX7_tellItems 67 = .ok (.iconst 5, 1) := by decide +kernel
theorem dX7_tellItems_68 : decode cX7_tellItems 68 = .ok (.iload_n 3, 1) := by decide +kernel
theorem dX7_tellItems_69 : decode cX7_tellItems 69 = .ok (.invokevirtual 132, 3) := by decide +kernel
theorem dX7_tellItems_72 : decode cX7_tellItems 72 = .ok (.aload_n 0, 1) := by decide +kernel
theorem dX7_tellItems_73 : decode cX7_tellItems 73 = .ok (.aload_n 0, 1) := by decide +kernel
theorem dX7_tellItems_74 : decode cX7_tellItems 74 = .ok (.getfield 68, 3) := by decide +kernel
theorem dX7_tellItems_77 : decode cX7_tellItems 77 = .ok (.iload 7, 2) := by decide +kernel
theorem dX7_tellItems_79 : decode cX7_tellItems 79 = .ok (.aload_n 0, 1) := by decide +kernel
theorem dX7_tellItems_80 : decode cX7_tellItems 80 = .ok (.getfield 74, 3) := by decide +kernel
theorem dX7_tellItems_83 : decode cX7_tellItems 83 = .ok (.invokevirtual 135, 3) := by decide +kernel
theorem dX7_tellItems_86 : decode cX7_tellItems 86 = .ok (.aload_n 0, 1) := by decide +kernel
theorem dX7_tellItems_87 : decode cX7_tellItems 87 = .ok (.getfield 59, 3) := by decide +kernel
theorem dX7_tellItems_90 : decode cX7_tellItems 90 = .ok (.ifCond .ne 26, 3) := by decide +kernel
theorem dX7_tellItems_93 : decode cX7_tellItems 93 = .ok (.aload_n 0, 1) := by decide +kernel
theorem dX7_tellItems_94 : decode cX7_tellItems 94 = .ok (.aload_n 0, 1) := by decide +kernel
theorem dX7_tellItems_95 : decode cX7_tellItems 95 = .ok (.getfield 37, 3) := by decide +kernel
theorem dX7_tellItems_98 : decode cX7_tellItems 98 = .ok (.iload_n 1, 1) := by decide +kernel
theorem dX7_tellItems_99 : decode cX7_tellItems 99 = .ok (.invokevirtual 155, 3) := by decide +kernel
theorem dX7_tellItems_102 : decode cX7_tellItems 102 = .ok (.aload_n 0, 1) := by decide +kernel
theorem dX7_tellItems_103 : decode cX7_tellItems 103 = .ok (.getfield 41, 3) := by decide +kernel
theorem dX7_tellItems_106 : decode cX7_tellItems 106 = .ok (.iload_n 2, 1) := by decide +kernel
theorem dX7_tellItems_107 : decode cX7_tellItems 107 = .ok (.invokevirtual 155, 3) := by decide +kernel
theorem dX7_tellItems_110 : decode cX7_tellItems 110 = .ok (.iload_n 3, 1) := by decide +kernel
theorem dX7_tellItems_111 : decode cX7_tellItems 111 = .ok (.iconst 1, 1) := by decide +kernel
theorem dX7_tellItems_112 : decode cX7_tellItems 112 = .ok (.iadd, 1) := by decide +kernel
theorem dX7_tellItems_113 : decode cX7_tellItems 113 = .ok (.invokevirtual 80, 3) := by decide +kernel
theorem dX7_tellItems_116 : decode cX7_tellItems 116 = .ok (.iinc 6 1, 3) := by decide +kernel
theorem dX7_tellItems_119 : decode cX7_tellItems 119 = .ok (.goto (-96), 3) := by decide +kernel
theorem dX7_tellItems_122 : decode cX7_tellItems 122 = .ok (.aload_n 0, 1) := by decide +kernel
theorem dX7_tellItems_123 : decode cX7_tellItems 123 = .ok (.getfield 59, 3) := by decide +kernel
theorem dX7_tellItems_126 : decode cX7_tellItems 126 = .ok (.ifCond .ne 11, 3) := by decide +kernel
theorem dX7_tellItems_129 : decode cX7_tellItems 129 = .ok (.aload_n 0, 1) := by decide +kernel
theorem dX7_tellItems_130 : decode cX7_tellItems 130 = .ok (.aload_n 0, 1) := by decide +kernel
theorem dX7_tellItems_131 : decode cX7_tellItems 131 = .ok (.invokevirtual 101, 3) := by decide +kernel
theorem dX7_tellItems_134 : decode cX7_tellItems 134 = .ok (.invokevirtual 116, 3) := by decide +kernel
theorem dX7_tellItems_137 : decode cX7_tellItems 137 = .ok (.return_, 1) := by decide +kernel
theorem dX7_tellRecord_0 : decode cX7_tellRecord 0 = .ok (.aload_n 0, 1) := by decide +kernel
theorem dX7_tellRecord_1 : decode cX7_tellRecord 1 = .ok (.getfield 37, 3) := by decide +kernel
theorem dX7_tellRecord_4 : decode cX7_tellRecord 4 = .ok (.iload_n 1, 1) := by decide +kernel
theorem dX7_tellRecord_5 : decode cX7_tellRecord 5 = .ok (.invokevirtual 158, 3) := by decide +kernel
theorem dX7_tellRecord_8 : decode cX7_tellRecord 8 = .ok (.ifCond .eq 13, 3) := by decide +kernel
theorem dX7_tellRecord_11 : decode cX7_tellRecord 11 = .ok (.aload_n 0, 1) := by decide +kernel
theorem dX7_tellRecord_12 : decode cX7_tellRecord 12 = .ok (.iload_n 1, 1) := by decide +kernel
theorem dX7_tellRecord_13 : decode cX7_tellRecord 13 = .ok (.iload_n 2, 1) := by decide +kernel
theorem dX7_tellRecord_14 : decode cX7_tellRecord 14 = .ok (.iload_n 3, 1) := by decide +kernel
theorem dX7_tellRecord_15 : decode cX7_tellRecord 15 = .ok (.invokevirtual 161, 3) := by decide +kernel
theorem dX7_tellRecord_18 : decode cX7_tellRecord 18 = .ok (.goto 98, 3) := by decide +kernel
theorem dX7_tellRecord_21 : decode cX7_tellRecord 21 = .ok (.aload_n 0, 1) := by decide +kernel
theorem dX7_tellRecord_22 : decode cX7_tellRecord 22 = .ok (.getfield 28, 3) := by decide +kernel
theorem dX7_tellRecord_25 : decode cX7_tellRecord 25 = .ok (.iload_n 1, 1) := by decide +kernel
theorem dX7_tellRecord_26 : decode cX7_tellRecord 26 = .ok (.invokevirtual 95, 3) := by decide +kernel
theorem dX7_tellRecord_29 : decode cX7_tellRecord 29 = .ok (.aload_n 0, 1) := by decide +kernel
theorem dX7_tellRecord_30 : decode cX7_tellRecord 30 = .ok (.getfield 55, 3) := by decide +kernel
theorem dX7_tellRecord_33 : decode cX7_tellRecord 33 = .ok (.if_icmp .ne 30, 3) := by decide +kernel
theorem dX7_tellRecord_36 : decode cX7_tellRecord 36 = .ok (.aload_n 0, 1) := by decide +kernel
theorem dX7_tellRecord_37 : decode cX7_tellRecord 37 = .ok (.aload_n 0, 1) := by decide +kernel
theorem dX7_tellRecord_38 : decode cX7_tellRecord 38 = .ok (.getfield 14, 3) := by decide +kernel
theorem dX7_tellRecord_41 : decode cX7_tellRecord 41 = .ok (.aload_n 0, 1) := by decide +kernel
theorem dX7_tellRecord_42 : decode cX7_tellRecord 42 = .ok (.getfield 31, 3) := by decide +kernel
theorem dX7_tellRecord_45 : decode cX7_tellRecord 45 = .ok (.iload_n 1, 1) := by decide +kernel
theorem dX7_tellRecord_46 : decode cX7_tellRecord 46 = .ok (.invokevirtual 95, 3) := by decide +kernel
theorem dX7_tellRecord_49 : decode cX7_tellRecord 49 = .ok (.aload_n 0, 1) := by decide +kernel
theorem dX7_tellRecord_50 : decode cX7_tellRecord 50 = .ok (.getfield 34, 3) := by decide +kernel
theorem dX7_tellRecord_53 : decode cX7_tellRecord 53 = .ok (.iload_n 1, 1) := by decide +kernel
theorem dX7_tellRecord_54 : decode cX7_tellRecord 54 = .ok (.invokevirtual 95, 3) := by decide +kernel
theorem dX7_tellRecord_57 : decode cX7_tellRecord 57 = .ok (.invokevirtual 135, 3) := by decide +kernel
theorem dX7_tellRecord_60 : decode cX7_tellRecord 60 = .ok (.goto 56, 3) := by decide +kernel
theorem dX7_tellRecord_63 : decode cX7_tellRecord 63 = .ok (.aload_n 0, 1) := by decide +kernel
theorem dX7_tellRecord_64 : decode cX7_tellRecord 64 = .ok (.getfield 14, 3) := by decide +kernel
theorem dX7_tellRecord_67 : decode cX7_tellRecord 67 = .ok (.invokevirtual 164, 3) := by decide +kernel
theorem dX7_tellRecord_70 : decode cX7_tellRecord 70 = .ok (.istore 4, 2) := by decide +kernel
theorem dX7_tellRecord_72 : decode cX7_tellRecord 72 = .ok (.aload_n 0, 1) := by decide +kernel
theorem dX7_tellRecord_73 : decode cX7_tellRecord 73 = .ok (.iload_n 1, 1) := by decide +kernel
theorem dX7_tellRecord_74 : decode cX7_tellRecord 74 = .ok (.iload_n 2, 1) := by decide +kernel
theorem dX7_tellRecord_75 : decode cX7_tellRecord 75 = .ok (.iload_n 3, 1) := by decide +kernel
theorem dX7_tellRecord_76 : decode cX7_tellRecord 76 = .ok (.invokevirtual 161, 3) := by decide +kernel
theorem dX7_tellRecord_79 : decode cX7_tellRecord 79 = .ok (.aload_n 0, 1) := by decide +kernel
theorem dX7_tellRecord_80 : decode cX7_tellRecord 80 = .ok (.getfield 28, 3) := by decide +kernel
theorem dX7_tellRecord_83 : decode cX7_tellRecord 83 = .ok (.iload_n 1, 1) := by decide +kernel
theorem dX7_tellRecord_84 : decode cX7_tellRecord 84 = .ok (.aload_n 0, 1) := by decide +kernel
theorem dX7_tellRecord_85 : decode cX7_tellRecord 85 = .ok (.getfield 55, 3) := by decide +kernel
theorem dX7_tellRecord_88 : decode cX7_tellRecord 88 = .ok (.invokevirtual 48, 3) := by decide +kernel
theorem dX7_tellRecord_91 : decode cX7_tellRecord 91 = .ok (.aload_n 0, 1) := by decide +kernel
theorem dX7_tellRecord_92 : decode cX7_tellRecord 92 = .ok (.getfield 31, 3) := by decide +kernel
theorem dX7_tellRecord_95 : decode cX7_tellRecord 95 = .ok (.iload_n 1, 1) := by decide +kernel
theorem dX7_tellRecord_96 : decode cX7_tellRecord 96 = .ok (.iload 4, 2) := by decide +kernel
theorem dX7_tellRecord_98 : decode cX7_tellRecord 98 = .ok (.invokevirtual 48, 3) := by decide +kernel
theorem dX7_tellRecord_101 : decode cX7_tellRecord 101 = .ok (.aload_n 0, 1) := by decide +kernel
theorem dX7_tellRecord_102 : decode cX7_tellRecord 102 = .ok (.getfield 34, 3) := by decide +kernel
theorem dX7_tellRecord_105 : decode cX7_tellRecord 105 = .ok (.iload_n 1, 1) := by decide +kernel
theorem dX7_tellRecord_106 : decode cX7_tellRecord 106 = .ok (.aload_n 0, 1) := by decide +kernel
theorem dX7_tellRecord_107 : decode cX7_tellRecord 107 = .ok (.getfield 14, 3) := by decide +kernel
theorem dX7_tellRecord_110 : decode cX7_tellRecord 110 = .ok (.invokevirtual 164, 3) := by decide +kernel
theorem dX7_tellRecord_113 : decode cX7_tellRecord 113 = .ok (.invokevirtual 48, 3) := by decide +kernel
theorem dX7_tellRecord_116 : decode cX7_tellRecord 116 = .ok (.return_, 1) := by decide +kernel
theorem dX7_tellFields_0 : decode cX7_tellFields 0 = .ok (.iload_n 3, 1) := by decide +kernel
theorem dX7_tellFields_1 : decode cX7_tellFields 1 = .ok (.bipush 33, 2) := by decide +kernel
theorem dX7_tellFields_3 : decode cX7_tellFields 3 = .ok (.imul, 1) := by decide +kernel
theorem dX7_tellFields_4 : decode cX7_tellFields 4 = .ok (.istore 4, 2) := by decide +kernel
theorem dX7_tellFields_6 : decode cX7_tellFields 6 = .ok (.iconst 0, 1) := by decide +kernel
theorem dX7_tellFields_7 : decode cX7_tellFields 7 = .ok (.istore 5, 2) := by decide +kernel
theorem dX7_tellFields_9 : decode cX7_tellFields 9 = .ok (.aload_n 0, 1) := by decide +kernel
theorem dX7_tellFields_10 : decode cX7_tellFields 10 = .ok (.getfield 25, 3) := by decide +kernel
theorem dX7_tellFields_13 : decode cX7_tellFields 13 = .ok (.iload 4, 2) := by decide +kernel
theorem dX7_tellFields_15 : decode cX7_tellFields 15 = .ok (.aload_n 0, 1) := by decide +kernel
theorem dX7_tellFields_16 : decode cX7_tellFields 16 = .ok (.getfield 74, 3) := by decide +kernel
theorem dX7_tellFields_19 : decode cX7_tellFields 19 = .ok (.invokevirtual 48, 3) := by decide +kernel
theorem dX7_tellFields_22 : decode cX7_tellFields 22 = .ok (.iconst 0, 1) := by decide +kernel
theorem dX7_tellFields_23 : decode cX7_tellFields 23 = .ok (.istore 6, 2) := by decide +kernel
theorem dX7_tellFields_25 : decode cX7_tellFields 25 = .ok (.iload 6, 2) := by decide +kernel
theorem dX7_tellFields_27 : decode cX7_tellFields 27 = .ok (.aload_n 0, 1) := by decide +kernel
theorem dX7_tellFields_28 : decode cX7_tellFields 28 = .ok (.getfield 41, 3) := by decide +kernel
theorem dX7_tellFields_31 : decode cX7_tellFields 31 = .ok (.iload_n 2, 1) := by decide +kernel
theorem dX7_tellFields_32 : decode cX7_tellFields 32 = .ok (.invokevirtual 167, 3) := by decide +kernel
theorem dX7_tellFields_35 : decode cX7_tellFields 35 = .ok (.if_icmp .ge 139, 3) := by decide +kernel
theorem dX7_tellFields_38 : decode cX7_tellFields 38 = .ok (.aload_n 0, 1) := by decide +kernel
theorem dX7_tellFields_39 : decode cX7_tellFields 39 = .ok (.getfield 59, 3) := by decide +kernel
theorem dX7_tellFields_42 : decode cX7_tellFields 42 = .ok (.ifCond .ne 132, 3) := by decide +kernel
theorem dX7_tellFields_45 : decode cX7_tellFields 45 = .ok (.aload_n 0, 1) := by decide +kernel
theorem dX7_tellFields_46 : decode cX7_tellFields 46 = .ok (.getfield 41, 3) := by decide +kernel
theorem dX7_tellFields_49 : decode cX7_tellFields 49 = .ok (.iload_n 2, 1) := by decide +kernel
theorem dX7_tellFields_50 : decode cX7_tellFields 50 = .ok (.iload 6, 2) := by decide +kernel
theorem dX7_tellFields_52 : decode cX7_tellFields 52 = .ok (.invokevirtual 142, 3) := by decide +kernel
theorem dX7_tellFields_55 : decode cX7_tellFields 55 = .ok (.istore 7, 2) := by decide +kernel
theorem dX7_tellFields_57 : decode cX7_tellFields 57 = .ok (.aload_n 0, 1) := by decide +kernel
theorem dX7_tellFields_58 : decode cX7_tellFields 58 = .ok (.iload_n 1, 1) := by decide +kernel
theorem dX7_tellFields_59 : decode cX7_tellFields 59 = .ok (.iload 7, 2) := by decide +kernel
theorem dX7_tellFields_61 : decode cX7_tellFields 61 = .ok (.invokevirtual 170, 3) := by decide +kernel
theorem dX7_tellFields_64 : decode cX7_tellFields 64 = .ok (.istore 8, 2) := by decide +kernel
theorem dX7_tellFields_66 : decode cX7_tellFields 66 = .ok (.iload 8, 2) := by decide +kernel
theorem dX7_tellFields_68 : decode cX7_tellFields 68 = .ok (.iconst (-1), 1) := by decide +kernel
theorem dX7_tellFields_69 : decode cX7_tellFields 69 = .ok (.if_icmp .ne 12, 3) := by decide +kernel
theorem dX7_tellFields_72 : decode cX7_tellFields 72 = .ok (.aload_n 0, 1) := by decide +kernel
theorem dX7_tellFields_73 : decode cX7_tellFields 73 = .ok (.iload 7, 2) := by decide +kernel
theorem dX7_tellFields_75 : decode cX7_tellFields 75 = .ok (.invokevirtual 173, 3) := by decide +kernel
theorem dX7_tellFields_78 : decode cX7_tellFields 78 = .ok (.goto 90, 3) := by decide +kernel
theorem dX7_tellFields_81 : decode cX7_tellFields 81 = .ok (.aload_n 0, 1) := by decide +kernel
theorem dX7_tellFields_82 : decode cX7_tellFields 82 = .ok (.iload_n 1, 1) := by decide +kernel
theorem dX7_tellFields_83 : decode cX7_tellFields 83 = .ok (.iload 5, 2) := by decide +kernel
theorem dX7_tellFields_85 : decode cX7_tellFields 85 = .ok (.iload 8, 2) := by decide +kernel
theorem dX7_tellFields_87 : decode cX7_tellFields 87 = .ok (.iload_n 3, 1) := by decide +kernel
theorem dX7_tellFields_88 : decode cX7_tellFields 88 = .ok (.invokevirtual 176, 3) := by decide +kernel
theorem dX7_tellFields_91 : decode cX7_tellFields 91 = .ok (.istore 5, 2) := by decide +kernel
theorem dX7_tellFields_93 : decode cX7_tellFields 93 = .ok (.aload_n 0, 1) := by decide +kernel
theorem dX7_tellFields_94 : decode cX7_tellFields 94 = .ok (.aload_n 0, 1) := by decide +kernel
theorem dX7_tellFields_95 : decode cX7_tellFields 95 = .ok (.getfield 25, 3) := by decide +kernel
theorem dX7_tellFields_98 : decode cX7_tellFields 98 = .ok (.iload 4, 2) := by decide +kernel
theorem dX7_tellFields_100 : decode cX7_tellFields 100 = .ok (.iload 8, 2) := by decide +kernel
theorem dX7_tellFields_102 : decode cX7_tellFields 102 = .ok (.iadd, 1) := by decide +kernel
theorem dX7_tellFields_103 : decode cX7_tellFields 103 = .ok (.invokevirtual 95, 3) := by decide +kernel
theorem dX7_tellFields_106 : decode cX7_tellFields 106 = .ok (.putfield 74, 3) := by decide +kernel
theorem dX7_tellFields_109 : decode cX7_tellFields 109 = .ok (.aload_n 0, 1) := by decide +kernel
theorem dX7_tellFields_110 : decode cX7_tellFields 110 = .ok (.aload_n 0, 1) := by decide +kernel
theorem dX7_tellFields_111 : decode cX7_tellFields 111 = .ok (.getfield 37, 3) := by decide +kernel
theorem dX7_tellFields_114 : decode cX7_tellFields 114 = .ok (.aload_n 0, 1) := by decide +kernel
theorem dX7_tellFields_115 : decode cX7_tellFields 115 = .ok (.getfield 37, 3) := by decide +kernel
theorem dX7_tellFields_118 : decode cX7_tellFields 118 = .ok (.iload_n 1, 1) := by decide +kernel
theorem dX7_tellFields_119 : decode cX7_tellFields 119 = .ok (.iload 8, 2) := by decide +kernel
theorem dX7_tellFields_121 : decode cX7_tellFields 121 = .ok (.invokevirtual 142, 3) := by decide +kernel
theorem dX7_tellFields_124 : decode cX7_tellFields 124 = .ok (.invokevirtual 180, 3) := by decide +kernel
theorem dX7_tellFields_127 : decode cX7_tellFields 127 = .ok (.aload_n 0, 1) := by decide +kernel
theorem dX7_tellFields_128 : decode cX7_tellFields 128 = .ok (.getfield 41, 3) := by decide +kernel
theorem dX7_tellFields_131 : decode cX7_tellFields 131 = .ok (.iload 7, 2) := by decide +kernel
theorem dX7_tellFields_133 : decode cX7_tellFields 133 = .ok (.invokevirtual 180, 3) := by decide +kernel
theorem dX7_tellFields_136 : decode cX7_tellFields 136 = .ok (.iload_n 3, 1) := by decide +kernel
theorem dX7_tellFields_137 : decode cX7_tellFields 137 = .ok (.iconst 1, 1) := by decide +kernel
theorem dX7_tellFields_138 : decode cX7_tellFields 138 = .ok (.iadd, 1) := by decide +kernel
theorem dX7_tellFields_139 : decode cX7_tellFields 139 = .ok (.invokevirtual 80, 3) := by decide +kernel
theorem dX7_tellFields_142 : decode cX7_tellFields 142 = .ok (.iload 5, 2) := by decide +kernel
theorem dX7_tellFields_144 : decode cX7_tellFields 144 = .ok (.iload 8, 2) := by decide +kernel
theorem dX7_tellFields_146 : decode cX7_tellFields 146 = .ok (.if_icmp .ne 22, 3) := by decide +kernel
theorem dX7_tellFields_149 : decode cX7_tellFields 149 = .ok (.iinc 5 1, 3) := by decide +kernel
theorem dX7_tellFields_152 : decode cX7_tellFields 152 = .ok (.aload_n 0, 1) := by decide +kernel
theorem dX7_tellFields_153 : decode cX7_tellFields 153 = .ok (.getfield 25, 3) := by decide +kernel
theorem dX7_tellFields_156 : decode cX7_tellFields 156 = .ok (.iload 4, 2) := by decide +kernel
theorem dX7_tellFields_158 : decode cX7_tellFields 158 = .ok (.iload 5, 2) := by decide +kernel
theorem dX7_tellFields_160 : decode cX7_tellFields 160 = .ok (.iadd, 1) := by decide +kernel
theorem dX7_tellFields_161 : decode cX7_tellFields 161 = .ok (.aload_n 0, 1) := by decide +kernel
theorem dX7_tellFields_162 : decode cX7_tellFields 162 = .ok (.getfield 74, 3) := by decide +kernel
theorem dX7_tellFields_165 : decode cX7_tellFields 165 = .ok (.invokevirtual 48, 3) := by decide +kernel
theorem dX7_tellFields_168 : decode cX7_tellFields 168 = .ok (.iinc 6 1, 3) := by decide +kernel
theorem dX7_tellFields_171 : decode cX7_tellFields 171 = .ok (.goto (-146), 3) := by decide +kernel
theorem dX7_tellFields_174 : decode cX7_tellFields 174 = .ok (.aload_n 0, 1) := by decide +kernel
theorem dX7_tellFields_175 : decode cX7_tellFields 175 = .ok (.getfield 59, 3) := by decide +kernel
theorem dX7_tellFields_178 : decode cX7_tellFields 178 = .ok (.ifCond .eq 4, 3) := by decide +kernel
theorem dX7_tellFields_181 : decode cX7_tellFields 181 = .ok (.return_, 1) := by decide +kernel
theorem dX7_tellFields_182 : decode cX7_tellFields 182 = .ok (.aload_n 0, 1) := by decide +kernel
theorem dX7_tellFields_183 : decode cX7_tellFields 183 = .ok (.iload_n 1, 1) := by decide +kernel
theorem dX7_tellFields_184 : decode cX7_tellFields 184 = .ok (.iload 5, 2) := by decide +kernel
theorem dX7_tellFields_186 : decode cX7_tellFields 186 = .ok (.aload_n 0, 1) := by decide +kernel
theorem dX7_tellFields_187 : decode cX7_tellFields 187 = .ok (.getfield 37, 3) := by decide +kernel
theorem dX7_tellFields_190 : decode cX7_tellFields 190 = .ok (.iload_n 1, 1) := by decide +kernel
theorem dX7_tellFields_191 : decode cX7_tellFields 191 = .ok (.invokevirtual 167, 3) := by decide +kernel
theorem dX7_tellFields_194 : decode cX7_tellFields 194 = .ok (.iload_n 3, 1) := by decide +kernel
theorem dX7_tellFields_195 : decode cX7_tellFields 195 = .ok (.invokevirtual 176, 3) := by decide +kernel
theorem dX7_tellFields_198 : decode cX7_tellFields 198 = .ok (.pop, 1) := by decide +kernel
theorem dX7_tellFields_199 : decode cX7_tellFields 199 = .ok (.aload_n 0, 1) := by decide +kernel
theorem dX7_tellFields_200 : decode cX7_tellFields 200 = .ok (.aload_n 0, 1) := by decide +kernel
theorem dX7_tellFields_201 : decode cX7_tellFields 201 = .ok (.getfield 25, 3) := by decide +kernel
theorem dX7_tellFields_204 : decode cX7_tellFields 204 = .ok (.iload 4, 2) := by decide +kernel
theorem dX7_tellFields_206 : decode cX7_tellFields 206 = .ok (.aload_n 0, 1) := by decide +kernel
theorem dX7_tellFields_207 : decode cX7_tellFields 207 = .ok (.getfield 37, 3) := by decide +kernel
theorem dX7_tellFields_210 : decode cX7_tellFields 210 = .ok (.iload_n 1, 1) := by decide +kernel
theorem dX7_tellFields_211 : decode cX7_tellFields 211 = .ok (.invokevirtual 167, 3) := by decide +kernel
theorem dX7_tellFields_214 : decode cX7_tellFields 214 = .ok (.iadd, 1) := by decide +kernel
theorem dX7_tellFields_215 : decode cX7_tellFields 215 = .ok (.invokevirtual 95, 3) := by decide +kernel
theorem dX7_tellFields_218 : decode cX7_tellFields 218 = .ok (.putfield 74, 3) := by decide +kernel
theorem dX7_tellFields_221 : decode cX7_tellFields 221 = .ok (.return_, 1) := by decide +kernel
theorem dX7_origin_0 : decode cX7_origin 0 = .ok (.aload_n 0, 1) := by decide +kernel
theorem dX7_origin_1 : decode cX7_origin 1 = .ok (.getfield 22, 3) := by decide +kernel
theorem dX7_origin_4 : decode cX7_origin 4 = .ok (.iload_n 2, 1) := by decide +kernel
theorem dX7_origin_5 : decode cX7_origin 5 = .ok (.invokevirtual 95, 3) := by decide +kernel
theorem dX7_origin_8 : decode cX7_origin 8 = .ok (.istore_n 3, 1) := by decide +kernel
theorem dX7_origin_9 : decode cX7_origin 9 = .ok (.iload_n 3, 1) := by decide +kernel
theorem dX7_origin_10 : decode cX7_origin 10 = .ok (.bipush (-2), 2) := by decide +kernel
theorem dX7_origin_12 : decode cX7_origin 12 = .ok (.if_icmp .ne 36, 3) := by decide +kernel
theorem dX7_origin_15 : decode cX7_origin 15 = .ok (.aload_n 0, 1) := by decide +kernel
theorem dX7_origin_16 : decode cX7_origin 16 = .ok (.getfield 37, 3) := by decide +kernel
theorem dX7_origin_19 : decode cX7_origin 19 = .ok (.iload_n 1, 1) := by decide +kernel
theorem dX7_origin_20 : decode cX7_origin 20 = .ok (.aload_n 0, 1) := by decide +kernel
theorem dX7_origin_21 : decode cX7_origin 21 = .ok (.getfield 41, 3) := by decide +kernel
theorem dX7_origin_24 : decode cX7_origin 24 = .ok (.invokevirtual 139, 3) := by decide +kernel
theorem dX7_origin_27 : decode cX7_origin 27 = .ok (.aload_n 0, 1) := by decide +kernel
theorem dX7_origin_28 : decode cX7_origin 28 = .ok (.getfield 41, 3) := by decide +kernel
theorem dX7_origin_31 : decode cX7_origin 31 = .ok (.iload_n 2, 1) := by decide +kernel
theorem dX7_origin_32 : decode cX7_origin 32 = .ok (.invokevirtual 145, 3) := by decide +kernel
theorem dX7_origin_35 : decode cX7_origin 35 = .ok (.invokevirtual 148, 3) := by decide +kernel
theorem dX7_origin_38 : decode cX7_origin 38 = .ok (.istore_n 3, 1) := by decide +kernel
theorem dX7_origin_39 : decode cX7_origin 39 = .ok (.aload_n 0, 1) := by decide +kernel
theorem dX7_origin_40 : decode cX7_origin 40 = .ok (.getfield 22, 3) := by decide +kernel
theorem dX7_origin_43 : decode cX7_origin 43 = .ok (.iload_n 2, 1) := by decide +kernel
theorem dX7_origin_44 : decode cX7_origin 44 = .ok (.iload_n 3, 1) := by decide +kernel
theorem dX7_origin_45 : decode cX7_origin 45 = .ok (.invokevirtual 48, 3) := by decide +kernel
theorem dX7_origin_48 : decode cX7_origin 48 = .ok (.iload_n 3, 1) := by decide +kernel
theorem dX7_origin_49 : decode cX7_origin 49 = .ok (.ireturn, 1) := by decide +kernel
theorem dX7_skipFields_0 : decode cX7_skipFields 0 = .ok (.iload 4, 2) := by decide +kernel
theorem dX7_skipFields_2 : decode cX7_skipFields 2 = .ok (.bipush 33, 2) := by decide +kernel
theorem dX7_skipFields_4 : decode cX7_skipFields 4 = .ok (.imul, 1) := by decide +kernel
theorem dX7_skipFields_5 : decode cX7_skipFields 5 = .ok (.istore 5, 2) := by decide +kernel
theorem dX7_skipFields_7 : decode cX7_skipFields 7 = .ok (.iload_n 2, 1) := by decide +kernel
theorem dX7_skipFields_8 : decode cX7_skipFields 8 = .ok (.istore 6, 2) := by decide +kernel
theorem dX7_skipFields_10 : decode cX7_skipFields 10 = .ok (.iload 6, 2) := by decide +kernel
theorem dX7_skipFields_12 : decode cX7_skipFields 12 = .ok (.iload_n 3, 1) := by decide +kernel
theorem dX7_skipFields_13 : decode cX7_skipFields 13 = .ok (.if_icmp .ge 68, 3) := by decide +kernel
theorem dX7_skipFields_16 : decode cX7_skipFields 16 = .ok (.aload_n 0, 1) := by decide +kernel
theorem dX7_skipFields_17 : decode cX7_skipFields 17 = .ok (.aload_n 0, 1) := by decide +kernel
theorem dX7_skipFields_18 : decode cX7_skipFields 18 = .ok (.getfield 25, 3) := by decide +kernel
theorem dX7_skipFields_21 : decode cX7_skipFields 21 = .ok (.iload 5, 2) := by decide +kernel
theorem dX7_skipFields_23 : decode cX7_skipFields 23 = .ok (.iload 6, 2) := by decide +kernel
theorem dX7_skipFields_25 : decode cX7_skipFields 25 = .ok (.iadd, 1) := by decide +kernel
theorem dX7_skipFields_26 : decode cX7_skipFields 26 = .ok (.invokevirtual 95, 3) := by decide +kernel
theorem dX7_skipFields_29 : decode cX7_skipFields 29 = .ok (.putfield 74, 3) := by decide +kernel
theorem dX7_skipFields_32 : decode cX7_skipFields 32 = .ok (.aload_n 0, 1) := by decide +kernel
theorem dX7_skipFields_33 : decode cX7_skipFields 33 = .ok (.aload_n 0, 1) := by decide +kernel
theorem dX7_skipFields_34 : decode cX7_skipFields 34 = .ok (.getfield 37, 3) := by decide +kernel
theorem dX7_skipFields_37 : decode cX7_skipFields 37 = .ok (.aload_n 0, 1) := by decide +kernel
theorem dX7_skipFields_38 : decode cX7_skipFields 38 = .ok (.getfield 37, 3) := by decide +kernel
theorem dX7_skipFields_41 : decode cX7_skipFields 41 = .ok (.iload_n 1, 1) := by decide +kernel
theorem dX7_skipFields_42 : decode cX7_skipFields 42 = .ok (.iload 6, 2) := by decide +kernel
theorem dX7_skipFields_44 : decode cX7_skipFields 44 = .ok (.invokevirtual 142, 3) := by decide +kernel
theorem dX7_skipFields_47 : decode cX7_skipFields 47 = .ok (.invokevirtual 180, 3) := by decide +kernel
theorem dX7_skipFields_50 : decode cX7_skipFields 50 = .ok (.iload 4, 2) := by decide +kernel
theorem dX7_skipFields_52 : decode cX7_skipFields 52 = .ok (.iconst 1, 1) := by decide +kernel
theorem dX7_skipFields_53 : decode cX7_skipFields 53 = .ok (.iadd, 1) := by decide +kernel
theorem dX7_skipFields_54 : decode cX7_skipFields 54 = .ok (.invokevirtual 132, 3) := by decide +kernel
theorem dX7_skipFields_57 : decode cX7_skipFields 57 = .ok (.aload_n 0, 1) := by decide +kernel
theorem dX7_skipFields_58 : decode cX7_skipFields 58 = .ok (.getfield 25, 3) := by decide +kernel
theorem dX7_skipFields_61 : decode cX7_skipFields 61 = .ok (.iload 5, 2) := by decide +kernel
theorem dX7_skipFields_63 : decode cX7_skipFields 63 = .ok (.iload 6, 2) := by decide +kernel
theorem dX7_skipFields_65 : decode cX7_skipFields 65 = .ok (.iadd, 1) := by decide +kernel
theorem dX7_skipFields_66 : decode cX7_skipFields 66 = .ok (.iconst 1, 1) := by decide +kernel
theorem dX7_skipFields_67 : decode cX7_skipFields 67 = .ok (.iadd, 1) := by decide +kernel
theorem dX7_skipFields_68 : decode cX7_skipFields 68 = .ok (.aload_n 0, 1) := by decide +kernel
theorem dX7_skipFields_69 : decode cX7_skipFields 69 = .ok (.getfield 74, 3) := by decide +kernel
theorem dX7_skipFields_72 : decode cX7_skipFields 72 = .ok (.invokevirtual 48, 3) := by decide +kernel
theorem dX7_skipFields_75 : decode cX7_skipFields 75 = .ok (.iinc 6 1, 3) := by decide +kernel
theorem dX7_skipFields_78 : decode cX7_skipFields 78 = .ok (.goto (-68), 3) := by decide +kernel
theorem dX7_skipFields_81 : decode cX7_skipFields 81 = .ok (.iload_n 2, 1) := by decide +kernel
theorem dX7_skipFields_82 : decode cX7_skipFields 82 = .ok (.iload_n 3, 1) := by decide +kernel
theorem dX7_skipFields_83 : decode cX7_skipFields 83 = .ok (.invokestatic 183, 3) := by decide +kernel
theorem dX7_skipFields_86 : decode cX7_skipFields 86 = .ok (.ireturn, 1) := by decide +kernel
theorem dX7_tellDefault_0 : decode cX7_tellDefault 0 = .ok (.aload_n 0, 1) := by decide +kernel
theorem dX7_tellDefault_1 : decode cX7_tellDefault 1 = .ok (.getfield 41, 3) := by decide +kernel
theorem dX7_tellDefault_4 : decode cX7_tellDefault 4 = .ok (.iload_n 1, 1) := by decide +kernel
theorem dX7_tellDefault_5 : decode cX7_tellDefault 5 = .ok (.invokevirtual 188, 3) := by decide +kernel
theorem dX7_tellDefault_8 : decode cX7_tellDefault 8 = .ok (.ifCond .eq 33, 3) := by decide +kernel
theorem dX7_tellDefault_11 : decode cX7_tellDefault 11 = .ok (.aload_n 0, 1) := by decide +kernel
theorem dX7_tellDefault_12 : decode cX7_tellDefault 12 = .ok (.aload_n 0, 1) := by decide +kernel
theorem dX7_tellDefault_13 : decode cX7_tellDefault 13 = .ok (.getfield 41, 3) := by decide +kernel
theorem dX7_tellDefault_16 : decode cX7_tellDefault 16 = .ok (.invokevirtual 192, 3) := by decide +kernel
theorem dX7_tellDefault_19 : decode cX7_tellDefault 19 = .ok (.aload_n 0, 1) := by decide +kernel
theorem dX7_tellDefault_20 : decode cX7_tellDefault 20 = .ok (.getfield 41, 3) := by decide +kernel
theorem dX7_tellDefault_23 : decode cX7_tellDefault 23 = .ok (.iload_n 1, 1) := by decide +kernel
theorem dX7_tellDefault_24 : decode cX7_tellDefault 24 = .ok (.invokevirtual 195, 3) := by decide +kernel
theorem dX7_tellDefault_27 : decode cX7_tellDefault 27 = .ok (.aload_n 0, 1) := by decide +kernel
theorem dX7_tellDefault_28 : decode cX7_tellDefault 28 = .ok (.getfield 41, 3) := by decide +kernel
theorem dX7_tellDefault_31 : decode cX7_tellDefault 31 = .ok (.iload_n 1, 1) := by decide +kernel
theorem dX7_tellDefault_32 : decode cX7_tellDefault 32 = .ok (.invokevirtual 198, 3) := by decide +kernel
theorem dX7_tellDefault_35 : decode cX7_tellDefault 35 = .ok (.invokevirtual 135, 3) := by decide +kernel
theorem dX7_tellDefault_38 : decode cX7_tellDefault 38 = .ok (.goto 9, 3) := by decide +kernel
theorem dX7_tellDefault_41 : decode cX7_tellDefault 41 = .ok (.aload_n 0, 1) := by decide +kernel
theorem dX7_tellDefault_42 : decode cX7_tellDefault 42 = .ok (.bipush (-20), 2) := by decide +kernel
theorem dX7_tellDefault_44 : decode cX7_tellDefault 44 = .ok (.invokevirtual 88, 3) := by decide +kernel
theorem dX7_tellDefault_47 : decode cX7_tellDefault 47 = .ok (.return_, 1) := by decide +kernel
theorem dX7_skip_0 : decode cX7_skip 0 = .ok (.aload_n 0, 1) := by decide +kernel
theorem dX7_skip_1 : decode cX7_skip 1 = .ok (.getfield 37, 3) := by decide +kernel
theorem dX7_skip_4 : decode cX7_skip 4 = .ok (.iload_n 1, 1) := by decide +kernel
theorem dX7_skip_5 : decode cX7_skip 5 = .ok (.invokevirtual 158, 3) := by decide +kernel
theorem dX7_skip_8 : decode cX7_skip 8 = .ok (.iconst (-1), 1) := by decide +kernel
theorem dX7_skip_9 : decode cX7_skip 9 = .ok (.if_icmp .eq 21, 3) := by decide +kernel
theorem dX7_skip_12 : decode cX7_skip 12 = .ok (.aload_n 0, 1) := by decide +kernel
theorem dX7_skip_13 : decode cX7_skip 13 = .ok (.dup, 1) := by decide +kernel
theorem dX7_skip_14 : decode cX7_skip 14 = .ok (.getfield 74, 3) := by decide +kernel
theorem dX7_skip_17 : decode cX7_skip 17 = .ok (.aload_n 0, 1) := by decide +kernel
theorem dX7_skip_18 : decode cX7_skip 18 = .ok (.getfield 37, 3) := by decide +kernel
theorem dX7_skip_21 : decode cX7_skip 21 = .ok (.iload_n 1, 1) := by decide +kernel
theorem dX7_skip_22 : decode cX7_skip 22 = .ok (.invokevirtual 158, 3) := by decide +kernel
theorem dX7_skip_25 : decode cX7_skip 25 = .ok (.iadd, 1) := by decide +kernel
theorem dX7_skip_26 : decode cX7_skip 26 = .ok (.putfield 74, 3) := by decide +kernel
theorem dX7_skip_29 : decode cX7_skip 29 = .ok (.return_, 1) := by decide +kernel
theorem dX7_skip_30 : decode cX7_skip 30 = .ok (.iload_n 2, 1) := by decide +kernel
theorem dX7_skip_31 : decode cX7_skip 31 = .ok (.bipush 33, 2) := by decide +kernel
theorem dX7_skip_33 : decode cX7_skip 33 = .ok (.if_icmp .lt 4, 3) := by decide +kernel
theorem dX7_skip_36 : decode cX7_skip 36 = .ok (.return_, 1) := by decide +kernel
theorem dX7_skip_37 : decode cX7_skip 37 = .ok (.aload_n 0, 1) := by decide +kernel
theorem dX7_skip_38 : decode cX7_skip 38 = .ok (.getfield 37, 3) := by decide +kernel
theorem dX7_skip_41 : decode cX7_skip 41 = .ok (.iload_n 1, 1) := by decide +kernel
theorem dX7_skip_42 : decode cX7_skip 42 = .ok (.invokevirtual 98, 3) := by decide +kernel
theorem dX7_skip_45 : decode cX7_skip 45 = .ok (.tableswitch 153 2 11 #[55, 55, 61, 61, 99, 99, 78, 153, 55, 106], 55) := by decide +kernel
theorem dX7_skip_100 : decode cX7_skip 100 = .ok (.aload_n 0, 1) := by decide +kernel
theorem dX7_skip_101 : decode cX7_skip 101 = .ok (.invokevirtual 101, 3) := by decide +kernel
theorem dX7_skip_104 : decode cX7_skip 104 = .ok (.pop2, 1) := by decide +kernel
theorem dX7_skip_105 : decode cX7_skip 105 = .ok (.return_, 1) := by decide +kernel
theorem dX7_skip_106 : decode cX7_skip 106 = .ok (.aload_n 0, 1) := by decide +kernel
theorem dX7_skip_107 : decode cX7_skip 107 = .ok (.invokevirtual 101, 3) := by decide +kernel
theorem dX7_skip_110 : decode cX7_skip 110 = .ok (.l2i, 1) := by decide +kernel
theorem dX7_skip_111 : decode cX7_skip 111 = .ok (.istore_n 3, 1) := by decide +kernel
theorem dX7_skip_112 : decode cX7_skip 112 = .ok (.aload_n 0, 1) := by decide +kernel
theorem dX7_skip_113 : decode cX7_skip 113 = .ok (.dup, 1) := by decide +kernel
theorem dX7_skip_114 : decode cX7_skip 114 = .ok (.getfield 74, 3) := by decide +kernel
theorem dX7_skip_117 : decode cX7_skip 117 = .ok (.iload_n 3, 1) := by decide +kernel
theorem dX7_skip_118 : decode cX7_skip 118 = .ok (.iadd, 1) := by decide +kernel
theorem dX7_skip_119 : decode cX7_skip 119 = .ok (.putfield 74, 3) := by decide +kernel
theorem dX7_skip_122 : decode cX7_skip 122 = .ok (.return_, 1) := by decide +kernel
theorem dX7_skip_123 : decode cX7_skip 123 = .ok (.aload_n 0, 1) := by decide +kernel
theorem dX7_skip_124 : decode cX7_skip 124 = .ok (.aload_n 0, 1) := by decide +kernel
theorem dX7_skip_125 : decode cX7_skip 125 = .ok (.getfield 37, 3) := by decide +kernel
theorem dX7_skip_128 : decode cX7_skip 128 = .ok (.iload_n 1, 1) := by decide +kernel
theorem dX7_skip_129 : decode cX7_skip 129 = .ok (.aload_n 0, 1) := by decide +kernel
theorem dX7_skip_130 : decode cX7_skip 130 = .ok (.invokevirtual 101, 3) := by decide +kernel
theorem dX7_skip_133 : decode cX7_skip 133 = .ok (.l2i, 1) := by decide +kernel
theorem dX7_skip_134 : decode cX7_skip 134 = .ok (.invokevirtual 105, 3) := by decide +kernel
theorem dX7_skip_137 : decode cX7_skip 137 = .ok (.iload_n 2, 1) := by decide +kernel
theorem dX7_skip_138 : decode cX7_skip 138 = .ok (.iconst 1, 1) := by decide +kernel
theorem dX7_skip_139 : decode cX7_skip 139 = .ok (.iadd, 1) := by decide +kernel
theorem dX7_skip_140 : decode cX7_skip 140 = .ok (.invokevirtual 132, 3) := by decide +kernel
theorem dX7_skip_143 : decode cX7_skip 143 = .ok (.return_, 1) := by decide +kernel
theorem dX7_skip_144 : decode cX7_skip 144 = .ok (.aload_n 0, 1) := by decide +kernel
theorem dX7_skip_145 : decode cX7_skip 145 = .ok (.iload_n 1, 1) := by decide +kernel
theorem dX7_skip_146 : decode cX7_skip 146 = .ok (.iload_n 2, 1) := by decide +kernel
theorem dX7_skip_147 : decode cX7_skip 147 = .ok (.invokevirtual 201, 3) := by decide +kernel
theorem dX7_skip_150 : decode cX7_skip 150 = .ok (.return_, 1) := by decide +kernel
theorem dX7_skip_151 : decode cX7_skip 151 = .ok (.iconst 0, 1) := by decide +kernel
theorem dX7_skip_152 : decode cX7_skip 152 = .ok (.istore 4, 2) := by decide +kernel
theorem dX7_skip_154 : decode cX7_skip 154 = .ok (.iload 4, 2) := by decide +kernel
theorem dX7_skip_156 : decode cX7_skip 156 = .ok (.aload_n 0, 1) := by decide +kernel
theorem dX7_skip_157 : decode cX7_skip 157 = .ok (.getfield 37, 3) := by decide +kernel
theorem dX7_skip_160 : decode cX7_skip 160 = .ok (.iload_n 1, 1) := by decide +kernel
theorem dX7_skip_161 : decode cX7_skip 161 = .ok (.invokevirtual 167, 3) := by decide +kernel
theorem dX7_skip_164 : decode cX7_skip 164 = .ok (.if_icmp .ge 33, 3) := by decide +kernel
theorem dX7_skip_167 : decode cX7_skip 167 = .ok (.aload_n 0, 1) := by decide +kernel
theorem dX7_skip_168 : decode cX7_skip 168 = .ok (.aload_n 0, 1) := by decide +kernel
theorem dX7_skip_169 : decode cX7_skip 169 = .ok (.getfield 37, 3) := by decide +kernel
theorem dX7_skip_172 : decode cX7_skip 172 = .ok (.aload_n 0, 1) := by decide +kernel
theorem dX7_skip_173 : decode cX7_skip 173 = .ok (.getfield 37, 3) := by decide +kernel
theorem dX7_skip_176 : decode cX7_skip 176 = .ok (.iload_n 1, 1) := by decide +kernel
theorem dX7_skip_177 : decode cX7_skip 177 = .ok (.iload 4, 2) := by decide +kernel
theorem dX7_skip_179 : decode cX7_skip 179 = .ok (.invokevirtual 142, 3) := by decide +kernel
theorem dX7_skip_182 : decode cX7_skip 182 = .ok (.invokevirtual 180, 3) := by decide +kernel
theorem dX7_skip_185 : decode cX7_skip 185 = .ok (.iload_n 2, 1) := by decide +kernel
theorem dX7_skip_186 : decode cX7_skip 186 = .ok (.iconst 1, 1) := by decide +kernel
theorem dX7_skip_187 : decode cX7_skip 187 = .ok (.iadd, 1) := by decide +kernel
theorem dX7_skip_188 : decode cX7_skip 188 = .ok (.invokevirtual 132, 3) := by decide +kernel
theorem dX7_skip_191 : decode cX7_skip 191 = .ok (.iinc 4 1, 3) := by decide +kernel
theorem dX7_skip_194 : decode cX7_skip 194 = .ok (.goto (-40), 3) := by decide +kernel
theorem dX7_skip_197 : decode cX7_skip 197 = .ok (.return_, 1) := by decide +kernel
theorem dX7_skip_198 : decode cX7_skip 198 = .ok (.return_, 1) := by decide +kernel
theorem dX7_skipItems_0 : decode cX7_skipItems 0 = .ok (.aload_n 0, 1) := by decide +kernel
theorem dX7_skipItems_1 : decode cX7_skipItems 1 = .ok (.invokevirtual 101, 3) := by decide +kernel
theorem dX7_skipItems_4 : decode cX7_skipItems 4 = .ok (.lstore_n 3, 1) := by decide +kernel
theorem dX7_skipItems_5 : decode cX7_skipItems 5 = .ok (.lload_n 3, 1) := by decide +kernel
theorem dX7_skipItems_6 : decode cX7_skipItems 6 = .ok (.lconst 0, 1) := by decide +kernel
theorem dX7_skipItems_7 : decode cX7_skipItems 7 = .ok (.lcmp, 1) := by decide +kernel
theorem dX7_skipItems_8 : decode cX7_skipItems 8 = .ok (.ifCond .ne 4, 3) := by decide +kernel
theorem dX7_skipItems_11 : decode cX7_skipItems 11 = .ok (.return_, 1) := by decide +kernel
theorem dX7_skipItems_12 : decode cX7_skipItems 12 = .ok (.iconst 0, 1) := by decide +kernel
theorem dX7_skipItems_13 : decode cX7_skipItems 13 = .ok (.istore 5, 2) := by decide +kernel
theorem dX7_skipItems_15 : decode cX7_skipItems 15 = .ok (.iload 5, 2) := by decide +kernel
theorem dX7_skipItems_17 : decode cX7_skipItems 17 = .ok (.i2l, 1) := by decide +kernel
theorem dX7_skipItems_18 : decode cX7_skipItems 18 = .ok (.lload_n 3, 1) := by decide +kernel
theorem dX7_skipItems_19 : decode cX7_skipItems 19 = .ok (.lcmp, 1) := by decide +kernel
theorem dX7_skipItems_20 : decode cX7_skipItems 20 = .ok (.ifCond .ge 51, 3) := by decide +kernel
theorem dX7_skipItems_23 : decode cX7_skipItems 23 = .ok (.iload 5, 2) := by decide +kernel
theorem dX7_skipItems_25 : decode cX7_skipItems 25 = .ok (.sipush 2000, 3) := by decide +kernel
theorem dX7_skipItems_28 : decode cX7_skipItems 28 = .ok (.if_icmp .ge 43, 3) := by decide +kernel
theorem dX7_skipItems_31 : decode cX7_skipItems 31 = .ok (.aload_n 0, 1) := by decide +kernel
theorem dX7_skipItems_32 : decode cX7_skipItems 32 = .ok (.getfield 37, 3) := by decide +kernel
theorem dX7_skipItems_35 : decode cX7_skipItems 35 = .ok (.iload_n 1, 1) := by decide +kernel
theorem dX7_skipItems_36 : decode cX7_skipItems 36 = .ok (.invokevirtual 98, 3) := by decide +kernel
theorem dX7_skipItems_39 : decode cX7_skipItems 39 = .ok (.bipush 7, 2) := by decide +kernel
theorem dX7_skipItems_41 : decode cX7_skipItems 41 = .ok (.if_icmp .ne 9, 3) := by decide +kernel
theorem dX7_skipItems_44 : decode cX7_skipItems 44 = .ok (.aload_n 0, 1) := by decide +kernel
theorem dX7_skipItems_45 : decode cX7_skipItems 45 = .ok (.iconst 5, 1) := by decide +kernel
theorem dX7_skipItems_46 : decode cX7_skipItems 46 = .ok (.iload_n 2, 1) := by decide +kernel
theorem dX7_skipItems_47 : decode cX7_skipItems 47 = .ok (.invokevirtual 132, 3) := by decide +kernel
theorem dX7_skipItems_50 : decode cX7_skipItems 50 = .ok (.aload_n 0, 1) := by decide +kernel
theorem dX7_skipItems_51 : decode cX7_skipItems 51 = .ok (.aload_n 0, 1) := by decide +kernel
theorem dX7_skipItems_52 : decode cX7_skipItems 52 = .ok (.getfield 37, 3) := by decide +kernel
theorem dX7_skipItems_55 : decode cX7_skipItems 55 = .ok (.iload_n 1, 1) := by decide +kernel
theorem dX7_skipItems_56 : decode cX7_skipItems 56 = .ok (.invokevirtual 155, 3) := by decide +kernel
theorem dX7_skipItems_59 : decode cX7_skipItems 59 = .ok (.iload_n 2, 1) := by decide +kernel
theorem dX7_skipItems_60 : decode cX7_skipItems 60 = .ok (.iconst 1, 1) := by decide +kernel
theorem dX7_skipItems_61 : decode cX7_skipItems 61 = .ok (.iadd, 1) := by decide +kernel
theorem dX7_skipItems_62 : decode cX7_skipItems 62 = .ok (.invokevirtual 132, 3) := by decide +kernel
theorem dX7_skipItems_65 : decode cX7_skipItems 65 = .ok (.iinc 5 1, 3) := by decide +kernel
theorem dX7_skipItems_68 : decode cX7_skipItems 68 = .ok (.goto (-53), 3) := by decide +kernel
theorem dX7_skipItems_71 : decode cX7_skipItems 71 = .ok (.aload_n 0, 1) := by decide +kernel
theorem dX7_skipItems_72 : decode cX7_skipItems 72 = .ok (.invokevirtual 101, 3) := by decide +kernel
theorem dX7_skipItems_75 : decode cX7_skipItems 75 = .ok (.pop2, 1) := by decide +kernel
theorem dX7_skipItems_76 : decode cX7_skipItems 76 = .ok (.return_, 1) := by decide +kernel
theorem dX8_init_0 : decode cX8_init 0 = .ok (.aload_n 0, 1) := by decide +kernel
theorem dX8_init_1 : decode cX8_init 1 = .ok (.invokespecial 5, 3) := by decide +kernel
theorem dX8_init_4 : decode cX8_init 4 = .ok (.aload_n 0, 1) := by decide +kernel
theorem dX8_init_5 : decode cX8_init 5 = .ok (.new 11, 3) := by decide +kernel
theorem dX8_init_8 : decode cX8_init 8 = .ok (.dup, 1) := by decide +kernel
theorem dX8_init_9 : decode cX8_init 9 = .ok (.sipush 2073, 3) := by decide +kernel
theorem dX8_init_12 : decode cX8_init 12 = .ok (.invokespecial 13, 3) := by decide +kernel
theorem dX8_init_15 : decode cX8_init 15 = .ok (.putfield 16, 3) := by decide +kernel
theorem dX8_init_18 : decode cX8_init 18 = .ok (.aload_n 0, 1) := by decide +kernel
theorem dX8_init_19 : decode cX8_init 19 = .ok (.new 11, 3) := by decide +kernel
theorem dX8_init_22 : decode cX8_init 22 = .ok (.dup, 1) := by decide +kernel
theorem dX8_init_23 : decode cX8_init 23 = .ok (.sipush 2073, 3) := by decide +kernel
theorem dX8_init_26 : decode cX8_init 26 = .ok (.invokespecial 13, 3) := by decide +kernel
theorem dX8_init_29 : decode cX8_init 29 = .ok (.putfield 20, 3) := by decide +kernel
theorem dX8_init_32 : decode cX8_init 32 = .ok (.aload_n 0, 1) := by decide +kernel
theorem dX8_init_33 : decode cX8_init 33 = .ok (.new 11, 3) := by decide +kernel
theorem dX8_init_36 : decode cX8_init 36 = .ok (.dup, 1) := by decide +kernel
theorem dX8_init_37 : decode cX8_init 37 = .ok (.sipush 2073, 3) := by decide +kernel
theorem dX8_init_40 : decode cX8_init 40 = .ok (.invokespecial 13, 3) := by decide +kernel
theorem dX8_init_43 : decode cX8_init 43 = .ok (.putfield 23, 3) := by decide +kernel
theorem dX8_init_46 : decode cX8_init 46 = .ok (.aload_n 0, 1) := by decide +kernel
theorem dX8_init_47 : decode cX8_init 47 = .ok (.new 11, 3) := by decide +kernel
theorem dX8_init_50 : decode cX8_init 50 = .ok (.dup, 1) := by decide +kernel
theorem dX8_init_51 : decode cX8_init 51 = .ok (.sipush 2073, 3) := by decide +kernel
theorem dX8_init_54 : decode cX8_init 54 = .ok (.invokespecial 13, 3) := by decide +kernel
theorem dX8_init_57 : decode cX8_init 57 = .ok (.putfield 26, 3) := by decide +kernel
theorem dX8_init_60 : decode cX8_init 60 = .ok (.aload_n 0, 1) := by decide +kernel
theorem dX8_init_61 : decode cX8_init 61 = .ok (.new 11, 3) := by decide +kernel
theorem dX8_init_64 : decode cX8_init 64 = .ok (.dup, 1) := by decide +kernel
theorem dX8_init_65 : decode cX8_init 65 = .ok (.sipush 2073, 3) := by decide +kernel
theorem dX8_init_68 : decode cX8_init 68 = .ok (.invokespecial 13, 3) := by decide +kernel
theorem dX8_init_71 : decode cX8_init 71 = .ok (.putfield 29, 3) := by decide +kernel
theorem dX8_init_74 : decode cX8_init 74 = .ok (.aload_n 0, 1) := by decide +kernel
theorem dX8_init_75 : decode cX8_init 75 = .ok (.new 11, 3) := by decide +kernel
theorem dX8_init_78 : decode cX8_init 78 = .ok (.dup, 1) := by decide +kernel
theorem dX8_init_79 : decode cX8_init 79 = .ok (.sipush 2073, 3) := by decide +kernel
theorem dX8_init_82 : decode cX8_init 82 = .ok (.invokespecial 13, 3) := by decide +kernel
theorem dX8_init_85 : decode cX8_init 85 = .ok (.putfield 32, 3) := by decide +kernel
theorem dX8_init_88 : decode cX8_init 88 = .ok (.aload_n 0, 1) := by decide +kernel
theorem dX8_init_89 : decode cX8_init 89 = .ok (.new 11, 3) := by decide +kernel
theorem dX8_init_92 : decode cX8_init 92 = .ok (.dup, 1) := by decide +kernel
theorem dX8_init_93 : decode cX8_init 93 = .ok (.sipush 2073, 3) := by decide +kernel
theorem dX8_init_96 : decode cX8_init 96 = .ok (.invokespecial 13, 3) := by decide +kernel
theorem dX8_init_99 : decode cX8_init 99 = .ok (.putfield 35, 3) := by decide +kernel
theorem dX8_init_102 : decode cX8_init 102 = .ok (.aload_n 0, 1) := by decide +kernel
theorem dX8_init_103 : decode cX8_init 103 = .ok (.sipush 2073, 3) := by decide +kernel
theorem dX8_init_106 : decode cX8_init 106 = .ok (.newarray .long, 2) := by decide +kernel
theorem dX8_init_108 : decode cX8_init 108 = .ok (.putfield 38, 3) := by decide +kernel
theorem dX8_init_111 : decode cX8_init 111 = .ok (.aload_n 0, 1) := by decide +kernel
theorem dX8_init_112 : decode cX8_init 112 = .ok (.new 11, 3) := by decide +kernel
theorem dX8_init_115 : decode cX8_init 115 = .ok (.dup, 1) := by decide +kernel
theorem dX8_init_116 : decode cX8_init 116 = .ok (.sipush 4096, 3) := by decide +kernel
theorem dX8_init_119 : decode cX8_init 119 = .ok (.invokespecial 13, 3) := by decide +kernel
theorem dX8_init_122 : decode cX8_init 122 = .ok (.putfield 42, 3) := by decide +kernel
theorem dX8_init_125 : decode cX8_init 125 = .ok (.return_, 1) := by decide +kernel
theorem dX8_kind_0 : decode cX8_kind 0 = .ok (.aload_n 0, 1) := by decide +kernel
theorem dX8_kind_1 : decode cX8_kind 1 = .ok (.getfield 16, 3) := by decide +kernel
theorem dX8_kind_4 : decode cX8_kind 4 = .ok (.iload_n 1, 1) := by decide +kernel
theorem dX8_kind_5 : decode cX8_kind 5 = .ok (.invokevirtual 45, 3) := by decide +kernel
theorem dX8_kind_8 : decode cX8_kind 8 = .ok (.ireturn, 1) := by decide +kernel
theorem dX8_begin_0 : decode cX8_begin 0 = .ok (.aload_n 0, 1) := by decide +kernel
theorem dX8_begin_1 : decode cX8_begin 1 = .ok (.getfield 20, 3) := by decide +kernel
theorem dX8_begin_4 : decode cX8_begin 4 = .ok (.iload_n 1, 1) := by decide +kernel
theorem dX8_begin_5 : decode cX8_begin 5 = .ok (.invokevirtual 45, 3) := by decide +kernel
theorem dX8_begin_8 : decode cX8_begin 8 = .ok (.ireturn, 1) := by decide +kernel
theorem dX8_first_0 : decode cX8_first 0 = .ok (.aload_n 0, 1) := by decide +kernel
theorem dX8_first_1 : decode cX8_first 1 = .ok (.getfield 26, 3) := by decide +kernel
theorem dX8_first_4 : decode cX8_first 4 = .ok (.iload_n 1, 1) := by decide +kernel
theorem dX8_first_5 : decode cX8_first 5 = .ok (.invokevirtual 45, 3) := by decide +kernel
theorem dX8_first_8 : decode cX8_first 8 = .ok (.ireturn, 1) := by decide +kernel
theorem dX8_next_0 : decode cX8_next 0 = .ok (.aload_n 0, 1) := by decide +kernel
theorem dX8_next_1 : decode cX8_next 1 = .ok (.getfield 23, 3) := by decide +kernel
theorem dX8_next_4 : decode cX8_next 4 = .ok (.iload_n 1, 1) := by decide +kernel
theorem dX8_next_5 : decode cX8_next 5 = .ok (.invokevirtual 45, 3) := by decide +kernel
theorem dX8_next_8 : decode cX8_next 8 = .ok (.ireturn, 1) := by decide +kernel
theorem dX8_parts_0 : decode cX8_parts 0 = .ok (.aload_n 0, 1) := by decide +kernel
theorem dX8_parts_1 : decode cX8_parts 1 = .ok (.getfield 29, 3) := by decide +kernel
theorem dX8_parts_4 : decode cX8_parts 4 = .ok (.iload_n 1, 1) := by decide +kernel
theorem dX8_parts_5 : decode cX8_parts 5 = .ok (.invokevirtual 45, 3) := by decide +kernel
theorem dX8_parts_8 : decode cX8_parts 8 = .ok (.ireturn, 1) := by decide +kernel
theorem dX8_number_0 : decode cX8_number 0 = .ok (.iload_n 1, 1) := by decide +kernel
theorem dX8_number_1 : decode cX8_number 1 = .ok (.ifCond .lt 21, 3) := by decide +kernel
theorem dX8_number_4 : decode cX8_number 4 = .ok (.iload_n 1, 1) := by decide +kernel
theorem dX8_number_5 : decode cX8_number 5 = .ok (.aload_n 0, 1) := by decide +kernel
theorem dX8_number_6 : decode cX8_number 6 = .ok (.getfield 38, 3) := by decide +kernel
theorem dX8_number_9 : decode cX8_number 9 = .ok (.arraylength, 1) := by decide +kernel
theorem dX8_number_10 : decode cX8_number 10 = .ok (.if_icmp .ge 12, 3) := by decide +kernel
theorem dX8_number_13 : decode cX8_number 13 = .ok (.aload_n 0, 1) := by decide +kernel
theorem dX8_number_14 : decode cX8_number 14 = .ok (.getfield 38, 3) := by decide +kernel
theorem dX8_number_17 : decode cX8_number 17 = .ok (.iload_n 1, 1) := by decide +kernel
theorem dX8_number_18 : decode cX8_number 18 = .ok (.laload, 1) := by decide +kernel
theorem dX8_number_19 : decode cX8_number 19 = .ok (.goto 4, 3) := by decide +kernel
theorem dX8_number_22 : decode cX8_number 22 = .ok (.lconst 0, 1) := by decide +kernel
theorem dX8_number_23 : decode cX8_number 23 = .ok (.lreturn, 1) := by decide +kernel
theorem dX8_letters_0 : decode cX8_letters 0 = .ok (.aload_n 0, 1) := by decide +kernel
theorem dX8_letters_1 : decode cX8_letters 1 = .ok (.getfield 42, 3) := by decide +kernel
theorem dX8_letters_4 : decode cX8_letters 4 = .ok (.areturn, 1) := by decide +kernel
theorem dX8_word_0 : decode cX8_word 0 = .ok (.aload_n 0, 1) := by decide +kernel
theorem dX8_word_1 : decode cX8_word 1 = .ok (.getfield 32, 3) := by decide +kernel
theorem dX8_word_4 : decode cX8_word 4 = .ok (.iload_n 1, 1) := by decide +kernel
theorem dX8_word_5 : decode cX8_word 5 = .ok (.invokevirtual 45, 3) := by decide +kernel
theorem dX8_word_8 : decode cX8_word 8 = .ok (.ireturn, 1) := by decide +kernel
theorem dX8_length_0 : decode cX8_length 0 = .ok (.aload_n 0, 1) := by decide +kernel
theorem dX8_length_1 : decode cX8_length 1 = .ok (.getfield 42, 3) := by decide +kernel
theorem dX8_length_4 : decode cX8_length 4 = .ok (.aload_n 0, 1) := by decide +kernel
theorem dX8_length_5 : decode cX8_length 5 = .ok (.getfield 32, 3) := by decide +kernel
theorem dX8_length_8 : decode cX8_length 8 = .ok (.iload_n 1, 1) := by decide +kernel
theorem dX8_length_9 : decode cX8_length 9 = .ok (.invokevirtual 45, 3) := by decide +kernel
theorem dX8_length_12 : decode cX8_length 12 = .ok (.invokevirtual 45, 3) := by decide +kernel
theorem dX8_length_15 : decode cX8_length 15 = .ok (.ireturn, 1) := by decide +kernel
theorem dX8_key_0 : decode cX8_key 0 = .ok (.aload_n 0, 1) := by decide +kernel
theorem dX8_key_1 : decode cX8_key 1 = .ok (.getfield 35, 3) := by decide +kernel
theorem dX8_key_4 : decode cX8_key 4 = .ok (.iload_n 1, 1) := by decide +kernel
theorem dX8_key_5 : decode cX8_key 5 = .ok (.invokevirtual 45, 3) := by decide +kernel
theorem dX8_key_8 : decode cX8_key 8 = .ok (.ireturn, 1) := by decide +kernel
theorem dX8_isString_0 : decode cX8_isString 0 = .ok (.iload_n 1, 1) := by decide +kernel
theorem dX8_isString_1 : decode cX8_isString 1 = .ok (.iconst (-1), 1) := by decide +kernel
theorem dX8_isString_2 : decode cX8_isString 2 = .ok (.if_icmp .eq 19, 3) := by decide +kernel
theorem dX8_isString_5 : decode cX8_isString 5 = .ok (.aload_n 0, 1) := by decide +kernel
theorem dX8_isString_6 : decode cX8_isString 6 = .ok (.getfield 16, 3) := by decide +kernel
theorem dX8_isString_9 : decode cX8_isString 9 = .ok (.iload_n 1, 1) := by decide +kernel
theorem dX8_isString_10 : decode cX8_isString 10 = .ok (.invokevirtual 45, 3) := by decide +kernel
theorem dX8_isString_13 : decode cX8_isString 13 = .ok (.iconst 3, 1) := by decide +kernel
theorem dX8_isString_14 : decode cX8_isString 14 = .ok (.if_icmp .ne 7, 3) := by decide +kernel
theorem dX8_isString_17 : decode cX8_isString 17 = .ok (.iconst 1, 1) := by decide +kernel
theorem dX8_isString_18 : decode cX8_isString 18 = .ok (.goto 4, 3) := by decide +kernel
theorem dX8_isString_21 : decode cX8_isString 21 = .ok (.iconst 0, 1) := by decide +kernel
theorem dX8_isString_22 : decode cX8_isString 22 = .ok (.ireturn, 1) := by decide +kernel
theorem dX8_says_0 : decode cX8_says 0 = .ok (.aload_n 0, 1) := by decide +kernel
theorem dX8_says_1 : decode cX8_says 1 = .ok (.getfield 42, 3) := by decide +kernel
theorem dX8_says_4 : decode cX8_says 4 = .ok (.aload_n 0, 1) := by decide +kernel
theorem dX8_says_5 : decode cX8_says 5 = .ok (.getfield 32, 3) := by decide +kernel
theorem dX8_says_8 : decode cX8_says 8 = .ok (.iload_n 1, 1) := by decide +kernel
theorem dX8_says_9 : decode cX8_says 9 = .ok (.invokevirtual 45, 3) := by decide +kernel
theorem dX8_says_12 : decode cX8_says 12 = .ok (.aload_n 2, 1) := by decide +kernel
theorem dX8_says_13 : decode cX8_says 13 = .ok (.invokevirtual 49, 3) := by decide +kernel
theorem dX8_says_16 : decode cX8_says 16 = .ok (.ireturn, 1) := by decide +kernel
theorem dX8_member_0 : decode cX8_member 0 = .ok (.aload_n 0, 1) := by decide +kernel
theorem dX8_member_1 : decode cX8_member 1 = .ok (.getfield 26, 3) := by decide +kernel
theorem dX8_member_4 : decode cX8_member 4 = .ok (.iload_n 1, 1) := by decide +kernel
theorem dX8_member_5 : decode cX8_member 5 = .ok (.invokevirtual 45, 3) := by decide +kernel
theorem dX8_member_8 : decode cX8_member 8 = .ok (.istore_n 3, 1) := by decide +kernel
theorem dX8_member_9 : decode cX8_member 9 = .ok (.iconst 0, 1) := by decide +kernel
theorem dX8_member_10 : decode cX8_member 10 = .ok (.istore 4, 2) := by decide +kernel
theorem dX8_member_12 : decode cX8_member 12 = .ok (.iload 4, 2) := by decide +kernel
theorem dX8_member_14 : decode cX8_member 14 = .ok (.sipush 2073, 3) := by decide +kernel
theorem dX8_member_17 : decode cX8_member 17 = .ok (.if_icmp .ge 44, 3) := by decide +kernel
theorem dX8_member_20 : decode cX8_member 20 = .ok (.iload_n 3, 1) := by decide +kernel
theorem dX8_member_21 : decode cX8_member 21 = .ok (.iconst (-1), 1) := by decide +kernel
theorem dX8_member_22 : decode cX8_member 22 = .ok (.if_icmp .eq 39, 3) := by decide +kernel
theorem dX8_member_25 : decode cX8_member 25 = .ok (.aload_n 0, 1) := by decide +kernel
theorem dX8_member_26 : decode cX8_member 26 = .ok (.getfield 42, 3) := by decide +kernel
theorem dX8_member_29 : decode cX8_member 29 = .ok (.aload_n 0, 1) := by decide +kernel
theorem dX8_member_30 : decode cX8_member 30 = .ok (.getfield 35, 3) := by decide +kernel
theorem dX8_member_33 : decode cX8_member 33 = .ok (.iload_n 3, 1) := by decide +kernel
theorem dX8_member_34 : decode cX8_member 34 = .ok (.invokevirtual 45, 3) := by decide +kernel
theorem dX8_member_37 : decode cX8_member 37 = .ok (.aload_n 2, 1) := by decide +kernel
theorem dX8_member_38 : decode cX8_member 38 = .ok (.invokevirtual 49, 3) := by decide +kernel
theorem dX8_member_41 : decode cX8_member 41 = .ok (.ifCond .eq 5, 3) := by decide +kernel
theorem dX8_member_44 : decode cX8_member 44 = .ok (.iload_n 3, 1) := by decide +kernel
theorem dX8_member_45 : decode cX8_member 45 = .ok (.ireturn, 1) := by decide +kernel
theorem dX8_member_46 : decode cX8_member 46 = .ok (.aload_n 0, 1) := by decide +kernel
theorem dX8_member_47 : decode cX8_member 47 = .ok (.getfield 23, 3) := by decide +kernel
theorem dX8_member_50 : decode cX8_member 50 = .ok (.iload_n 3, 1) := by decide +kernel
theorem dX8_member_51 : decode cX8_member 51 = .ok (.invokevirtual 45, 3) := by decide +kernel
theorem dX8_member_54 : decode cX8_member 54 = .ok (.istore_n 3, 1) := by decide +kernel
theorem dX8_member_55 : decode cX8_member 55 = .ok (.iinc 4 1, 3) := by decide +kernel
theorem dX8_member_58 : decode cX8_member 58 = .ok (.goto (-46), 3) := by decide +kernel
theorem dX8_member_61 : decode cX8_member 61 = .ok (.iconst (-1), 1) := by decide +kernel
theorem dX8_member_62 : decode cX8_member 62 = .ok (.ireturn, 1) := by decide +kernel
theorem dX8_memberNamed_0 : decode cX8_memberNamed 0 = .ok (.aload_n 0, 1) := by decide +kernel
theorem dX8_memberNamed_1 : decode cX8_memberNamed 1 = .ok (.getfield 26, 3) := by decide +kernel
theorem dX8_memberNamed_4 : decode cX8_memberNamed 4 = .ok (.iload_n 1, 1) := by decide +kernel
theorem dX8_memberNamed_5 : decode cX8_memberNamed 5 = .ok (.invokevirtual 45, 3) := by decide +kernel
theorem dX8_memberNamed_8 : decode cX8_memberNamed 8 = .ok (.istore 4, 2) := by decide +kernel
theorem dX8_memberNamed_10 : decode cX8_memberNamed 10 = .ok (.iconst 0, 1) := by decide +kernel
theorem dX8_memberNamed_11 : decode cX8_memberNamed 11 = .ok (.istore 5, 2) := by decide +kernel
theorem dX8_memberNamed_13 : decode cX8_memberNamed 13 = .ok (.iload 5, 2) := by decide +kernel
theorem dX8_memberNamed_15 : decode cX8_memberNamed 15 = .ok (.sipush 2073, 3) := by decide +kernel
theorem dX8_memberNamed_18 : decode cX8_memberNamed 18 = .ok (.if_icmp .ge 50, 3) := by decide +kernel
theorem dX8_memberNamed_21 : decode cX8_memberNamed 21 = .ok (.iload 4, 2) := by decide +kernel
theorem dX8_memberNamed_23 : decode cX8_memberNamed 23 = .ok (.iconst (-1), 1) := by decide +kernel
theorem dX8_memberNamed_24 : decode cX8_memberNamed 24 = .ok (.if_icmp .eq 44, 3) := by decide +kernel
theorem dX8_memberNamed_27 : decode cX8_memberNamed 27 = .ok (.aload_n 0, 1) := by decide +kernel
theorem dX8_memberNamed_28 : decode cX8_memberNamed 28 = .ok (.getfield 42, 3) := by decide +kernel
theorem dX8_memberNamed_31 : decode cX8_memberNamed 31 = .ok (.aload_n 0, 1) := by decide +kernel
theorem dX8_memberNamed_32 : decode cX8_memberNamed 32 = .ok (.getfield 35, 3) := by decide +kernel
theorem dX8_memberNamed_35 : decode cX8_memberNamed 35 = .ok (.iload 4, 2) := by decide +kernel
theorem dX8_memberNamed_37 : decode cX8_memberNamed 37 = .ok (.invokevirtual 45, 3) := by decide +kernel
theorem dX8_memberNamed_40 : decode cX8_memberNamed 40 = .ok (.aload_n 2, 1) := by decide +kernel
theorem dX8_memberNamed_41 : decode cX8_memberNamed 41 = .ok (.iload_n 3, 1) := by decide +kernel
theorem dX8_memberNamed_42 : decode cX8_memberNamed 42 = .ok (.invokevirtual 53, 3) := by decide +kernel
theorem dX8_memberNamed_45 : decode cX8_memberNamed 45 = .ok (.ifCond .eq 6, 3) := by decide +kernel
theorem dX8_memberNamed_48 : decode cX8_memberNamed 48 = .ok (.iload 4, 2) := by decide +kernel
theorem dX8_memberNamed_50 : decode cX8_memberNamed 50 = .ok (.ireturn, 1) := by decide +kernel
theorem dX8_memberNamed_51 : decode cX8_memberNamed 51 = .ok (.aload_n 0, 1) := by decide +kernel
theorem dX8_memberNamed_52 : decode cX8_memberNamed 52 = .ok (.getfield 23, 3) := by decide +kernel
theorem dX8_memberNamed_55 : decode cX8_memberNamed 55 = .ok (.iload 4, 2) := by decide +kernel
theorem dX8_memberNamed_57 : decode cX8_memberNamed 57 = .ok (.invokevirtual 45, 3) := by decide +kernel
theorem dX8_memberNamed_60 : decode cX8_memberNamed 60 = .ok (.istore 4, 2) := by decide +kernel
theorem dX8_memberNamed_62 : decode cX8_memberNamed 62 = .ok (.iinc 5 1, 3) := by decide +kernel
theorem dX8_memberNamed_65 : decode cX8_memberNamed 65 = .ok (.goto (-52), 3) := by decide +kernel
theorem dX8_memberNamed_68 : decode cX8_memberNamed 68 = .ok (.iconst (-1), 1) := by decide +kernel
theorem dX8_memberNamed_69 : decode cX8_memberNamed 69 = .ok (.ireturn, 1) := by decide +kernel
theorem dX8_parse_0 : decode cX8_parse 0 = .ok (.aload_n 1, 1) := by decide +kernel
theorem dX8_parse_1 : decode cX8_parse 1 = .ok (.ifnonnull 5, 3) := by decide +kernel
theorem dX8_parse_4 : decode cX8_parse 4 = .ok (.iconst 0, 1) := by decide +kernel
theorem dX8_parse_5 : decode cX8_parse 5 = .ok (.ireturn, 1) := by decide +kernel
theorem dX8_parse_6 : decode cX8_parse 6 = .ok (.aload_n 0, 1) := by decide +kernel
theorem dX8_parse_7 : decode cX8_parse 7 = .ok (.aload_n 1, 1) := by decide +kernel
theorem dX8_parse_8 : decode cX8_parse 8 = .ok (.putfield 57, 3) := by decide +kernel
theorem dX8_parse_11 : decode cX8_parse 11 = .ok (.aload_n 0, 1) := by decide +kernel
theorem dX8_parse_12 : decode cX8_parse 12 = .ok (.getfield 42, 3) := by decide +kernel
theorem dX8_parse_15 : decode cX8_parse 15 = .ok (.iconst 0, 1) := by decide +kernel
theorem dX8_parse_16 : decode cX8_parse 16 = .ok (.invokevirtual 60, 3) := by decide +kernel
theorem dX8_parse_19 : decode cX8_parse 19 = .ok (.aload_n 0, 1) := by decide +kernel
theorem dX8_parse_20 : decode cX8_parse 20 = .ok (.iconst 0, 1) := by decide +kernel
theorem dX8_parse_21 : decode cX8_parse 21 = .ok (.putfield 63, 3) := by decide +kernel
theorem dX8_parse_24 : decode cX8_parse 24 = .ok (.aload_n 0, 1) := by decide +kernel
theorem dX8_parse_25 : decode cX8_parse 25 = .ok (.iconst 0, 1) := by decide +kernel
theorem dX8_parse_26 : decode cX8_parse 26 = .ok (.putfield 67, 3) := by decide +kernel
theorem dX8_parse_29 : decode cX8_parse 29 = .ok (.aload_n 0, 1) := by decide +kernel
theorem dX8_parse_30 : decode cX8_parse 30 = .ok (.iconst (-1), 1) := by decide +kernel
theorem dX8_parse_31 : decode cX8_parse 31 = .ok (.putfield 70, 3) := by decide +kernel
theorem dX8_parse_34 : decode cX8_parse 34 = .ok (.aload_n 0, 1) := by decide +kernel
theorem dX8_parse_35 : decode cX8_parse 35 = .ok (.invokevirtual 73, 3) := by decide +kernel
theorem dX8_parse_38 : decode cX8_parse 38 = .ok (.aload_n 0, 1) := by decide +kernel
theorem dX8_parse_39 : decode cX8_parse 39 = .ok (.iconst 0, 1) := by decide +kernel
theorem dX8_parse_40 : decode cX8_parse 40 = .ok (.invokevirtual 76, 3) := by decide +kernel
theorem dX8_parse_43 : decode cX8_parse 43 = .ok (.pop, 1) := by decide +kernel
theorem dX8_parse_44 : decode cX8_parse 44 = .ok (.aload_n 0, 1) := by decide +kernel
theorem dX8_parse_45 : decode cX8_parse 45 = .ok (.invokevirtual 73, 3) := by decide +kernel
theorem dX8_parse_48 : decode cX8_parse 48 = .ok (.aload_n 0, 1) := by decide +kernel
theorem dX8_parse_49 : decode cX8_parse 49 = .ok (.getfield 67, 3) := by decide +kernel
theorem dX8_parse_52 : decode cX8_parse 52 = .ok (.aload_n 0, 1) := by decide +kernel
theorem dX8_parse_53 : decode cX8_parse 53 = .ok (.getfield 57, 3) := by decide +kernel
theorem dX8_parse_56 : decode cX8_parse 56 = .ok (.invokevirtual 79, 3) := by decide +kernel
theorem dX8_parse_59 : decode cX8_parse 59 = .ok (.if_icmp .ge 11, 3) := by decide +kernel
theorem dX8_parse_62 : decode cX8_parse 62 = .ok (.aload_n 0, 1) := by decide +kernel
theorem dX8_parse_63 : decode cX8_parse 63 = .ok (.aload_n 0, 1) := by decide +kernel
theorem dX8_parse_64 : decode cX8_parse 64 = .ok (.getfield 67, 3) := by decide +kernel
theorem dX8_parse_67 : decode cX8_parse 67 = .ok (.invokevirtual 83, 3) := by decide +kernel
theorem dX8_parse_70 : decode cX8_parse 70 = .ok (.aload_n 0, 1) := by decide +kernel
theorem dX8_parse_71 : decode cX8_parse 71 = .ok (.getfield 70, 3) := by decide +kernel
theorem dX8_parse_74 : decode cX8_parse 74 = .ok (.ireturn, 1) := by decide +kernel
theorem dX8_fail_0 : decode cX8_fail 0 = .ok (.aload_n 0, 1) := by decide +kernel
theorem dX8_fail_1 : decode cX8_fail 1 = .ok (.getfield 70, 3) := by decide +kernel
theorem dX8_fail_4 : decode cX8_fail 4 = .ok (.iconst (-1), 1) := by decide +kernel
theorem dX8_fail_5 : decode cX8_fail 5 = .ok (.if_icmp .ne 8, 3) := by decide +kernel
theorem dX8_fail_8 : decode cX8_fail 8 = .ok (.aload_n 0, 1) := by decide +kernel
theorem dX8_fail_9 : decode cX8_fail 9 = .ok (.iload_n 1, 1) := by decide +kernel
theorem dX8_fail_10 : decode cX8_fail 10 = .ok (.putfield 70, 3) := by decide +kernel
theorem dX8_fail_13 : decode cX8_fail 13 = .ok (.return_, 1) := by decide +kernel
theorem dX8_skipBlanks_0 : decode cX8_skipBlanks 0 = .ok (.iconst 0, 1) := by decide +kernel
theorem dX8_skipBlanks_1 : decode cX8_skipBlanks 1 = .ok (.istore_n 1, 1) := by decide +kernel
theorem dX8_skipBlanks_2 : decode cX8_skipBlanks 2 = .ok (.iload_n 1, 1) := by decide +kernel
theorem dX8_skipBlanks_3 : decode cX8_skipBlanks 3 = .ok (.sipush 4096, 3) := by decide +kernel
theorem dX8_skipBlanks_6 : decode cX8_skipBlanks 6 = .ok (.if_icmp .ge 56, 3) := by decide +kernel
theorem dX8_skipBlanks_9 : decode cX8_skipBlanks 9 = .ok (.aload_n 0, 1) := by decide +kernel
theorem dX8_skipBlanks_10 : decode cX8_skipBlanks 10 = .ok (.getfield 57, 3) := by decide +kernel
theorem dX8_skipBlanks_13 : decode cX8_skipBlanks 13 = .ok (.aload_n 0, 1) := by decide +kernel
theorem dX8_skipBlanks_14 : decode cX8_skipBlanks 14 = .ok (.getfield 67, 3) := by decide +kernel
theorem dX8_skipBlanks_17 : decode cX8_skipBlanks 17 = .ok (.invokevirtual 86, 3) := by decide +kernel
theorem dX8_skipBlanks_20 : decode cX8_skipBlanks 20 = .ok (.istore_n 2, 1) := by decide +kernel
theorem dX8_skipBlanks_21 : decode cX8_skipBlanks 21 = .ok (.iload_n 2, 1) := by decide +kernel
theorem dX8_skipBlanks_22 : decode cX8_skipBlanks 22 = .ok (.bipush 9, 2) := by decide +kernel
theorem dX8_skipBlanks_24 : decode cX8_skipBlanks 24 = .ok (.if_icmp .eq 22, 3) := by decide +kernel
theorem dX8_skipBlanks_27 : decode cX8_skipBlanks 27 = .ok (.iload_n 2, 1) := by decide +kernel
theorem dX8_skipBlanks_28 : decode cX8_skipBlanks 28 = .ok (.bipush 10, 2) := by decide +kernel
theorem dX8_skipBlanks_30 : decode cX8_skipBlanks 30 = .ok (.if_icmp .eq 16, 3) := by decide +kernel
theorem dX8_skipBlanks_33 : decode cX8_skipBlanks 33 = .ok (.iload_n 2, 1) := by decide +kernel
theorem dX8_skipBlanks_34 : decode cX8_skipBlanks 34 = .ok (.bipush 13, 2) := by decide +kernel
theorem dX8_skipBlanks_36 : decode cX8_skipBlanks 36 = .ok (.if_icmp .eq 10, 3) := by decide +kernel
theorem dX8_skipBlanks_39 : decode cX8_skipBlanks 39 = .ok (.iload_n 2, 1) := by decide +kernel
theorem dX8_skipBlanks_40 : decode cX8_skipBlanks 40 = .ok (.bipush 32, 2) := by decide +kernel
theorem dX8_skipBlanks_42 : decode cX8_skipBlanks 42 = .ok (.if_icmp .eq 4, 3) := by decide +kernel
theorem dX8_skipBlanks_45 : decode cX8_skipBlanks 45 = .ok (.return_, 1) := by decide +kernel
theorem dX8_skipBlanks_46 : decode cX8_skipBlanks 46 = .ok (.aload_n 0, 1) := by decide +kernel
theorem dX8_skipBlanks_47 : decode cX8_skipBlanks 47 = .ok (.dup, 1) := by decide +kernel
theorem dX8_skipBlanks_48 : decode cX8_skipBlanks 48 = .ok (.getfield 67, 3) := by decide +kernel
theorem dX8_skipBlanks_51 : decode cX8_skipBlanks 51 = .ok (.iconst 1, 1) := by decide +kernel
theorem dX8_skipBlanks_52 : decode cX8_skipBlanks 52 = .ok (.iadd, 1) := by decide +kernel
theorem dX8_skipBlanks_53 : decode cX8_skipBlanks 53 = .ok (.putfield 67, 3) := by decide +kernel
theorem dX8_skipBlanks_56 : decode cX8_skipBlanks 56 = .ok (.iinc 1 1, 3) := by decide +kernel
theorem dX8_skipBlanks_59 : decode cX8_skipBlanks 59 = .ok (.goto (-57), 3) := by decide +kernel
theorem dX8_skipBlanks_62 : decode cX8_skipBlanks 62 = .ok (.return_, 1) := by decide +kernel
theorem dX8_parseValue_0 : decode cX8_parseValue 0 = .ok (.aload_n 0, 1) := by decide +kernel
theorem dX8_parseValue_1 : decode cX8_parseValue 1 = .ok (.getfield 63, 3) := by decide +kernel
theorem dX8_parseValue_4 : decode cX8_parseValue 4 = .ok (.istore_n 2, 1) := by decide +kernel
theorem dX8_parseValue_5 : decode cX8_parseValue 5 = .ok (.aload_n 0, 1) := by decide +kernel
theorem dX8_parseValue_6 : decode cX8_parseValue 6 = .ok (.dup, 1) := by decide +kernel
theorem dX8_parseValue_7 : decode cX8_parseValue 7 = .ok (.getfield 63, 3) := by decide +kernel
theorem dX8_parseValue_10 : decode cX8_parseValue 10 = .ok (.iconst 1, 1) := by decide +kernel
theorem dX8_parseValue_11 : decode cX8_parseValue 11 = .ok (.iadd, 1) := by decide +kernel
theorem dX8_parseValue_12 : decode cX8_parseValue 12 = .ok (.putfield 63, 3) := by decide +kernel
theorem dX8_parseValue_15 : decode cX8_parseValue 15 = .ok (.aload_n 0, 1) := by decide +kernel
theorem dX8_parseValue_16 : decode cX8_parseValue 16 = .ok (.getfield 20, 3) := by decide +kernel
theorem dX8_parseValue_19 : decode cX8_parseValue 19 = .ok (.iload_n 2, 1) := by decide +kernel
theorem dX8_parseValue_20 : decode cX8_parseValue 20 = .ok (.aload_n 0, 1) := by decide +kernel
theorem dX8_parseValue_21 : decode cX8_parseValue 21 = .ok (.getfield 67, 3) := by decide +kernel
theorem dX8_parseValue_24 : decode cX8_parseValue 24 = .ok (.invokevirtual 89, 3) := by decide +kernel
theorem dX8_parseValue_27 : decode cX8_parseValue 27 = .ok (.aload_n 0, 1) := by decide +kernel
theorem dX8_parseValue_28 : decode cX8_parseValue 28 = .ok (.getfield 23, 3) := by decide +kernel
theorem dX8_parseValue_31 : decode cX8_parseValue 31 = .ok (.iload_n 2, 1) := by decide +kernel
theorem dX8_parseValue_32 : decode cX8_parseValue 32 = .ok (.iconst (-1), 1) := by decide +kernel
theorem dX8_parseValue_33 : decode cX8_parseValue 33 = .ok (.invokevirtual 89, 3) := by decide +kernel
theorem dX8_parseValue_36 : decode cX8_parseValue 36 = .ok (.aload_n 0, 1) := by decide +kernel
theorem dX8_parseValue_37 : decode cX8_parseValue 37 = .ok (.getfield 26, 3) := by decide +kernel
theorem dX8_parseValue_40 : decode cX8_parseValue 40 = .ok (.iload_n 2, 1) := by decide +kernel
theorem dX8_parseValue_41 : decode cX8_parseValue 41 = .ok (.iconst (-1), 1) := by decide +kernel
theorem dX8_parseValue_42 : decode cX8_parseValue 42 = .ok (.invokevirtual 89, 3) := by decide +kernel
theorem dX8_parseValue_45 : decode cX8_parseValue 45 = .ok (.aload_n 0, 1) := by decide +kernel
theorem dX8_parseValue_46 : decode cX8_parseValue 46 = .ok (.getfield 29, 3) := by decide +kernel
theorem dX8_parseValue_49 : decode cX8_parseValue 49 = .ok (.iload_n 2, 1) := by decide +kernel
theorem dX8_parseValue_50 : decode cX8_parseValue 50 = .ok (.iconst 0, 1) := by decide +kernel
theorem dX8_parseValue_51 : decode cX8_parseValue 51 = .ok (.invokevirtual 89, 3) := by decide +kernel
theorem dX8_parseValue_54 : decode cX8_parseValue 54 = .ok (.aload_n 0, 1) := by decide +kernel
theorem dX8_parseValue_55 : decode cX8_parseValue 55 = .ok (.getfield 57, 3) := by decide +kernel
theorem dX8_parseValue_58 : decode cX8_parseValue 58 = .ok (.aload_n 0, 1) := by decide +kernel
theorem dX8_parseValue_59 : decode cX8_parseValue 59 = .ok (.getfield 67, 3) := by decide +kernel
theorem dX8_parseValue_62 : decode cX8_parseValue 62 = .ok (.invokevirtual 86, 3) := by decide +kernel
theorem dX8_parseValue_65 : decode cX8_parseValue 65 = .ok (.istore_n 3, 1) := by decide +kernel
theorem dX8_parseValue_66 : decode cX8_parseValue 66 = .ok (.iload_n 3, 1) := by decide +kernel
theorem dX8_parseValue_67 : decode cX8_parseValue 67 = .ok (.bipush 123, 2) := by decide +kernel
theorem dX8_parseValue_69 : decode cX8_parseValue 69 = .ok (.if_icmp .ne 23, 3) := by decide +kernel
theorem dX8_parseValue_72 : decode cX8_parseValue 72 = .ok (.aload_n 0, 1) := by decide +kernel
theorem dX8_parseValue_73 : decode cX8_parseValue 73 = .ok (.getfield 16, 3) := by decide +kernel
theorem dX8_parseValue_76 : decode cX8_parseValue 76 = .ok (.iload_n 2, 1) := by decide +kernel
theorem dX8_parseValue_77 : decode cX8_parseValue 77 = .ok (.iconst 1, 1) := by decide +kernel
theorem dX8_parseValue_78 : decode cX8_parseValue 78 = .ok (.invokevirtual 89, 3) := by decide +kernel
theorem dX8_parseValue_81 : decode cX8_parseValue 81 = .ok (.aload_n 0, 1) := by decide +kernel
theorem dX8_parseValue_82 : decode cX8_parseValue 82 = .ok (.iload_n 2, 1) := by decide +kernel
theorem dX8_parseValue_83 : decode cX8_parseValue 83 = .ok (.bipush 125, 2) := by decide +kernel
theorem dX8_parseValue_85 : decode cX8_parseValue 85 = .ok (.iload_n 1, 1) := by decide +kernel
theorem dX8_parseValue_86 : decode cX8_parseValue 86 = .ok (.invokevirtual 93, 3) := by decide +kernel
theorem dX8_parseValue_89 : decode cX8_parseValue 89 = .ok (.goto 126, 3) := by decide +kernel
theorem dX8_parseValue_92 : decode cX8_parseValue 92 = .ok (.iload_n 3, 1) := by decide +kernel
theorem dX8_parseValue_93 : decode cX8_parseValue 93 = .ok (.bipush 91, 2) := by decide +kernel
theorem dX8_parseValue_95 : decode cX8_parseValue 95 = .ok (.if_icmp .ne 23, 3) := by decide +kernel
theorem dX8_parseValue_98 : decode cX8_parseValue 98 = .ok (.aload_n 0, 1) := by decide +kernel
theorem dX8_parseValue_99 : decode cX8_parseValue 99 = .ok (.getfield 16, 3) := by decide +kernel
theorem dX8_parseValue_102 : decode cX8_parseValue 102 = .ok (.iload_n 2, 1) := by decide +kernel
theorem dX8_parseValue_103 : decode cX8_parseValue 103 = .ok (.iconst 2, 1) := by decide +kernel
theorem dX8_parseValue_104 : decode cX8_parseValue 104 = .ok (.invokevirtual 89, 3) := by decide +kernel
theorem dX8_parseValue_107 : decode cX8_parseValue 107 = .ok (.aload_n 0, 1) := by decide +kernel
theorem dX8_parseValue_108 : decode cX8_parseValue 108 = .ok (.iload_n 2, 1) := by decide +kernel
theorem dX8_parseValue_109 : decode cX8_parseValue 109 = .ok (.bipush 93, 2) := by decide +kernel
theorem dX8_parseValue_111 : decode cX8_parseValue 111 = .ok (.iload_n 1, 1) := by decide +kernel
theorem dX8_parseValue_112 : decode cX8_parseValue 112 = .ok (.invokevirtual 93, 3) := by decide +kernel
theorem dX8_parseValue_115 : decode cX8_parseValue 115 = .ok (.goto 100, 3) := by decide +kernel
theorem dX8_parseValue_118 : decode cX8_parseValue 118 = .ok (.iload_n 3, 1) := by decide +kernel
theorem dX8_parseValue_119 : decode cX8_parseValue 119 = .ok (.bipush 34, 2) := by decide +kernel
theorem dX8_parseValue_121 : decode cX8_parseValue 121 = .ok (.if_icmp .ne 27, 3) := by decide +kernel
theorem dX8_parseValue_124 : decode cX8_parseValue 124 = .ok (.aload_n 0, 1) := by decide +kernel
theorem dX8_parseValue_125 : decode cX8_parseValue 125 = .ok (.getfield 16, 3) := by decide +kernel
theorem dX8_parseValue_128 : decode cX8_parseValue 128 = .ok (.iload_n 2, 1) := by decide +kernel
theorem dX8_parseValue_129 : decode cX8_parseValue 129 = .ok (.iconst 3, 1) := by decide +kernel
theorem dX8_parseValue_130 : decode cX8_parseValue 130 = .ok (.invokevirtual 89, 3) := by decide +kernel
theorem dX8_parseValue_133 : decode cX8_parseValue 133 = .ok (.aload_n 0, 1) := by decide +kernel
theorem dX8_parseValue_134 : decode cX8_parseValue 134 = .ok (.getfield 32, 3) := by decide +kernel
theorem dX8_parseValue_137 : decode cX8_parseValue 137 = .ok (.iload_n 2, 1) := by decide +kernel
theorem dX8_parseValue_138 : decode cX8_parseValue 138 = .ok (.aload_n 0, 1) := by decide +kernel
theorem dX8_parseValue_139 : decode cX8_parseValue 139 = .ok (.invokevirtual 97, 3) := by decide +kernel
theorem dX8_parseValue_142 : decode cX8_parseValue 142 = .ok (.invokevirtual 89, 3) := by decide +kernel
theorem dX8_parseValue_145 : decode cX8_parseValue 145 = .ok (.goto 70, 3) := by decide +kernel
theorem dX8_parseValue_148 : decode cX8_parseValue 148 = .ok (.iload_n 3, 1) := by decide +kernel
theorem dX8_parseValue_149 : decode cX8_parseValue 149 = .ok (.bipush 116, 2) := by decide +kernel
theorem dX8_parseValue_151 : decode cX8_parseValue 151 = .ok (.if_icmp .ne 14, 3) := by decide +kernel
theorem dX8_parseValue_154 : decode cX8_parseValue 154 = .ok (.aload_n 0, 1) := by decide +kernel
theorem dX8_parseValue_155 : decode cX8_parseValue 155 = .ok (.iload_n 2, 1) := by decide +kernel
theorem dX8_parseValue_156 : decode cX8_parseValue 156 = .ok (.iconst 5, 1) := by decide +kernel
theorem dX8_parseValue_157 : decode cX8_parseValue 157 = .ok (.ldc 100, 2) := by decide +kernel
theorem dX8_parseValue_159 : decode cX8_parseValue 159 = .ok (.invokevirtual 102, 3) := by decide +kernel
theorem dX8_parseValue_162 : decode cX8_parseValue 162 = .ok (.goto 53, 3) := by decide +kernel
theorem dX8_parseValue_165 : decode cX8_parseValue 165 = .ok (.iload_n 3, 1) := by decide +kernel
theorem dX8_parseValue_166 : decode cX8_parseValue 166 = .ok (.bipush 102, 2) := by decide +kernel
theorem dX8_parseValue_168 : decode cX8_parseValue 168 = .ok (.if_icmp .ne 15, 3) := by decide +kernel
theorem dX8_parseValue_171 : decode cX8_parseValue 171 = .ok (.aload_n 0, 1) := by decide +kernel
theorem dX8_parseValue_172 : decode cX8_parseValue 172 = .ok (.iload_n 2, 1) := by decide +kernel
theorem dX8_parseValue_173 : decode cX8_parseValue 173 = .ok (.bipush 6, 2) := by decide +kernel
theorem dX8_parseValue_175 : decode cX8_parseValue 175 = .ok (.ldc 106, 2) := by decide +kernel
theorem dX8_parseValue_177 : decode cX8_parseValue 177 = .ok (.invokevirtual 102, 3) := by decide +kernel
theorem dX8_parseValue_180 : decode cX8_parseValue 180 = .ok (.goto 35, 3) := by decide +kernel
theorem dX8_parseValue_183 : decode cX8_parseValue 183 = .ok (.iload_n 3, 1) := by decide +kernel
theorem dX8_parseValue_184 : decode cX8_parseValue 184 = .ok (.bipush 110, 2) := by decide +kernel
theorem dX8_parseValue_186 : decode cX8_parseValue 186 = .ok (.if_icmp .ne 15, 3) := by decide +kernel
theorem dX8_parseValue_189 : decode cX8_parseValue 189 = .ok (.aload_n 0, 1) := by decide +kernel
theorem dX8_parseValue_190 : decode cX8_parseValue 190 = .ok (.iload_n 2, 1) := by decide +kernel
theorem dX8_parseValue_191 : decode cX8_parseValue 191 = .ok (.bipush 7, 2) := by decide +kernel
theorem dX8_parseValue_193 : decode cX8_parseValue 193 = .ok (.ldc 108, 2) := by decide +kernel
theorem dX8_parseValue_195 : decode cX8_parseValue 195 = .ok (.invokevirtual 102, 3) := by decide +kernel
theorem dX8_parseValue_198 : decode cX8_parseValue 198 = .ok (.goto 17, 3) := by decide +kernel
theorem dX8_parseValue_201 : decode cX8_parseValue 201 = .ok (.aload_n 0, 1) := by decide +kernel
theorem dX8_parseValue_202 : decode cX8_parseValue 202 = .ok (.getfield 16, 3) := by decide +kernel
theorem dX8_parseValue_205 : decode cX8_parseValue 205 = .ok (.iload_n 2, 1) := by decide +kernel
theorem dX8_parseValue_206 : decode cX8_parseValue 206 = .ok (.iconst 4, 1) := by decide +kernel
theorem dX8_parseValue_207 : decode cX8_parseValue 207 = .ok (.invokevirtual 89, 3) := by decide +kernel
theorem dX8_parseValue_210 : decode cX8_parseValue 210 = .ok (.aload_n 0, 1) := by decide +kernel
theorem dX8_parseValue_211 : decode cX8_parseValue 211 = .ok (.iload_n 2, 1) := by decide +kernel
theorem dX8_parseValue_212 : decode cX8_parseValue 212 = .ok (.invokevirtual 110, 3) := by decide +kernel
theorem dX8_parseValue_215 : decode cX8_parseValue 215 = .ok (.iload_n 2, 1) := by decide +kernel
theorem dX8_parseValue_216 : decode cX8_parseValue 216 = .ok (.ireturn, 1) := by decide +kernel
theorem dX8_parseParts_0 : decode cX8_parseParts 0 = .ok (.iload_n 3, 1) := by decide +kernel
theorem dX8_parseParts_1 : decode cX8_parseParts 1 = .ok (.bipush 24, 2) := by decide +kernel
theorem dX8_parseParts_3 : decode cX8_parseParts 3 = .ok (.if_icmp .lt 12, 3) := by decide +kernel
theorem dX8_parseParts_6 : decode cX8_parseParts 6 = .ok (.aload_n 0, 1) := by decide +kernel
theorem dX8_parseParts_7 : decode cX8_parseParts 7 = .ok (.aload_n 0, 1) := by decide +kernel
theorem dX8_parseParts_8 : decode cX8_parseParts 8 = .ok (.getfield 67, 3) := by decide +kernel
theorem dX8_parseParts_11 : decode cX8_parseParts 11 = .ok (.invokevirtual 83, 3) := by decide +kernel
theorem dX8_parseParts_14 : decode cX8_parseParts 14 = .ok (.return_, 1) := by decide +kernel
theorem dX8_parseParts_15 : decode cX8_parseParts 15 = .ok (.aload_n 0, 1) := by decide +kernel
theorem dX8_parseParts_16 : decode cX8_parseParts 16 = .ok (.dup, 1) := by decide +kernel
theorem dX8_parseParts_17 : decode cX8_parseParts 17 = .ok (.getfield 67, 3) := by decide +kernel
theorem dX8_parseParts_20 : decode cX8_parseParts 20 = .ok (.iconst 1, 1) := by decide +kernel
theorem dX8_parseParts_21 : decode cX8_parseParts 21 = .ok (.iadd, 1) := by decide +kernel
theorem dX8_parseParts_22 : decode cX8_parseParts 22 = .ok (.putfield 67, 3) := by decide +kernel
theorem dX8_parseParts_25 : decode cX8_parseParts 25 = .ok (.aload_n 0, 1) := by decide +kernel
theorem dX8_parseParts_26 : decode cX8_parseParts 26 = .ok (.invokevirtual 73, 3) := by decide +kernel
theorem dX8_parseParts_29 : decode cX8_parseParts 29 = .ok (.aload_n 0, 1) := by decide +kernel
theorem dX8_parseParts_30 : decode cX8_parseParts 30 = .ok (.getfield 57, 3) := by decide +kernel
theorem dX8_parseParts_33 : decode cX8_parseParts 33 = .ok (.aload_n 0, 1) := by decide +kernel
theorem dX8_parseParts_34 : decode cX8_parseParts 34 = .ok (.getfield 67, 3) := by decide +kernel
theorem dX8_parseParts_37 : decode cX8_parseParts 37 = .ok (.invokevirtual 86, 3) := by decide +kernel
theorem dX8_parseParts_40 : decode cX8_parseParts 40 = .ok (.iload_n 2, 1) := by decide +kernel
theorem dX8_parseParts_41 : decode cX8_parseParts 41 = .ok (.if_icmp .ne 14, 3) := by decide +kernel
theorem dX8_parseParts_44 : decode cX8_parseParts 44 = .ok (.aload_n 0, 1) := by decide +kernel
theorem dX8_parseParts_45 : decode cX8_parseParts 45 = .ok (.dup, 1) := by decide +kernel
theorem dX8_parseParts_46 : decode cX8_parseParts 46 = .ok (.getfield 67, 3) := by decide +kernel
theorem dX8_parseParts_49 : decode cX8_parseParts 49 = .ok (.iconst 1, 1) := by decide +kernel
theorem dX8_parseParts_50 : decode cX8_parseParts 50 = .ok (.iadd, 1) := by decide +kernel
theorem dX8_parseParts_51 : decode cX8_parseParts 51 = .ok (.putfield 67, 3) := by decide +kernel
theorem dX8_parseParts_54 : decode cX8_parseParts 54 = .ok (.return_, 1) := by decide +kernel
theorem dX8_parseParts_55 : decode cX8_parseParts 55 = .ok (.iconst (-1), 1) := by decide +kernel
theorem dX8_parseParts_56 : decode cX8_parseParts 56 = .ok (.istore 4, 2) := by decide +kernel
theorem dX8_parseParts_58 : decode cX8_parseParts 58 = .ok (.iconst 0, 1) := by decide +kernel
theorem dX8_parseParts_59 : decode cX8_parseParts 59 = .ok (.istore 5, 2) := by decide +kernel
theorem dX8_parseParts_61 : decode cX8_parseParts 61 = .ok (.iload 5, 2) := by decide +kernel
theorem dX8_parseParts_63 : decode cX8_parseParts 63 = .ok (.sipush 4096, 3) := by decide +kernel
theorem dX8_parseParts_66 : decode cX8_parseParts 66 = .ok (.if_icmp .ge 119, 3) := by decide +kernel
theorem dX8_parseParts_69 : decode cX8_parseParts 69 = .ok (.aload_n 0, 1) := by decide +kernel
theorem dX8_parseParts_70 : decode cX8_parseParts 70 = .ok (.getfield 70, 3) := by decide +kernel
theorem dX8_parseParts_73 : decode cX8_parseParts 73 = .ok (.iconst (-1), 1) := by decide +kernel
theorem dX8_parseParts_74 : decode cX8_parseParts 74 = .ok (.if_icmp .ne 111, 3) := by decide +kernel
theorem dX8_parseParts_77 : decode cX8_parseParts 77 = .ok (.aload_n 0, 1) := by decide +kernel
theorem dX8_parseParts_78 : decode cX8_parseParts 78 = .ok (.getfield 16, 3) := by decide +kernel
theorem dX8_parseParts_81 : decode cX8_parseParts 81 = .ok (.iload_n 1, 1) := by decide +kernel
theorem dX8_parseParts_82 : decode cX8_parseParts 82 = .ok (.invokevirtual 45, 3) := by decide +kernel
theorem dX8_parseParts_85 : decode cX8_parseParts 85 = .ok (.iconst 1, 1) := by decide +kernel
theorem dX8_parseParts_86 : decode cX8_parseParts 86 = .ok (.if_icmp .ne 8, 3) := by decide +kernel
theorem dX8_parseParts_89 : decode cX8_parseParts 89 = .ok (.aload_n 0, 1) := by decide +kernel
theorem dX8_parseParts_90 : decode cX8_parseParts 90 = .ok (.iload_n 1, 1) := by decide +kernel
theorem dX8_parseParts_91 : decode cX8_parseParts 91 = .ok (.invokevirtual 113, 3) := by decide +kernel
theorem dX8_parseParts_94 : decode cX8_parseParts 94 = .ok (.aload_n 0, 1) := by decide +kernel
theorem dX8_parseParts_95 : decode cX8_parseParts 95 = .ok (.getfield 70, 3) := by decide +kernel
theorem dX8_parseParts_98 : decode cX8_parseParts 98 = .ok (.iconst (-1), 1) := by decide +kernel
theorem dX8_parseParts_99 : decode cX8_parseParts 99 = .ok (.if_icmp .eq 4, 3) := by decide +kernel
theorem dX8_parseParts_102 : decode cX8_parseParts 102 = .ok (.return_, 1) := by decide +kernel
theorem dX8_parseParts_103 : decode cX8_parseParts 103 = .ok (.aload_n 0, 1) := by decide +kernel
theorem dX8_parseParts_104 : decode cX8_parseParts 104 = .ok (.iload_n 1, 1) := by decide +kernel
theorem dX8_parseParts_105 : decode cX8_parseParts 105 = .ok (.iload 4, 2) := by decide +kernel
theorem dX8_parseParts_107 : decode cX8_parseParts 107 = .ok (.aload_n 0, 1) := by decide +kernel
theorem dX8_parseParts_108 : decode cX8_parseParts 108 = .ok (.iload_n 3, 1) := by decide +kernel
theorem dX8_parseParts_109 : decode cX8_parseParts 109 = .ok (.iconst 1, 1) := by decide +kernel
theorem dX8_parseParts_110 : decode cX8_parseParts 110 = .ok (.iadd, 1) := by decide +kernel
theorem dX8_parseParts_111 : decode cX8_parseParts 111 = .ok (.invokevirtual 76, 3) := by decide +kernel
theorem dX8_parseParts_114 : decode cX8_parseParts 114 = .ok (.invokevirtual 116, 3) := by decide +kernel
theorem dX8_parseParts_117 : decode cX8_parseParts 117 = .ok (.istore 4, 2) := by decide +kernel
theorem dX8_parseParts_119 : decode cX8_parseParts 119 = .ok (.aload_n 0, 1) := by decide +kernel
theorem dX8_parseParts_120 : decode cX8_parseParts 120 = .ok (.invokevirtual 73, 3) := by decide +kernel
theorem dX8_parseParts_123 : decode cX8_parseParts 123 = .ok (.aload_n 0, 1) := by decide +kernel
theorem dX8_parseParts_124 : decode cX8_parseParts 124 = .ok (.getfield 57, 3) := by decide +kernel
theorem dX8_parseParts_127 : decode cX8_parseParts 127 = .ok (.aload_n 0, 1) := by decide +kernel
theorem dX8_parseParts_128 : decode cX8_parseParts 128 = .ok (.getfield 67, 3) := by decide +kernel
theorem dX8_parseParts_131 : decode cX8_parseParts 131 = .ok (.invokevirtual 86, 3) := by decide +kernel
theorem dX8_parseParts_134 : decode cX8_parseParts 134 = .ok (.istore 6, 2) := by decide +kernel
theorem dX8_parseParts_136 : decode cX8_parseParts 136 = .ok (.iload 6, 2) := by decide +kernel
theorem dX8_parseParts_138 : decode cX8_parseParts 138 = .ok (.bipush 44, 2) := by decide +kernel
theorem dX8_parseParts_140 : decode cX8_parseParts 140 = .ok (.if_icmp .eq 18, 3) := by decide +kernel
theorem dX8_parseParts_143 : decode cX8_parseParts 143 = .ok (.iload 6, 2) := by decide +kernel
theorem dX8_parseParts_145 : decode cX8_parseParts 145 = .ok (.iload_n 2, 1) := by decide +kernel
theorem dX8_parseParts_146 : decode cX8_parseParts 146 = .ok (.if_icmp .eq 12, 3) := by decide +kernel
theorem dX8_parseParts_149 : decode cX8_parseParts 149 = .ok (.aload_n 0, 1) := by decide +kernel
theorem dX8_parseParts_150 : decode cX8_parseParts 150 = .ok (.aload_n 0, 1) := by decide +kernel
theorem dX8_parseParts_151 : decode cX8_parseParts 151 = .ok (.getfield 67, 3) := by decide +kernel
theorem dX8_parseParts_154 : decode cX8_parseParts 154 = .ok (.invokevirtual 83, 3) := by decide +kernel
theorem dX8_parseParts_157 : decode cX8_parseParts 157 = .ok (.return_, 1) := by decide +kernel
theorem dX8_parseParts_158 : decode cX8_parseParts 158 = .ok (.aload_n 0, 1) := by decide +kernel
theorem dX8_parseParts_159 : decode cX8_parseParts 159 = .ok (.dup, 1) := by decide +kernel
theorem dX8_parseParts_160 : decode cX8_parseParts 160 = .ok (.getfield 67, 3) := by decide +kernel
theorem dX8_parseParts_163 : decode cX8_parseParts 163 = .ok (.iconst 1, 1) := by decide +kernel
theorem dX8_parseParts_164 : decode cX8_parseParts 164 = .ok (.iadd, 1) := by decide +kernel
theorem dX8_parseParts_165 : decode cX8_parseParts 165 = .ok (.putfield 67, 3) := by decide +kernel
theorem dX8_parseParts_168 : decode cX8_parseParts 168 = .ok (.iload 6, 2) := by decide +kernel
theorem dX8_parseParts_170 : decode cX8_parseParts 170 = .ok (.iload_n 2, 1) := by decide +kernel
theorem dX8_parseParts_171 : decode cX8_parseParts 171 = .ok (.if_icmp .ne 4, 3) := by decide +kernel
theorem dX8_parseParts_174 : decode cX8_parseParts 174 = .ok (.return_, 1) := by decide +kernel
theorem dX8_parseParts_175 : decode cX8_parseParts 175 = .ok (.aload_n 0, 1) := by decide +kernel
theorem dX8_parseParts_176 : decode cX8_parseParts 176 = .ok (.invokevirtual 73, 3) := by decide +kernel
theorem dX8_parseParts_179 : decode cX8_parseParts 179 = .ok (.iinc 5 1, 3) := by decide +kernel
theorem dX8_parseParts_182 : decode cX8_parseParts 182 = .ok (.goto (-121), 3) := by decide +kernel
theorem dX8_parseParts_185 : decode cX8_parseParts 185 = .ok (.return_, 1) := by decide +kernel
theorem dX8_link_0 : decode cX8_link 0 = .ok (.iload_n 2, 1) := by decide +kernel
theorem dX8_link_1 : decode cX8_link 1 = .ok (.iconst (-1), 1) := by decide +kernel
theorem dX8_link_2 : decode cX8_link 2 = .ok (.if_icmp .ne 15, 3) := by decide +kernel
theorem dX8_link_5 : decode cX8_link 5 = .ok (.aload_n 0, 1) := by decide +kernel
theorem dX8_link_6 : decode cX8_link 6 = .ok (.getfield 26, 3) := by decide +kernel
theorem dX8_link_9 : decode cX8_link 9 = .ok (.iload_n 1, 1) := by decide +kernel
theorem dX8_link_10 : decode cX8_link 10 = .ok (.iload_n 3, 1) := by decide +kernel
theorem dX8_link_11 : decode cX8_link 11 = .ok (.invokevirtual 89, 3) := by decide +kernel
theorem dX8_link_14 : decode cX8_link 14 = .ok (.goto 12, 3) := by decide +kernel
theorem dX8_link_17 : decode cX8_link 17 = .ok (.aload_n 0, 1) := by decide +kernel
theorem dX8_link_18 : decode cX8_link 18 = .ok (.getfield 23, 3) := by decide +kernel
theorem dX8_link_21 : decode cX8_link 21 = .ok (.iload_n 2, 1) := by decide +kernel
theorem dX8_link_22 : decode cX8_link 22 = .ok (.iload_n 3, 1) := by decide +kernel
theorem dX8_link_23 : decode cX8_link 23 = .ok (.invokevirtual 89, 3) := by decide +kernel
theorem dX8_link_26 : decode cX8_link 26 = .ok (.aload_n 0, 1) := by decide +kernel
theorem dX8_link_27 : decode cX8_link 27 = .ok (.getfield 29, 3) := by decide +kernel
theorem dX8_link_30 : decode cX8_link 30 = .ok (.iload_n 1, 1) := by decide +kernel
theorem dX8_link_31 : decode cX8_link 31 = .ok (.aload_n 0, 1) := by decide +kernel
theorem dX8_link_32 : decode cX8_link 32 = .ok (.getfield 29, 3) := by decide +kernel
theorem dX8_link_35 : decode cX8_link 35 = .ok (.iload_n 1, 1) := by decide +kernel
theorem dX8_link_36 : decode cX8_link 36 = .ok (.invokevirtual 45, 3) := by decide +kernel
theorem dX8_link_39 : decode cX8_link 39 = .ok (.iconst 1, 1) := by decide +kernel
theorem dX8_link_40 : decode cX8_link 40 = .ok (.iadd, 1) := by decide +kernel
theorem dX8_link_41 : decode cX8_link 41 = .ok (.invokevirtual 89, 3) := by decide +kernel
theorem dX8_link_44 : decode cX8_link 44 = .ok (.iload_n 3, 1) := by decide +kernel
theorem dX8_link_45 : decode cX8_link 45 = .ok (.ireturn, 1) := by decide +kernel
theorem dX8_parseKey_0 : decode cX8_parseKey 0 = .ok (.aload_n 0, 1) := by decide +kernel
theorem dX8_parseKey_1 : decode cX8_parseKey 1 = .ok (.getfield 57, 3) := by decide +kernel
theorem dX8_parseKey_4 : decode cX8_parseKey 4 = .ok (.aload_n 0, 1) := by decide +kernel
theorem dX8_parseKey_5 : decode cX8_parseKey 5 = .ok (.getfield 67, 3) := by decide +kernel
theorem dX8_parseKey_8 : decode cX8_parseKey 8 = .ok (.invokevirtual 86, 3) := by decide +kernel
theorem dX8_parseKey_11 : decode cX8_parseKey 11 = .ok (.bipush 34, 2) := by decide +kernel
theorem dX8_parseKey_13 : decode cX8_parseKey 13 = .ok (.if_icmp .eq 12, 3) := by decide +kernel
theorem dX8_parseKey_16 : decode cX8_parseKey 16 = .ok (.aload_n 0, 1) := by decide +kernel
theorem dX8_parseKey_17 : decode cX8_parseKey 17 = .ok (.aload_n 0, 1) := by decide +kernel
theorem dX8_parseKey_18 : decode cX8_parseKey 18 = .ok (.getfield 67, 3) := by decide +kernel
theorem dX8_parseKey_21 : decode cX8_parseKey 21 = .ok (.invokevirtual 83, 3) := by decide +kernel
theorem dX8_parseKey_24 : decode cX8_parseKey 24 = .ok (.return_, 1) := by decide +kernel
theorem dX8_parseKey_25 : decode cX8_parseKey 25 = .ok (.aload_n 0, 1) := by decide +kernel
theorem dX8_parseKey_26 : decode cX8_parseKey 26 = .ok (.getfield 67, 3) := by decide +kernel
theorem dX8_parseKey_29 : decode cX8_parseKey 29 = .ok (.istore_n 2, 1) := by decide +kernel
theorem dX8_parseKey_30 : decode cX8_parseKey 30 = .ok (.aload_n 0, 1) := by decide +kernel
theorem dX8_parseKey_31 : decode cX8_parseKey 31 = .ok (.invokevirtual 97, 3) := by decide +kernel
theorem dX8_parseKey_34 : decode cX8_parseKey 34 = .ok (.istore_n 3, 1) := by decide +kernel
theorem dX8_parseKey_35 : decode cX8_parseKey 35 = .ok (.aload_n 0, 1) := by decide +kernel
theorem dX8_parseKey_36 : decode cX8_parseKey 36 = .ok (.iload_n 1, 1) := by decide +kernel
theorem dX8_parseKey_37 : decode cX8_parseKey 37 = .ok (.aload_n 0, 1) := by decide +kernel
theorem dX8_parseKey_38 : decode cX8_parseKey 38 = .ok (.getfield 42, 3) := by decide +kernel
theorem dX8_parseKey_41 : decode cX8_parseKey 41 = .ok (.iload_n 3, 1) := by decide +kernel
theorem dX8_parseKey_42 : decode cX8_parseKey 42 = .ok (.invokevirtual 120, 3) := by decide +kernel
theorem dX8_parseKey_45 : decode cX8_parseKey 45 = .ok (.iconst (-1), 1) := by decide +kernel
theorem dX8_parseKey_46 : decode cX8_parseKey 46 = .ok (.if_icmp .eq 8, 3) := by decide +kernel
theorem dX8_parseKey_49 : decode cX8_parseKey 49 = .ok (.aload_n 0, 1) := by decide +kernel
theorem dX8_parseKey_50 : decode cX8_parseKey 50 = .ok (.iload_n 2, 1) := by decide +kernel
theorem dX8_parseKey_51 : decode cX8_parseKey 51 = .ok (.invokevirtual 83, 3) := by decide +kernel
theorem dX8_parseKey_54 : decode cX8_parseKey 54 = .ok (.aload_n 0, 1) := by decide +kernel
theorem dX8_parseKey_55 : decode cX8_parseKey 55 = .ok (.getfield 35, 3) := by decide +kernel
theorem dX8_parseKey_58 : decode cX8_parseKey 58 = .ok (.aload_n 0, 1) := by decide +kernel
theorem dX8_parseKey_59 : decode cX8_parseKey 59 = .ok (.getfield 63, 3) := by decide +kernel
theorem dX8_parseKey_62 : decode cX8_parseKey 62 = .ok (.iload_n 3, 1) := by decide +kernel
theorem dX8_parseKey_63 : decode cX8_parseKey 63 = .ok (.invokevirtual 89, 3) := by decide +kernel
theorem dX8_parseKey_66 : decode cX8_parseKey 66 = .ok (.aload_n 0, 1) := by decide +kernel
theorem dX8_parseKey_67 : decode cX8_parseKey 67 = .ok (.invokevirtual 73, 3) := by decide +kernel
theorem dX8_parseKey_70 : decode cX8_parseKey 70 = .ok (.aload_n 0, 1) := by decide +kernel
theorem dX8_parseKey_71 : decode cX8_parseKey 71 = .ok (.getfield 57, 3) := by decide +kernel
theorem dX8_parseKey_74 : decode cX8_parseKey 74 = .ok (.aload_n 0, 1) := by decide +kernel
theorem dX8_parseKey_75 : decode cX8_parseKey 75 = .ok (.getfield 67, 3) := by decide +kernel
theorem dX8_parseKey_78 : decode cX8_parseKey 78 = .ok (.invokevirtual 86, 3) := by decide +kernel
theorem dX8_parseKey_81 : decode cX8_parseKey 81 = .ok (.bipush 58, 2) := by decide +kernel
theorem dX8_parseKey_83 : decode cX8_parseKey 83 = .ok (.if_icmp .eq 12, 3) := by decide +kernel
theorem dX8_parseKey_86 : decode cX8_parseKey 86 = .ok (.aload_n 0, 1) := by decide +kernel
theorem dX8_parseKey_87 : decode cX8_parseKey 87 = .ok (.aload_n 0, 1) := by decide +kernel
theorem dX8_parseKey_88 : decode cX8_parseKey 88 = .ok (.getfield 67, 3) := by decide +kernel
theorem dX8_parseKey_91 : decode cX8_parseKey 91 = .ok (.invokevirtual 83, 3) := by decide +kernel
theorem dX8_parseKey_94 : decode cX8_parseKey 94 = .ok (.return_, 1) := by decide +kernel
theorem dX8_parseKey_95 : decode cX8_parseKey 95 = .ok (.aload_n 0, 1) := by decide +kernel
theorem dX8_parseKey_96 : decode cX8_parseKey 96 = .ok (.dup, 1) := by decide +kernel
theorem dX8_parseKey_97 : decode cX8_parseKey 97 = .ok (.getfield 67, 3) := by decide +kernel
theorem dX8_parseKey_100 : decode cX8_parseKey 100 = .ok (.iconst 1, 1) := by decide +kernel
theorem dX8_parseKey_101 : decode cX8_parseKey 101 = .ok (.iadd, 1) := by decide +kernel
theorem dX8_parseKey_102 : decode cX8_parseKey 102 = .ok (.putfield 67, 3) := by decide +kernel
theorem dX8_parseKey_105 : decode cX8_parseKey 105 = .ok (.aload_n 0, 1) := by decide +kernel
theorem dX8_parseKey_106 : decode cX8_parseKey 106 = .ok (.invokevirtual 73, 3) := by decide +kernel
theorem dX8_parseKey_109 : decode cX8_parseKey 109 = .ok (.return_, 1) := by decide +kernel
theorem dX8_parseWord_0 : decode cX8_parseWord 0 = .ok (.aload_n 0, 1) := by decide +kernel
theorem dX8_parseWord_1 : decode cX8_parseWord 1 = .ok (.getfield 16, 3) := by decide +kernel
theorem dX8_parseWord_4 : decode cX8_parseWord 4 = .ok (.iload_n 1, 1) := by decide +kernel
theorem dX8_parseWord_5 : decode cX8_parseWord 5 = .ok (.iload_n 2, 1) := by decide +kernel
theorem dX8_parseWord_6 : decode cX8_parseWord 6 = .ok (.invokevirtual 89, 3) := by decide +kernel
theorem dX8_parseWord_9 : decode cX8_parseWord 9 = .ok (.iconst 0, 1) := by decide +kernel
theorem dX8_parseWord_10 : decode cX8_parseWord 10 = .ok (.istore 4, 2) := by decide +kernel
theorem dX8_parseWord_12 : decode cX8_parseWord 12 = .ok (.iload 4, 2) := by decide +kernel
theorem dX8_parseWord_14 : decode cX8_parseWord 14 = .ok (.aload_n 3, 1) := by decide +kernel
theorem dX8_parseWord_15 : decode cX8_parseWord 15 = .ok (.invokevirtual 124, 3) := by decide +kernel
theorem dX8_parseWord_18 : decode cX8_parseWord 18 = .ok (.if_icmp .ge 48, 3) := by decide +kernel
theorem dX8_parseWord_21 : decode cX8_parseWord 21 = .ok (.aload_n 0, 1) := by decide +kernel
theorem dX8_parseWord_22 : decode cX8_parseWord 22 = .ok (.getfield 57, 3) := by decide +kernel
theorem dX8_parseWord_25 : decode cX8_parseWord 25 = .ok (.aload_n 0, 1) := by decide +kernel
theorem dX8_parseWord_26 : decode cX8_parseWord 26 = .ok (.getfield 67, 3) := by decide +kernel
theorem dX8_parseWord_29 : decode cX8_parseWord 29 = .ok (.invokevirtual 86, 3) := by decide +kernel
theorem dX8_parseWord_32 : decode cX8_parseWord 32 = .ok (.aload_n 3, 1) := by decide +kernel
theorem dX8_parseWord_33 : decode cX8_parseWord 33 = .ok (.iload 4, 2) := by decide +kernel
theorem dX8_parseWord_35 : decode cX8_parseWord 35 = .ok (.invokevirtual 129, 3) := by decide +kernel
theorem dX8_parseWord_38 : decode cX8_parseWord 38 = .ok (.if_icmp .eq 12, 3) := by decide +kernel
theorem dX8_parseWord_41 : decode cX8_parseWord 41 = .ok (.aload_n 0, 1) := by decide +kernel
theorem dX8_parseWord_42 : decode cX8_parseWord 42 = .ok (.aload_n 0, 1) := by decide +kernel
theorem dX8_parseWord_43 : decode cX8_parseWord 43 = .ok (.getfield 67, 3) := by decide +kernel
theorem dX8_parseWord_46 : decode cX8_parseWord 46 = .ok (.invokevirtual 83, 3) := by decide +kernel
theorem dX8_parseWord_49 : decode cX8_parseWord 49 = .ok (.return_, 1) := by decide +kernel
theorem dX8_parseWord_50 : decode cX8_parseWord 50 = .ok (.aload_n 0, 1) := by decide +kernel
theorem dX8_parseWord_51 : decode cX8_parseWord 51 = .ok (.dup, 1) := by decide +kernel
theorem dX8_parseWord_52 : decode cX8_parseWord 52 = .ok (.getfield 67, 3) := by decide +kernel
theorem dX8_parseWord_55 : decode cX8_parseWord 55 = .ok (.iconst 1, 1) := by decide +kernel
theorem dX8_parseWord_56 : decode cX8_parseWord 56 = .ok (.iadd, 1) := by decide +kernel
theorem dX8_parseWord_57 : decode cX8_parseWord 57 = .ok (.putfield 67, 3) := by decide +kernel
theorem dX8_parseWord_60 : decode cX8_parseWord 60 = .ok (.iinc 4 1, 3) := by decide +kernel
theorem dX8_parseWord_63 : decode cX8_parseWord 63 = .ok (.goto (-51), 3) := by decide +kernel
theorem dX8_parseWord_66 : decode cX8_parseWord 66 = .ok (.return_, 1) := by decide +kernel
theorem dX8_parseNumber_0 : decode cX8_parseNumber 0 = .ok (.aload_n 0, 1) := by decide +kernel
theorem dX8_parseNumber_1 : decode cX8_parseNumber 1 = .ok (.getfield 67, 3) := by decide +kernel
theorem dX8_parseNumber_4 : decode cX8_parseNumber 4 = .ok (.istore_n 2, 1) := by decide +kernel
theorem dX8_parseNumber_5 : decode cX8_parseNumber 5 = .ok (.aload_n 0, 1) := by decide +kernel
theorem dX8_parseNumber_6 : decode cX8_parseNumber 6 = .ok (.getfield 57, 3) := by decide +kernel
theorem dX8_parseNumber_9 : decode cX8_parseNumber 9 = .ok (.aload_n 0, 1) := by decide +kernel
theorem dX8_parseNumber_10 : decode cX8_parseNumber 10 = .ok (.getfield 67, 3) := by decide +kernel
theorem dX8_parseNumber_13 : decode cX8_parseNumber 13 = .ok (.invokevirtual 86, 3) := by decide +kernel
theorem dX8_parseNumber_16 : decode cX8_parseNumber 16 = .ok (.bipush 45, 2) := by decide +kernel
theorem dX8_parseNumber_18 : decode cX8_parseNumber 18 = .ok (.if_icmp .ne 7, 3) := by decide +kernel
theorem dX8_parseNumber_21 : decode cX8_parseNumber 21 = .ok (.iconst 1, 1) := by decide +kernel
theorem dX8_parseNumber_22 : decode cX8_parseNumber 22 = .ok (.goto 4, 3) := by decide +kernel
theorem dX8_parseNumber_25 : decode cX8_parseNumber 25 = .ok (.iconst 0, 1) := by decide +kernel
theorem dX8_parseNumber_26 : decode cX8_parseNumber 26 = .ok (.istore_n 3, 1) := by decide +kernel
theorem dX8_parseNumber_27 : decode cX8_parseNumber 27 = .ok (.iload_n 3, 1) := by decide +kernel
theorem dX8_parseNumber_28 : decode cX8_parseNumber 28 = .ok (.ifCond .eq 13, 3) := by decide +kernel
theorem dX8_parseNumber_31 : decode cX8_parseNumber 31 = .ok (.aload_n 0, 1) := by decide +kernel
theorem dX8_parseNumber_32 : decode cX8_parseNumber 32 = .ok (.dup, 1) := by decide +kernel
theorem dX8_parseNumber_33 : decode cX8_parseNumber 33 = .ok (.getfield 67, 3) := by decide +kernel
theorem dX8_parseNumber_36 : decode cX8_parseNumber 36 = .ok (.iconst 1, 1) := by decide +kernel
theorem dX8_parseNumber_37 : decode cX8_parseNumber 37 = .ok (.iadd, 1) := by decide +kernel
theorem dX8_parseNumber_38 : decode cX8_parseNumber 38 = .ok (.putfield 67, 3) := by decide +kernel
theorem dX8_parseNumber_41 : decode cX8_parseNumber 41 = .ok (.aload_n 0, 1) := by decide +kernel
theorem dX8_parseNumber_42 : decode cX8_parseNumber 42 = .ok (.getfield 57, 3) := by decide +kernel
theorem dX8_parseNumber_45 : decode cX8_parseNumber 45 = .ok (.aload_n 0, 1) := by decide +kernel
theorem dX8_parseNumber_46 : decode cX8_parseNumber 46 = .ok (.getfield 67, 3) := by decide +kernel
theorem dX8_parseNumber_49 : decode cX8_parseNumber 49 = .ok (.invokevirtual 86, 3) := by decide +kernel
theorem dX8_parseNumber_52 : decode cX8_parseNumber 52 = .ok (.invokestatic 133, 3) := by decide +kernel
theorem dX8_parseNumber_55 : decode cX8_parseNumber 55 = .ok (.ifCond .ne 12, 3) := by decide +kernel
theorem dX8_parseNumber_58 : decode cX8_parseNumber 58 = .ok (.aload_n 0, 1) := by decide +kernel
theorem dX8_parseNumber_59 : decode cX8_parseNumber 59 = .ok (.aload_n 0, 1) := by decide +kernel
theorem dX8_parseNumber_60 : decode cX8_parseNumber 60 = .ok (.getfield 67, 3) := by decide +kernel
theorem dX8_parseNumber_63 : decode cX8_parseNumber 63 = .ok (.invokevirtual 83, 3) := by decide +kernel
theorem dX8_parseNumber_66 : decode cX8_parseNumber 66 = .ok (.return_, 1) := by decide +kernel
theorem dX8_parseNumber_67 : decode cX8_parseNumber 67 = .ok (.iload_n 3, 1) := by decide +kernel
theorem dX8_parseNumber_68 : decode cX8_parseNumber 68 = .ok (.ifCond .eq 9, 3) := by decide +kernel
theorem dX8_parseNumber_71 : decode cX8_parseNumber 71 = .ok (.ldc2_w 139, 3) := by decide +kernel
theorem dX8_parseNumber_74 : decode cX8_parseNumber 74 = .ok (.goto 6, 3) := by decide +kernel
theorem dX8_parseNumber_77 : decode cX8_parseNumber 77 = .ok (.ldc2_w 141, 3) := by decide +kernel
theorem dX8_parseNumber_80 : decode cX8_parseNumber 80 = .ok (.lstore 4, 2) := by decide +kernel
theorem dX8_parseNumber_82 : decode cX8_parseNumber 82 = .ok (.iconst 1, 1) := by decide +kernel
theorem dX8_parseNumber_83 : decode cX8_parseNumber 83 = .ok (.istore 6, 2) := by decide +kernel
theorem dX8_parseNumber_85 : decode cX8_parseNumber 85 = .ok (.lconst 0, 1) := by decide +kernel
theorem dX8_parseNumber_86 : decode cX8_parseNumber 86 = .ok (.lstore 7, 2) := by decide +kernel
theorem dX8_parseNumber_88 : decode cX8_parseNumber 88 = .ok (.aload_n 0, 1) := by decide +kernel
theorem dX8_parseNumber_89 : decode cX8_parseNumber 89 = .ok (.getfield 57, 3) := by decide +kernel
theorem dX8_parseNumber_92 : decode cX8_parseNumber 92 = .ok (.aload_n 0, 1) := by decide +kernel
theorem dX8_parseNumber_93 : decode cX8_parseNumber 93 = .ok (.getfield 67, 3) := by decide +kernel
theorem dX8_parseNumber_96 : decode cX8_parseNumber 96 = .ok (.invokevirtual 86, 3) := by decide +kernel
theorem dX8_parseNumber_99 : decode cX8_parseNumber 99 = .ok (.bipush 48, 2) := by decide +kernel
theorem dX8_parseNumber_101 : decode cX8_parseNumber 101 = .ok (.if_icmp .ne 7, 3) := by decide +kernel
theorem dX8_parseNumber_104 : decode cX8_parseNumber 104 = .ok (.iconst 1, 1) := by decide +kernel
theorem dX8_parseNumber_105 : decode cX8_parseNumber 105 = .ok (.goto 6, 3) := by decide +kernel
theorem dX8_parseNumber_108 : decode cX8_parseNumber 108 = .ok (.sipush 4096, 3) := by decide +kernel
theorem dX8_parseNumber_111 : decode cX8_parseNumber 111 = .ok (.istore 9, 2) := by decide +kernel
theorem dX8_parseNumber_113 : decode cX8_parseNumber 113 = .ok (.iconst 0, 1) := by decide +kernel
theorem dX8_parseNumber_114 : decode cX8_parseNumber 114 = .ok (.istore 10, 2) := by decide +kernel
theorem dX8_parseNumber_116 : decode cX8_parseNumber 116 = .ok (.iload 10, 2) := by decide +kernel
theorem dX8_parseNumber_118 : decode cX8_parseNumber 118 = .ok (.iload 9, 2) := by decide +kernel
theorem dX8_parseNumber_120 : decode cX8_parseNumber 120 = .ok (.if_icmp .ge 101, 3) := by decide +kernel
theorem dX8_parseNumber_123 : decode cX8_parseNumber 123 = .ok (.aload_n 0, 1) := by decide +kernel
theorem dX8_parseNumber_124 : decode cX8_parseNumber 124 = .ok (.getfield 57, 3) := by decide +kernel
theorem dX8_parseNumber_127 : decode cX8_parseNumber 127 = .ok (.aload_n 0, 1) := by decide +kernel
theorem dX8_parseNumber_128 : decode cX8_parseNumber 128 = .ok (.getfield 67, 3) := by decide +kernel
theorem dX8_parseNumber_131 : decode cX8_parseNumber 131 = .ok (.invokevirtual 86, 3) := by decide +kernel
theorem dX8_parseNumber_134 : decode cX8_parseNumber 134 = .ok (.invokestatic 133, 3) := by decide +kernel
theorem dX8_parseNumber_137 : decode cX8_parseNumber 137 = .ok (.ifCond .eq 84, 3) := by decide +kernel
theorem dX8_parseNumber_140 : decode cX8_parseNumber 140 = .ok (.aload_n 0, 1) := by decide +kernel
theorem dX8_parseNumber_141 : decode cX8_parseNumber 141 = .ok (.getfield 57, 3) := by decide +kernel
theorem dX8_parseNumber_144 : decode cX8_parseNumber 144 = .ok (.aload_n 0, 1) := by decide +kernel
theorem dX8_parseNumber_145 : decode cX8_parseNumber 145 = .ok (.getfield 67, 3) := by decide +kernel
theorem dX8_parseNumber_148 : decode cX8_parseNumber 148 = .ok (.invokevirtual 86, 3) := by decide +kernel
theorem dX8_parseNumber_151 : decode cX8_parseNumber 151 = .ok (.bipush 48, 2) := by decide +kernel
theorem dX8_parseNumber_153 : decode cX8_parseNumber 153 = .ok (.isub, 1) := by decide +kernel
theorem dX8_parseNumber_154 : decode cX8_parseNumber 154 = .ok (.istore 11, 2) := by decide +kernel
theorem dX8_parseNumber_156 : decode cX8_parseNumber 156 = .ok (.iload 6, 2) := by decide +kernel
theorem dX8_parseNumber_158 : decode cX8_parseNumber 158 = .ok (.ifCond .eq 23, 3) := by decide +kernel
theorem dX8_parseNumber_161 : decode cX8_parseNumber 161 = .ok (.lload 7, 2) := by decide +kernel
theorem dX8_parseNumber_163 : decode cX8_parseNumber 163 = .ok (.lload 4, 2) := by decide +kernel
theorem dX8_parseNumber_165 : decode cX8_parseNumber 165 = .ok (.iload 11, 2) := by decide +kernel
theorem dX8_parseNumber_167 : decode cX8_parseNumber 167 = .ok (.i2l, 1) := by decide +kernel
theorem dX8_parseNumber_168 : decode cX8_parseNumber 168 = .ok (.ladd, 1) := by decide +kernel
theorem dX8_parseNumber_169 : decode cX8_parseNumber 169 = .ok (.ldc2_w 143, 3) := by decide +kernel
theorem dX8_parseNumber_172 : decode cX8_parseNumber 172 = .ok (.ldiv, 1) := by decide +kernel
theorem dX8_parseNumber_173 : decode cX8_parseNumber 173 = .ok (.lcmp, 1) := by decide +kernel
theorem dX8_parseNumber_174 : decode cX8_parseNumber 174 = .ok (.ifCond .lt 7, 3) := by decide +kernel
theorem dX8_parseNumber_177 : decode cX8_parseNumber 177 = .ok (.iconst 1, 1) := by decide +kernel
theorem dX8_parseNumber_178 : decode cX8_parseNumber 178 = .ok (.goto 4, 3) := by decide +kernel
theorem dX8_parseNumber_181 : decode cX8_parseNumber 181 = .ok (.iconst 0, 1) := by decide +kernel
theorem dX8_parseNumber_182 : decode cX8_parseNumber 182 = .ok (.istore 6, 2) := by decide +kernel
theorem dX8_parseNumber_184 : decode cX8_parseNumber 184 = .ok (.iload 6, 2) := by decide +kernel
theorem dX8_parseNumber_186 : decode cX8_parseNumber 186 = .ok (.ifCond .eq 16, 3) := by decide +kernel
theorem dX8_parseNumber_189 : decode cX8_parseNumber 189 = .ok (.lload 7, 2) := by decide +kernel
theorem dX8_parseNumber_191 : decode cX8_parseNumber 191 = .ok (.ldc2_w 143, 3) := by decide +kernel
theorem dX8_parseNumber_194 : decode cX8_parseNumber 194 = .ok (.lmul, 1) := by decide +kernel
theorem dX8_parseNumber_195 : decode cX8_parseNumber 195 = .ok (.iload 11, 2) := by decide +kernel
theorem dX8_parseNumber_197 : decode cX8_parseNumber 197 = .ok (.i2l, 1) := by decide +kernel
theorem dX8_parseNumber_198 : decode cX8_parseNumber 198 = .ok (.lsub, 1) := by decide +kernel
theorem dX8_parseNumber_199 : decode cX8_parseNumber 199 = .ok (.goto 4, 3) := by decide +kernel
theorem dX8_parseNumber_202 : decode cX8_parseNumber 202 = .ok (.lconst 0, 1) := by decide +kernel
theorem dX8_parseNumber_203 : decode cX8_parseNumber 203 = .ok (.lstore 7, 2) := by decide +kernel
theorem dX8_parseNumber_205 : decode cX8_parseNumber 205 = .ok (.aload_n 0, 1) := by decide +kernel
theorem dX8_parseNumber_206 : decode cX8_parseNumber 206 = .ok (.dup, 1) := by decide +kernel
theorem dX8_parseNumber_207 : decode cX8_parseNumber 207 = .ok (.getfield 67, 3) := by decide +kernel
theorem dX8_parseNumber_210 : decode cX8_parseNumber 210 = .ok (.iconst 1, 1) := by decide +kernel
theorem dX8_parseNumber_211 : decode cX8_parseNumber 211 = .ok (.iadd, 1) := by decide +kernel
theorem dX8_parseNumber_212 : decode cX8_parseNumber 212 = .ok (.putfield 67, 3) := by decide +kernel
theorem dX8_parseNumber_215 : decode cX8_parseNumber 215 = .ok (.iinc 10 1, 3) := by decide +kernel
theorem dX8_parseNumber_218 : decode cX8_parseNumber 218 = .ok (.goto (-102), 3) := by decide +kernel
theorem dX8_parseNumber_221 : decode cX8_parseNumber 221 = .ok (.iload 6, 2) := by decide +kernel
theorem dX8_parseNumber_223 : decode cX8_parseNumber 223 = .ok (.ifCond .ne 8, 3) := by decide +kernel
theorem dX8_parseNumber_226 : decode cX8_parseNumber 226 = .ok (.aload_n 0, 1) := by decide +kernel
theorem dX8_parseNumber_227 : decode cX8_parseNumber 227 = .ok (.iload_n 2, 1) := by decide +kernel
theorem dX8_parseNumber_228 : decode cX8_parseNumber 228 = .ok (.invokevirtual 83, 3) := by decide +kernel
theorem dX8_parseNumber_231 : decode cX8_parseNumber 231 = .ok (.iload_n 1, 1) := by decide +kernel
theorem dX8_parseNumber_232 : decode cX8_parseNumber 232 = .ok (.ifCond .lt 30, 3) := by decide +kernel
theorem dX8_parseNumber_235 : decode cX8_parseNumber 235 = .ok (.iload_n 1, 1) := by decide +kernel
theorem dX8_parseNumber_236 : decode cX8_parseNumber 236 = .ok (.aload_n 0, 1) := by decide +kernel
theorem dX8_parseNumber_237 : decode cX8_parseNumber 237 = .ok (.getfield 38, 3) := by decide +kernel
theorem dX8_parseNumber_240 : decode cX8_parseNumber 240 = .ok (.arraylength, 1) := by decide +kernel
theorem dX8_parseNumber_241 : decode cX8_parseNumber 241 = .ok (.if_icmp .ge 21, 3) := by decide +kernel
theorem dX8_parseNumber_244 : decode cX8_parseNumber 244 = .ok (.aload_n 0, 1) := by decide +kernel
theorem dX8_parseNumber_245 : decode cX8_parseNumber 245 = .ok (.getfield 38, 3) := by decide +kernel
theorem dX8_parseNumber_248 : decode cX8_parseNumber 248 = .ok (.iload_n 1, 1) := by decide +kernel
theorem dX8_parseNumber_249 : decode cX8_parseNumber 249 = .ok (.iload_n 3, 1) := by decide +kernel
theorem dX8_parseNumber_250 : decode cX8_parseNumber 250 = .ok (.ifCond .eq 8, 3) := by decide +kernel
theorem dX8_parseNumber_253 : decode cX8_parseNumber 253 = .ok (.lload 7, 2) := by decide +kernel
theorem dX8_parseNumber_255 : decode cX8_parseNumber 255 = .ok (.goto 6, 3) := by decide +kernel
theorem dX8_parseNumber_258 : decode cX8_parseNumber 258 = .ok (.lload 7, 2) := by decide +kernel
theorem dX8_parseNumber_260 : decode cX8_parseNumber 260 = .ok (.lneg, 1) := by decide +kernel
theorem dX8_parseNumber_261 : decode cX8_parseNumber 261 = .ok (.lastore, 1) := by decide +kernel
theorem dX8_parseNumber_262 : decode cX8_parseNumber 262 = .ok (.return_, 1) := by decide +kernel
theorem dX8_isDigit_0 : decode cX8_isDigit 0 = .ok (.iload_n 0, 1) := by decide +kernel
theorem dX8_isDigit_1 : decode cX8_isDigit 1 = .ok (.bipush 48, 2) := by decide +kernel
theorem dX8_isDigit_3 : decode cX8_isDigit 3 = .ok (.if_icmp .lt 13, 3) := by decide +kernel
theorem dX8_isDigit_6 : decode cX8_isDigit 6 = .ok (.iload_n 0, 1) := by decide +kernel
theorem dX8_isDigit_7 : decode cX8_isDigit 7 = .ok (.bipush 57, 2) := by decide +kernel
theorem dX8_isDigit_9 : decode cX8_isDigit 9 = .ok (.if_icmp .gt 7, 3) := by decide +kernel
theorem dX8_isDigit_12 : decode cX8_isDigit 12 = .ok (.iconst 1, 1) := by decide +kernel
theorem dX8_isDigit_13 : decode cX8_isDigit 13 = .ok (.goto 4, 3) := by decide +kernel
theorem dX8_isDigit_16 : decode cX8_isDigit 16 = .ok (.iconst 0, 1) := by decide +kernel
theorem dX8_isDigit_17 : decode cX8_isDigit 17 = .ok (.ireturn, 1) := by decide +kernel
theorem dX8_parseString_0 : decode cX8_parseString 0 = .ok (.aload_n 0, 1) := by decide +kernel
theorem dX8_parseString_1 : decode cX8_parseString 1 = .ok (.getfield 42, 3) := by decide +kernel
theorem dX8_parseString_4 : decode cX8_parseString 4 = .ok (.invokevirtual 79, 3) := by decide +kernel
theorem dX8_parseString_7 : decode cX8_parseString 7 = .ok (.istore_n 1, 1) := by decide +kernel
theorem dX8_parseString_8 : decode cX8_parseString 8 = .ok (.aload_n 0, 1) := by decide +kernel
theorem dX8_parseString_9 : decode cX8_parseString 9 = .ok (.getfield 42, 3) := by decide +kernel
theorem dX8_parseString_12 : decode cX8_parseString 12 = .ok (.iconst 0, 1) := by decide +kernel
theorem dX8_parseString_13 : decode cX8_parseString 13 = .ok (.invokevirtual 145, 3) := by decide +kernel
theorem dX8_parseString_16 : decode cX8_parseString 16 = .ok (.pop, 1) := by decide +kernel
theorem dX8_parseString_17 : decode cX8_parseString 17 = .ok (.aload_n 0, 1) := by decide +kernel
theorem dX8_parseString_18 : decode cX8_parseString 18 = .ok (.dup, 1) := by decide +kernel
theorem dX8_parseString_19 : decode cX8_parseString 19 = .ok (.getfield 67, 3) := by decide +kernel
theorem dX8_parseString_22 : decode cX8_parseString 22 = .ok (.iconst 1, 1) := by decide +kernel
theorem dX8_parseString_23 : decode cX8_parseString 23 = .ok (.iadd, 1) := by decide +kernel
theorem dX8_parseString_24 : decode cX8_parseString 24 = .ok (.putfield 67, 3) := by decide +kernel
theorem dX8_parseString_27 : decode cX8_parseString 27 = .ok (.iconst 0, 1) := by decide +kernel
theorem dX8_parseString_28 : decode cX8_parseString 28 = .ok (.istore_n 2, 1) := by decide +kernel
theorem dX8_parseString_29 : decode cX8_parseString 29 = .ok (.iload_n 2, 1) := by decide +kernel
theorem dX8_parseString_30 : decode cX8_parseString 30 = .ok (.sipush 4096, 3) := by decide +kernel
theorem dX8_parseString_33 : decode cX8_parseString 33 = .ok (.if_icmp .gt 134, 3) := by decide +kernel
theorem dX8_parseString_36 : decode cX8_parseString 36 = .ok (.aload_n 0, 1) := by decide +kernel
theorem dX8_parseString_37 : decode cX8_parseString 37 = .ok (.getfield 70, 3) := by decide +kernel
theorem dX8_parseString_40 : decode cX8_parseString 40 = .ok (.iconst (-1), 1) := by decide +kernel
theorem dX8_parseString_41 : decode cX8_parseString 41 = .ok (.if_icmp .ne 126, 3) := by decide +kernel
theorem dX8_parseString_44 : decode cX8_parseString 44 = .ok (.aload_n 0, 1) := by decide +kernel
theorem dX8_parseString_45 : decode cX8_parseString 45 = .ok (.getfield 57, 3) := by decide +kernel
theorem dX8_parseString_48 : decode cX8_parseString 48 = .ok (.aload_n 0, 1) := by decide +kernel
theorem dX8_parseString_49 : decode cX8_parseString 49 = .ok (.getfield 67, 3) := by decide +kernel
theorem dX8_parseString_52 : decode cX8_parseString 52 = .ok (.invokevirtual 86, 3) := by decide +kernel
theorem dX8_parseString_55 : decode cX8_parseString 55 = .ok (.istore_n 3, 1) := by decide +kernel
theorem dX8_parseString_56 : decode cX8_parseString 56 = .ok (.iload_n 3, 1) := by decide +kernel
theorem dX8_parseString_57 : decode cX8_parseString 57 = .ok (.bipush 34, 2) := by decide +kernel
theorem dX8_parseString_59 : decode cX8_parseString 59 = .ok (.if_icmp .ne 16, 3) := by decide +kernel
theorem dX8_parseString_62 : decode cX8_parseString 62 = .ok (.aload_n 0, 1) := by decide +kernel
theorem dX8_parseString_63 : decode cX8_parseString 63 = .ok (.dup, 1) := by decide +kernel
theorem dX8_parseString_64 : decode cX8_parseString 64 = .ok (.getfield 67, 3) := by decide +kernel
theorem dX8_parseString_67 : decode cX8_parseString 67 = .ok (.iconst 1, 1) := by decide +kernel
theorem dX8_parseString_68 : decode cX8_parseString 68 = .ok (.iadd, 1) := by decide +kernel
theorem dX8_parseString_69 : decode cX8_parseString 69 = .ok (.putfield 67, 3) := by decide +kernel
theorem dX8_parseString_72 : decode cX8_parseString 72 = .ok (.goto 95, 3) := by decide +kernel
theorem dX8_parseString_75 : decode cX8_parseString 75 = .ok (.iload_n 3, 1) := by decide +kernel
theorem dX8_parseString_76 : decode cX8_parseString 76 = .ok (.bipush 92, 2) := by decide +kernel
theorem dX8_parseString_78 : decode cX8_parseString 78 = .ok (.if_icmp .ne 28, 3) := by decide +kernel
theorem dX8_parseString_81 : decode cX8_parseString 81 = .ok (.aload_n 0, 1) := by decide +kernel
theorem dX8_parseString_82 : decode cX8_parseString 82 = .ok (.getfield 57, 3) := by decide +kernel
theorem dX8_parseString_85 : decode cX8_parseString 85 = .ok (.aload_n 0, 1) := by decide +kernel
theorem dX8_parseString_86 : decode cX8_parseString 86 = .ok (.getfield 67, 3) := by decide +kernel
theorem dX8_parseString_89 : decode cX8_parseString 89 = .ok (.iconst 1, 1) := by decide +kernel
theorem dX8_parseString_90 : decode cX8_parseString 90 = .ok (.iadd, 1) := by decide +kernel
theorem dX8_parseString_91 : decode cX8_parseString 91 = .ok (.invokevirtual 86, 3) := by decide +kernel
theorem dX8_parseString_94 : decode cX8_parseString 94 = .ok (.bipush 117, 2) := by decide +kernel
theorem dX8_parseString_96 : decode cX8_parseString 96 = .ok (.if_icmp .ne 10, 3) := by decide +kernel
theorem dX8_parseString_99 : decode cX8_parseString 99 = .ok (.aload_n 0, 1) := by decide +kernel
theorem dX8_parseString_100 : decode cX8_parseString 100 = .ok (.invokevirtual 148, 3) := by decide +kernel
theorem dX8_parseString_103 : decode cX8_parseString 103 = .ok (.goto 58, 3) := by decide +kernel
theorem dX8_parseString_106 : decode cX8_parseString 106 = .ok (.iload_n 3, 1) := by decide +kernel
theorem dX8_parseString_107 : decode cX8_parseString 107 = .ok (.bipush 92, 2) := by decide +kernel
theorem dX8_parseString_109 : decode cX8_parseString 109 = .ok (.if_icmp .ne 10, 3) := by decide +kernel
theorem dX8_parseString_112 : decode cX8_parseString 112 = .ok (.aload_n 0, 1) := by decide +kernel
theorem dX8_parseString_113 : decode cX8_parseString 113 = .ok (.invokevirtual 151, 3) := by decide +kernel
theorem dX8_parseString_116 : decode cX8_parseString 116 = .ok (.goto 45, 3) := by decide +kernel
theorem dX8_parseString_119 : decode cX8_parseString 119 = .ok (.iload_n 3, 1) := by decide +kernel
theorem dX8_parseString_120 : decode cX8_parseString 120 = .ok (.bipush 32, 2) := by decide +kernel
theorem dX8_parseString_122 : decode cX8_parseString 122 = .ok (.if_icmp .lt 9, 3) := by decide +kernel
theorem dX8_parseString_125 : decode cX8_parseString 125 = .ok (.iload_n 3, 1) := by decide +kernel
theorem dX8_parseString_126 : decode cX8_parseString 126 = .ok (.bipush 126, 2) := by decide +kernel
theorem dX8_parseString_128 : decode cX8_parseString 128 = .ok (.if_icmp .le 14, 3) := by decide +kernel
theorem dX8_parseString_131 : decode cX8_parseString 131 = .ok (.aload_n 0, 1) := by decide +kernel
theorem dX8_parseString_132 : decode cX8_parseString 132 = .ok (.aload_n 0, 1) := by decide +kernel
theorem dX8_parseString_133 : decode cX8_parseString 133 = .ok (.getfield 67, 3) := by decide +kernel
theorem dX8_parseString_136 : decode cX8_parseString 136 = .ok (.invokevirtual 83, 3) := by decide +kernel
theorem dX8_parseString_139 : decode cX8_parseString 139 = .ok (.goto 22, 3) := by decide +kernel
theorem dX8_parseString_142 : decode cX8_parseString 142 = .ok (.aload_n 0, 1) := by decide +kernel
theorem dX8_parseString_143 : decode cX8_parseString 143 = .ok (.getfield 42, 3) := by decide +kernel
theorem dX8_parseString_146 : decode cX8_parseString 146 = .ok (.iload_n 3, 1) := by decide +kernel
theorem dX8_parseString_147 : decode cX8_parseString 147 = .ok (.invokevirtual 145, 3) := by decide +kernel
theorem dX8_parseString_150 : decode cX8_parseString 150 = .ok (.pop, 1) := by decide +kernel
theorem dX8_parseString_151 : decode cX8_parseString 151 = .ok (.aload_n 0, 1) := by decide +kernel
theorem dX8_parseString_152 : decode cX8_parseString 152 = .ok (.dup, 1) := by decide +kernel
theorem dX8_parseString_153 : decode cX8_parseString 153 = .ok (.getfield 67, 3) := by decide +kernel
theorem dX8_parseString_156 : decode cX8_parseString 156 = .ok (.iconst 1, 1) := by decide +kernel
theorem dX8_parseString_157 : decode cX8_parseString 157 = .ok (.iadd, 1) := by decide +kernel
theorem dX8_parseString_158 : decode cX8_parseString 158 = .ok (.putfield 67, 3) := by decide +kernel
theorem dX8_parseString_161 : decode cX8_parseString 161 = .ok (.iinc 2 1, 3) := by decide +kernel
theorem dX8_parseString_164 : decode cX8_parseString 164 = .ok (.goto (-135), 3) := by decide +kernel
theorem dX8_parseString_167 : decode cX8_parseString 167 = .ok (.aload_n 0, 1) := by decide +kernel
theorem dX8_parseString_168 : decode cX8_parseString 168 = .ok (.getfield 42, 3) := by decide +kernel
theorem dX8_parseString_171 : decode cX8_parseString 171 = .ok (.iload_n 1, 1) := by decide +kernel
theorem dX8_parseString_172 : decode cX8_parseString 172 = .ok (.aload_n 0, 1) := by decide +kernel
theorem dX8_parseString_173 : decode cX8_parseString 173 = .ok (.getfield 42, 3) := by decide +kernel
theorem dX8_parseString_176 : decode cX8_parseString 176 = .ok (.invokevirtual 79, 3) := by decide +kernel
theorem dX8_parseString_179 : decode cX8_parseString 179 = .ok (.iload_n 1, 1) := by decide +kernel
theorem dX8_parseString_180 : decode cX8_parseString 180 = .ok (.isub, 1) := by decide +kernel
theorem dX8_parseString_181 : decode cX8_parseString 181 = .ok (.iconst 1, 1) := by decide +kernel
theorem dX8_parseString_182 : decode cX8_parseString 182 = .ok (.isub, 1) := by decide +kernel
theorem dX8_parseString_183 : decode cX8_parseString 183 = .ok (.invokevirtual 89, 3) := by decide +kernel
theorem dX8_parseString_186 : decode cX8_parseString 186 = .ok (.iload_n 1, 1) := by decide +kernel
theorem dX8_parseString_187 : decode cX8_parseString 187 = .ok (.ireturn, 1) := by decide +kernel
theorem dX8_parseEscape_0 : decode cX8_parseEscape 0 = .ok (.aload_n 0, 1) := by decide +kernel
theorem dX8_parseEscape_1 : decode cX8_parseEscape 1 = .ok (.dup, 1) := by decide +kernel
theorem dX8_parseEscape_2 : decode cX8_parseEscape 2 = .ok (.getfield 67, 3) := by decide +kernel
theorem dX8_parseEscape_5 : decode cX8_parseEscape 5 = .ok (.iconst 1, 1) := by decide +kernel
theorem dX8_parseEscape_6 : decode cX8_parseEscape 6 = .ok (.iadd, 1) := by decide +kernel
theorem dX8_parseEscape_7 : decode cX8_parseEscape 7 = .ok (.putfield 67, 3) := by decide +kernel
theorem dX8_parseEscape_10 : decode cX8_parseEscape 10 = .ok (.aload_n 0, 1) := by decide +kernel
theorem dX8_parseEscape_11 : decode cX8_parseEscape 11 = .ok (.getfield 57, 3) := by decide +kernel
theorem dX8_parseEscape_14 : decode cX8_parseEscape 14 = .ok (.aload_n 0, 1) := by decide +kernel
theorem dX8_parseEscape_15 : decode cX8_parseEscape 15 = .ok (.getfield 67, 3) := by decide +kernel
theorem dX8_parseEscape_18 : decode cX8_parseEscape 18 = .ok (.invokevirtual 86, 3) := by decide +kernel
theorem dX8_parseEscape_21 : decode cX8_parseEscape 21 = .ok (.invokestatic 154, 3) := by decide +kernel
theorem dX8_parseEscape_24 : decode cX8_parseEscape 24 = .ok (.istore_n 1, 1) := by decide +kernel
theorem dX8_parseEscape_25 : decode cX8_parseEscape 25 = .ok (.iload_n 1, 1) := by decide +kernel
theorem dX8_parseEscape_26 : decode cX8_parseEscape 26 = .ok (.iconst (-1), 1) := by decide +kernel
theorem dX8_parseEscape_27 : decode cX8_parseEscape 27 = .ok (.if_icmp .ne 12, 3) := by decide +kernel
theorem dX8_parseEscape_30 : decode cX8_parseEscape 30 = .ok (.aload_n 0, 1) := by decide +kernel
theorem dX8_parseEscape_31 : decode cX8_parseEscape 31 = .ok (.aload_n 0, 1) := by decide +kernel
theorem dX8_parseEscape_32 : decode cX8_parseEscape 32 = .ok (.getfield 67, 3) := by decide +kernel
theorem dX8_parseEscape_35 : decode cX8_parseEscape 35 = .ok (.invokevirtual 83, 3) := by decide +kernel
theorem dX8_parseEscape_38 : decode cX8_parseEscape 38 = .ok (.return_, 1) := by decide +kernel
theorem dX8_parseEscape_39 : decode cX8_parseEscape 39 = .ok (.aload_n 0, 1) := by decide +kernel
theorem dX8_parseEscape_40 : decode cX8_parseEscape 40 = .ok (.getfield 42, 3) := by decide +kernel
theorem dX8_parseEscape_43 : decode cX8_parseEscape 43 = .ok (.iload_n 1, 1) := by decide +kernel
theorem dX8_parseEscape_44 : decode cX8_parseEscape 44 = .ok (.invokevirtual 145, 3) := by decide +kernel
theorem dX8_parseEscape_47 : decode cX8_parseEscape 47 = .ok (.pop, 1) := by decide +kernel
theorem dX8_parseEscape_48 : decode cX8_parseEscape 48 = .ok (.aload_n 0, 1) := by decide +kernel
theorem dX8_parseEscape_49 : decode cX8_parseEscape 49 = .ok (.dup, 1) := by decide +kernel
theorem dX8_parseEscape_50 : decode cX8_parseEscape 50 = .ok (.getfield 67, 3) := by decide +kernel
theorem dX8_parseEscape_53 : decode cX8_parseEscape 53 = .ok (.iconst 1, 1) := by decide +kernel
theorem dX8_parseEscape_54 : decode cX8_parseEscape 54 = .ok (.iadd, 1) := by decide +kernel
theorem dX8_parseEscape_55 : decode cX8_parseEscape 55 = .ok (.putfield 67, 3) := by decide +kernel
theorem dX8_parseEscape_58 : decode cX8_parseEscape 58 = .ok (.return_, 1) := by decide +kernel
theorem dX8_escaped_0 : decode cX8_escaped 0 = .ok (.iload_n 0, 1) := by decide +kernel
theorem dX8_escaped_1 : decode cX8_escaped 1 = .ok (.lookupswitch 92 #[(34, 75), (47, 75), (92, 75), (98, 77), (102, 80), (110, 83), (114, 86), (116, 89)], 75) := by decide +kernel
theorem dX8_escaped_76 : decode cX8_escaped 76 = .ok (.iload_n 0, 1) := by decide +kernel
theorem dX8_escaped_77 : decode cX8_escaped 77 = .ok (.ireturn, 1) := by decide +kernel
theorem dX8_escaped_78 : decode cX8_escaped 78 = .ok (.bipush 8, 2) := by decide +kernel
theorem dX8_escaped_80 : decode cX8_escaped 80 = .ok (.ireturn, 1) := by decide +kernel
theorem dX8_escaped_81 : decode cX8_escaped 81 = .ok (.bipush 12, 2) := by decide +kernel
theorem dX8_escaped_83 : decode cX8_escaped 83 = .ok (.ireturn, 1) := by decide +kernel
theorem dX8_escaped_84 : decode cX8_escaped 84 = .ok (.bipush 10, 2) := by decide +kernel
theorem dX8_escaped_86 : decode cX8_escaped 86 = .ok (.ireturn, 1) := by decide +kernel
theorem dX8_escaped_87 : decode cX8_escaped 87 = .ok (.bipush 13, 2) := by decide +kernel
theorem dX8_escaped_89 : decode cX8_escaped 89 = .ok (.ireturn, 1) := by decide +kernel
theorem dX8_escaped_90 : decode cX8_escaped 90 = .ok (.bipush 9, 2) := by decide +kernel
theorem dX8_escaped_92 : decode cX8_escaped 92 = .ok (.ireturn, 1) := by decide +kernel
theorem dX8_escaped_93 : decode cX8_escaped 93 = .ok (.iconst (-1), 1) := by decide +kernel
theorem dX8_escaped_94 : decode cX8_escaped 94 = .ok (.ireturn, 1) := by decide +kernel
theorem dX8_parseFourDigits_0 : decode cX8_parseFourDigits 0 = .ok (.aload_n 0, 1) := by decide +kernel
theorem dX8_parseFourDigits_1 : decode cX8_parseFourDigits 1 = .ok (.getfield 67, 3) := by decide +kernel
theorem dX8_parseFourDigits_4 : decode cX8_parseFourDigits 4 = .ok (.istore_n 1, 1) := by decide +kernel
theorem dX8_parseFourDigits_5 : decode cX8_parseFourDigits 5 = .ok (.iconst 0, 1) := by decide +kernel
theorem dX8_parseFourDigits_6 : decode cX8_parseFourDigits 6 = .ok (.istore_n 2, 1) := by decide +kernel
theorem dX8_parseFourDigits_7 : decode cX8_parseFourDigits 7 = .ok (.aload_n 0, 1) := by decide +kernel
theorem dX8_parseFourDigits_8 : decode cX8_parseFourDigits 8 = .ok (.dup, 1) := by decide +kernel
theorem dX8_parseFourDigits_9 : decode cX8_parseFourDigits 9 = .ok (.getfield 67, 3) := by decide +kernel
theorem dX8_parseFourDigits_12 : decode cX8_parseFourDigits 12 = .ok (.iconst 2, 1) := by decide +kernel
theorem dX8_parseFourDigits_13 : decode cX8_parseFourDigits 13 = .ok (.iadd, 1) := by decide +kernel
theorem dX8_parseFourDigits_14 : decode cX8_parseFourDigits 14 = .ok (.putfield 67, 3) := by decide +kernel
theorem dX8_parseFourDigits_17 : decode cX8_parseFourDigits 17 = .ok (.iconst 0, 1) := by decide +kernel
theorem dX8_parseFourDigits_18 : decode cX8_parseFourDigits 18 = .ok (.istore_n 3, 1) := by decide +kernel
theorem dX8_parseFourDigits_19 : decode cX8_parseFourDigits 19 = .ok (.iload_n 3, 1) := by decide +kernel
theorem dX8_parseFourDigits_20 : decode cX8_parseFourDigits 20 = .ok (.iconst 4, 1) := by decide +kernel
theorem dX8_parseFourDigits_21 : decode cX8_parseFourDigits 21 = .ok (.if_icmp .ge 58, 3) := by decide +kernel
theorem dX8_parseFourDigits_24 : decode cX8_parseFourDigits 24 = .ok (.aload_n 0, 1) := by decide +kernel
theorem dX8_parseFourDigits_25 : decode cX8_parseFourDigits 25 = .ok (.getfield 57, 3) := by decide +kernel
theorem dX8_parseFourDigits_28 : decode cX8_parseFourDigits 28 = .ok (.aload_n 0, 1) := by decide +kernel
theorem dX8_parseFourDigits_29 : decode cX8_parseFourDigits 29 = .ok (.getfield 67, 3) := by decide +kernel
theorem dX8_parseFourDigits_32 : decode cX8_parseFourDigits 32 = .ok (.invokevirtual 86, 3) := by decide +kernel
theorem dX8_parseFourDigits_35 : decode cX8_parseFourDigits 35 = .ok (.invokestatic 157, 3) := by decide +kernel
theorem dX8_parseFourDigits_38 : decode cX8_parseFourDigits 38 = .ok (.istore 4, 2) := by decide +kernel
theorem dX8_parseFourDigits_40 : decode cX8_parseFourDigits 40 = .ok (.iload 4, 2) := by decide +kernel
theorem dX8_parseFourDigits_42 : decode cX8_parseFourDigits 42 = .ok (.iconst (-1), 1) := by decide +kernel
theorem dX8_parseFourDigits_43 : decode cX8_parseFourDigits 43 = .ok (.if_icmp .ne 12, 3) := by decide +kernel
theorem dX8_parseFourDigits_46 : decode cX8_parseFourDigits 46 = .ok (.aload_n 0, 1) := by decide +kernel
theorem dX8_parseFourDigits_47 : decode cX8_parseFourDigits 47 = .ok (.aload_n 0, 1) := by decide +kernel
theorem dX8_parseFourDigits_48 : decode cX8_parseFourDigits 48 = .ok (.getfield 67, 3) := by decide +kernel
theorem dX8_parseFourDigits_51 : decode cX8_parseFourDigits 51 = .ok (.invokevirtual 83, 3) := by decide +kernel
theorem dX8_parseFourDigits_54 : decode cX8_parseFourDigits 54 = .ok (.return_, 1) := by decide +kernel
theorem dX8_parseFourDigits_55 : decode cX8_parseFourDigits 55 = .ok (.iload_n 2, 1) := by decide +kernel
theorem dX8_parseFourDigits_56 : decode cX8_parseFourDigits 56 = .ok (.bipush 16, 2) := by decide +kernel
theorem dX8_parseFourDigits_58 : decode cX8_parseFourDigits 58 = .ok (.imul, 1) := by decide +kernel
theorem dX8_parseFourDigits_59 : decode cX8_parseFourDigits 59 = .ok (.iload 4, 2) := by decide +kernel
theorem dX8_parseFourDigits_61 : decode cX8_parseFourDigits 61 = .ok (.iadd, 1) := by decide +kernel
theorem dX8_parseFourDigits_62 : decode cX8_parseFourDigits 62 = .ok (.istore_n 2, 1) := by decide +kernel
theorem dX8_parseFourDigits_63 : decode cX8_parseFourDigits 63 = .ok (.aload_n 0, 1) := by decide +kernel
theorem dX8_parseFourDigits_64 : decode cX8_parseFourDigits 64 = .ok (.dup, 1) := by decide +kernel
theorem dX8_parseFourDigits_65 : decode cX8_parseFourDigits 65 = .ok (.getfield 67, 3) := by decide +kernel
theorem dX8_parseFourDigits_68 : decode cX8_parseFourDigits 68 = .ok (.iconst 1, 1) := by decide +kernel
theorem dX8_parseFourDigits_69 : decode cX8_parseFourDigits 69 = .ok (.iadd, 1) := by decide +kernel
theorem dX8_parseFourDigits_70 : decode cX8_parseFourDigits 70 = .ok (.putfield 67, 3) := by decide +kernel
theorem dX8_parseFourDigits_73 : decode cX8_parseFourDigits 73 = .ok (.iinc 3 1, 3) := by decide +kernel
theorem dX8_parseFourDigits_76 : decode cX8_parseFourDigits 76 = .ok (.goto (-57), 3) := by decide +kernel
theorem dX8_parseFourDigits_79 : decode cX8_parseFourDigits 79 = .ok (.iload_n 2, 1) := by decide +kernel
theorem dX8_parseFourDigits_80 : decode cX8_parseFourDigits 80 = .ok (.sipush 255, 3) := by decide +kernel
theorem dX8_parseFourDigits_83 : decode cX8_parseFourDigits 83 = .ok (.if_icmp .le 11, 3) := by decide +kernel
theorem dX8_parseFourDigits_86 : decode cX8_parseFourDigits 86 = .ok (.aload_n 0, 1) := by decide +kernel
theorem dX8_parseFourDigits_87 : decode cX8_parseFourDigits 87 = .ok (.iload_n 1, 1) := by decide +kernel
theorem dX8_parseFourDigits_88 : decode cX8_parseFourDigits 88 = .ok (.invokevirtual 83, 3) := by decide +kernel
theorem dX8_parseFourDigits_91 : decode cX8_parseFourDigits 91 = .ok (.goto 12, 3) := by decide +kernel
theorem dX8_parseFourDigits_94 : decode cX8_parseFourDigits 94 = .ok (.aload_n 0, 1) := by decide +kernel
theorem dX8_parseFourDigits_95 : decode cX8_parseFourDigits 95 = .ok (.getfield 42, 3) := by decide +kernel
theorem dX8_parseFourDigits_98 : decode cX8_parseFourDigits 98 = .ok (.iload_n 2, 1) := by decide +kernel
theorem dX8_parseFourDigits_99 : decode cX8_parseFourDigits 99 = .ok (.invokevirtual 145, 3) := by decide +kernel
theorem dX8_parseFourDigits_102 : decode cX8_parseFourDigits 102 = .ok (.pop, 1) := by decide +kernel
theorem dX8_parseFourDigits_103 : decode cX8_parseFourDigits 103 = .ok (.return_, 1) := by decide +kernel
theorem dX8_hexDigit_0 : decode cX8_hexDigit 0 = .ok (.iload_n 0, 1) := by decide +kernel
theorem dX8_hexDigit_1 : decode cX8_hexDigit 1 = .ok (.bipush 48, 2) := by decide +kernel
theorem dX8_hexDigit_3 : decode cX8_hexDigit 3 = .ok (.if_icmp .lt 14, 3) := by decide +kernel
theorem dX8_hexDigit_6 : decode cX8_hexDigit 6 = .ok (.iload_n 0, 1) := by decide +kernel
theorem dX8_hexDigit_7 : decode cX8_hexDigit 7 = .ok (.bipush 57, 2) := by decide +kernel
theorem dX8_hexDigit_9 : decode cX8_hexDigit 9 = .ok (.if_icmp .gt 8, 3) := by decide +kernel
theorem dX8_hexDigit_12 : decode cX8_hexDigit 12 = .ok (.iload_n 0, 1) := by decide +kernel
theorem dX8_hexDigit_13 : decode cX8_hexDigit 13 = .ok (.bipush 48, 2) := by decide +kernel
theorem dX8_hexDigit_15 : decode cX8_hexDigit 15 = .ok (.isub, 1) := by decide +kernel
theorem dX8_hexDigit_16 : decode cX8_hexDigit 16 = .ok (.ireturn, 1) := by decide +kernel
theorem dX8_hexDigit_17 : decode cX8_hexDigit 17 = .ok (.iload_n 0, 1) := by decide +kernel
theorem dX8_hexDigit_18 : decode cX8_hexDigit 18 = .ok (.bipush 97, 2) := by decide +kernel
theorem dX8_hexDigit_20 : decode cX8_hexDigit 20 = .ok (.if_icmp .lt 17, 3) := by decide +kernel
theorem dX8_hexDigit_23 : decode cX8_hexDigit 23 = .ok (.iload_n 0, 1) := by decide +kernel
theorem dX8_hexDigit_24 : decode cX8_hexDigit 24 = .ok (.bipush 102, 2) := by decide +kernel
theorem dX8_hexDigit_26 : decode cX8_hexDigit 26 = .ok (.if_icmp .gt 11, 3) := by decide +kernel
theorem dX8_hexDigit_29 : decode cX8_hexDigit 29 = .ok (.iload_n 0, 1) := by decide +kernel
theorem dX8_hexDigit_30 : decode cX8_hexDigit 30 = .ok (.bipush 97, 2) := by decide +kernel
theorem dX8_hexDigit_32 : decode cX8_hexDigit 32 = .ok (.isub, 1) := by decide +kernel
theorem dX8_hexDigit_33 : decode cX8_hexDigit 33 = .ok (.bipush 10, 2) := by decide +kernel
theorem dX8_hexDigit_35 : decode cX8_hexDigit 35 = .ok (.iadd, 1) := by decide +kernel
theorem dX8_hexDigit_36 : decode cX8_hexDigit 36 = .ok (.ireturn, 1) := by decide +kernel
theorem dX8_hexDigit_37 : decode cX8_hexDigit 37 = .ok (.iload_n 0, 1) := by decide +kernel
theorem dX8_hexDigit_38 : decode cX8_hexDigit 38 = .ok (.bipush 65, 2) := by decide +kernel
theorem dX8_hexDigit_40 : decode cX8_hexDigit 40 = .ok (.if_icmp .lt 17, 3) := by decide +kernel
theorem dX8_hexDigit_43 : decode cX8_hexDigit 43 = .ok (.iload_n 0, 1) := by decide +kernel
theorem dX8_hexDigit_44 : decode cX8_hexDigit 44 = .ok (.bipush 70, 2) := by decide +kernel
theorem dX8_hexDigit_46 : decode cX8_hexDigit 46 = .ok (.if_icmp .gt 11, 3) := by decide +kernel
theorem dX8_hexDigit_49 : decode cX8_hexDigit 49 = .ok (.iload_n 0, 1) := by decide +kernel
theorem dX8_hexDigit_50 : decode cX8_hexDigit 50 = .ok (.bipush 65, 2) := by decide +kernel
theorem dX8_hexDigit_52 : decode cX8_hexDigit 52 = .ok (.isub, 1) := by decide +kernel
theorem dX8_hexDigit_53 : decode cX8_hexDigit 53 = .ok (.bipush 10, 2) := by decide +kernel
theorem dX8_hexDigit_55 : decode cX8_hexDigit 55 = .ok (.iadd, 1) := by decide +kernel
theorem dX8_hexDigit_56 : decode cX8_hexDigit 56 = .ok (.ireturn, 1) := by decide +kernel
theorem dX8_hexDigit_57 : decode cX8_hexDigit 57 = .ok (.iconst (-1), 1) := by decide +kernel
theorem dX8_hexDigit_58 : decode cX8_hexDigit 58 = .ok (.ireturn, 1) := by decide +kernel
theorem dX9_init_0 : decode cX9_init 0 = .ok (.aload_n 0, 1) := by decide +kernel
theorem dX9_init_1 : decode cX9_init 1 = .ok (.invokespecial 1, 3) := by decide +kernel
theorem dX9_init_4 : decode cX9_init 4 = .ok (.aload_n 0, 1) := by decide +kernel
theorem dX9_init_5 : decode cX9_init 5 = .ok (.new 7, 3) := by decide +kernel
theorem dX9_init_8 : decode cX9_init 8 = .ok (.dup, 1) := by decide +kernel
theorem dX9_init_9 : decode cX9_init 9 = .ok (.sipush 4096, 3) := by decide +kernel
theorem dX9_init_12 : decode cX9_init 12 = .ok (.invokespecial 11, 3) := by decide +kernel
theorem dX9_init_15 : decode cX9_init 15 = .ok (.putfield 14, 3) := by decide +kernel
theorem dX9_init_18 : decode cX9_init 18 = .ok (.aload_n 0, 1) := by decide +kernel
theorem dX9_init_19 : decode cX9_init 19 = .ok (.new 7, 3) := by decide +kernel
theorem dX9_init_22 : decode cX9_init 22 = .ok (.dup, 1) := by decide +kernel
theorem dX9_init_23 : decode cX9_init 23 = .ok (.sipush 4096, 3) := by decide +kernel
theorem dX9_init_26 : decode cX9_init 26 = .ok (.invokespecial 11, 3) := by decide +kernel
theorem dX9_init_29 : decode cX9_init 29 = .ok (.putfield 18, 3) := by decide +kernel
theorem dX9_init_32 : decode cX9_init 32 = .ok (.aload_n 0, 1) := by decide +kernel
theorem dX9_init_33 : decode cX9_init 33 = .ok (.bipush 8, 2) := by decide +kernel
theorem dX9_init_35 : decode cX9_init 35 = .ok (.anewarray 21, 3) := by decide +kernel
theorem dX9_init_38 : decode cX9_init 38 = .ok (.putfield 23, 3) := by decide +kernel
theorem dX9_init_41 : decode cX9_init 41 = .ok (.aload_n 0, 1) := by decide +kernel
theorem dX9_init_42 : decode cX9_init 42 = .ok (.new 27, 3) := by decide +kernel
theorem dX9_init_45 : decode cX9_init 45 = .ok (.dup, 1) := by decide +kernel
theorem dX9_init_46 : decode cX9_init 46 = .ok (.invokespecial 29, 3) := by decide +kernel
theorem dX9_init_49 : decode cX9_init 49 = .ok (.putfield 30, 3) := by decide +kernel
theorem dX9_init_52 : decode cX9_init 52 = .ok (.aload_n 0, 1) := by decide +kernel
theorem dX9_init_53 : decode cX9_init 53 = .ok (.new 34, 3) := by decide +kernel
theorem dX9_init_56 : decode cX9_init 56 = .ok (.dup, 1) := by decide +kernel
theorem dX9_init_57 : decode cX9_init 57 = .ok (.invokespecial 36, 3) := by decide +kernel
theorem dX9_init_60 : decode cX9_init 60 = .ok (.putfield 37, 3) := by decide +kernel
theorem dX9_init_63 : decode cX9_init 63 = .ok (.aload_n 0, 1) := by decide +kernel
theorem dX9_init_64 : decode cX9_init 64 = .ok (.new 41, 3) := by decide +kernel
theorem dX9_init_67 : decode cX9_init 67 = .ok (.dup, 1) := by decide +kernel
theorem dX9_init_68 : decode cX9_init 68 = .ok (.invokespecial 43, 3) := by decide +kernel
theorem dX9_init_71 : decode cX9_init 71 = .ok (.putfield 44, 3) := by decide +kernel
theorem dX9_init_74 : decode cX9_init 74 = .ok (.aload_n 0, 1) := by decide +kernel
theorem dX9_init_75 : decode cX9_init 75 = .ok (.new 48, 3) := by decide +kernel
theorem dX9_init_78 : decode cX9_init 78 = .ok (.dup, 1) := by decide +kernel
theorem dX9_init_79 : decode cX9_init 79 = .ok (.invokespecial 50, 3) := by decide +kernel
theorem dX9_init_82 : decode cX9_init 82 = .ok (.putfield 51, 3) := by decide +kernel
theorem dX9_init_85 : decode cX9_init 85 = .ok (.aload_n 0, 1) := by decide +kernel
theorem dX9_init_86 : decode cX9_init 86 = .ok (.new 55, 3) := by decide +kernel
theorem dX9_init_89 : decode cX9_init 89 = .ok (.dup, 1) := by decide +kernel
theorem dX9_init_90 : decode cX9_init 90 = .ok (.invokespecial 57, 3) := by decide +kernel
theorem dX9_init_93 : decode cX9_init 93 = .ok (.putfield 58, 3) := by decide +kernel
theorem dX9_init_96 : decode cX9_init 96 = .ok (.aload_n 0, 1) := by decide +kernel
theorem dX9_init_97 : decode cX9_init 97 = .ok (.new 62, 3) := by decide +kernel
theorem dX9_init_100 : decode cX9_init 100 = .ok (.dup, 1) := by decide +kernel
theorem dX9_init_101 : decode cX9_init 101 = .ok (.invokespecial 64, 3) := by decide +kernel
theorem dX9_init_104 : decode cX9_init 104 = .ok (.putfield 65, 3) := by decide +kernel
theorem dX9_init_107 : decode cX9_init 107 = .ok (.aload_n 0, 1) := by decide +kernel
theorem dX9_init_108 : decode cX9_init 108 = .ok (.new 62, 3) := by decide +kernel
theorem dX9_init_111 : decode cX9_init 111 = .ok (.dup, 1) := by decide +kernel
theorem dX9_init_112 : decode cX9_init 112 = .ok (.invokespecial 64, 3) := by decide +kernel
theorem dX9_init_115 : decode cX9_init 115 = .ok (.putfield 69, 3) := by decide +kernel
theorem dX9_init_118 : decode cX9_init 118 = .ok (.aload_n 0, 1) := by decide +kernel
theorem dX9_init_119 : decode cX9_init 119 = .ok (.iconst (-1), 1) := by decide +kernel
theorem dX9_init_120 : decode cX9_init 120 = .ok (.putfield 72, 3) := by decide +kernel
theorem dX9_init_123 : decode cX9_init 123 = .ok (.aload_n 0, 1) := by decide +kernel
theorem dX9_init_124 : decode cX9_init 124 = .ok (.iconst (-1), 1) := by decide +kernel
theorem dX9_init_125 : decode cX9_init 125 = .ok (.putfield 76, 3) := by decide +kernel
theorem dX9_init_128 : decode cX9_init 128 = .ok (.return_, 1) := by decide +kernel
theorem dX9_feed_0 : decode cX9_feed 0 = .ok (.aload_n 0, 1) := by decide +kernel
theorem dX9_feed_1 : decode cX9_feed 1 = .ok (.getfield 14, 3) := by decide +kernel
theorem dX9_feed_4 : decode cX9_feed 4 = .ok (.invokevirtual 79, 3) := by decide +kernel
theorem dX9_feed_7 : decode cX9_feed 7 = .ok (.bipush 20, 2) := by decide +kernel
theorem dX9_feed_9 : decode cX9_feed 9 = .ok (.iadd, 1) := by decide +kernel
theorem dX9_feed_10 : decode cX9_feed 10 = .ok (.sipush 4096, 3) := by decide +kernel
theorem dX9_feed_13 : decode cX9_feed 13 = .ok (.if_icmp .le 11, 3) := by decide +kernel
theorem dX9_feed_16 : decode cX9_feed 16 = .ok (.new 83, 3) := by decide +kernel
theorem dX9_feed_19 : decode cX9_feed 19 = .ok (.dup, 1) := by decide +kernel
theorem dX9_feed_20 : decode cX9_feed 20 = .ok (.invokespecial 85, 3) := by decide +kernel
theorem dX9_feed_23 : decode cX9_feed 23 = .ok (.athrow, 1) := by decide +kernel
theorem dX9_feed_24 : decode cX9_feed 24 = .ok (.aload_n 0, 1) := by decide +kernel
theorem dX9_feed_25 : decode cX9_feed 25 = .ok (.iload_n 1, 1) := by decide +kernel
theorem dX9_feed_26 : decode cX9_feed 26 = .ok (.invokevirtual 86, 3) := by decide +kernel
theorem dX9_feed_29 : decode cX9_feed 29 = .ok (.aload_n 0, 1) := by decide +kernel
theorem dX9_feed_30 : decode cX9_feed 30 = .ok (.iload_n 2, 1) := by decide +kernel
theorem dX9_feed_31 : decode cX9_feed 31 = .ok (.invokevirtual 86, 3) := by decide +kernel
theorem dX9_feed_34 : decode cX9_feed 34 = .ok (.aload_n 0, 1) := by decide +kernel
theorem dX9_feed_35 : decode cX9_feed 35 = .ok (.iload_n 3, 1) := by decide +kernel
theorem dX9_feed_36 : decode cX9_feed 36 = .ok (.invokevirtual 86, 3) := by decide +kernel
theorem dX9_feed_39 : decode cX9_feed 39 = .ok (.aload_n 0, 1) := by decide +kernel
theorem dX9_feed_40 : decode cX9_feed 40 = .ok (.iload 4, 2) := by decide +kernel
theorem dX9_feed_42 : decode cX9_feed 42 = .ok (.invokevirtual 86, 3) := by decide +kernel
theorem dX9_feed_45 : decode cX9_feed 45 = .ok (.aload_n 0, 1) := by decide +kernel
theorem dX9_feed_46 : decode cX9_feed 46 = .ok (.iload 5, 2) := by decide +kernel
theorem dX9_feed_48 : decode cX9_feed 48 = .ok (.invokevirtual 86, 3) := by decide +kernel
theorem dX9_feed_51 : decode cX9_feed 51 = .ok (.aload_n 0, 1) := by decide +kernel
theorem dX9_feed_52 : decode cX9_feed 52 = .ok (.getfield 14, 3) := by decide +kernel
theorem dX9_feed_55 : decode cX9_feed 55 = .ok (.invokevirtual 79, 3) := by decide +kernel
theorem dX9_feed_58 : decode cX9_feed 58 = .ok (.ireturn, 1) := by decide +kernel
theorem dX9_end_0 : decode cX9_end 0 = .ok (.iload_n 1, 1) := by decide +kernel
theorem dX9_end_1 : decode cX9_end 1 = .ok (.ifCond .lt 14, 3) := by decide +kernel
theorem dX9_end_4 : decode cX9_end 4 = .ok (.iload_n 1, 1) := by decide +kernel
theorem dX9_end_5 : decode cX9_end 5 = .ok (.aload_n 0, 1) := by decide +kernel
theorem dX9_end_6 : decode cX9_end 6 = .ok (.getfield 14, 3) := by decide +kernel
theorem dX9_end_9 : decode cX9_end 9 = .ok (.invokevirtual 79, 3) := by decide +kernel
theorem dX9_end_12 : decode cX9_end 12 = .ok (.if_icmp .le 11, 3) := by decide +kernel
theorem dX9_end_15 : decode cX9_end 15 = .ok (.new 89, 3) := by decide +kernel
theorem dX9_end_18 : decode cX9_end 18 = .ok (.dup, 1) := by decide +kernel
theorem dX9_end_19 : decode cX9_end 19 = .ok (.invokespecial 91, 3) := by decide +kernel
theorem dX9_end_22 : decode cX9_end 22 = .ok (.athrow, 1) := by decide +kernel
theorem dX9_end_23 : decode cX9_end 23 = .ok (.aload_n 0, 1) := by decide +kernel
theorem dX9_end_24 : decode cX9_end 24 = .ok (.getfield 14, 3) := by decide +kernel
theorem dX9_end_27 : decode cX9_end 27 = .ok (.iload_n 1, 1) := by decide +kernel
theorem dX9_end_28 : decode cX9_end 28 = .ok (.invokevirtual 92, 3) := by decide +kernel
theorem dX9_end_31 : decode cX9_end 31 = .ok (.return_, 1) := by decide +kernel
theorem dX9_schema_0 : decode cX9_schema 0 = .ok (.iload_n 1, 1) := by decide +kernel
theorem dX9_schema_1 : decode cX9_schema 1 = .ok (.ifCond .lt 9, 3) := by decide +kernel
theorem dX9_schema_4 : decode cX9_schema 4 = .ok (.iload_n 1, 1) := by decide +kernel
theorem dX9_schema_5 : decode cX9_schema 5 = .ok (.bipush 8, 2) := by decide +kernel
theorem dX9_schema_7 : decode cX9_schema 7 = .ok (.if_icmp .lt 11, 3) := by decide +kernel
theorem dX9_schema_10 : decode cX9_schema 10 = .ok (.new 95, 3) := by decide +kernel
theorem dX9_schema_13 : decode cX9_schema 13 = .ok (.dup, 1) := by decide +kernel
theorem dX9_schema_14 : decode cX9_schema 14 = .ok (.invokespecial 97, 3) := by decide +kernel
theorem dX9_schema_17 : decode cX9_schema 17 = .ok (.athrow, 1) := by decide +kernel
theorem dX9_schema_18 : decode cX9_schema 18 = .ok (.aload_n 0, 1) := by decide +kernel
theorem dX9_schema_19 : decode cX9_schema 19 = .ok (.aload_n 0, 1) := by decide +kernel
theorem dX9_schema_20 : decode cX9_schema 20 = .ok (.getfield 30, 3) := by decide +kernel
theorem dX9_schema_23 : decode cX9_schema 23 = .ok (.aload_n 0, 1) := by decide +kernel
theorem dX9_schema_24 : decode cX9_schema 24 = .ok (.getfield 14, 3) := by decide +kernel
theorem dX9_schema_27 : decode cX9_schema 27 = .ok (.invokevirtual 98, 3) := by decide +kernel
theorem dX9_schema_30 : decode cX9_schema 30 = .ok (.putfield 76, 3) := by decide +kernel
theorem dX9_schema_33 : decode cX9_schema 33 = .ok (.aload_n 0, 1) := by decide +kernel
theorem dX9_schema_34 : decode cX9_schema 34 = .ok (.getfield 76, 3) := by decide +kernel
theorem dX9_schema_37 : decode cX9_schema 37 = .ok (.iconst (-1), 1) := by decide +kernel
theorem dX9_schema_38 : decode cX9_schema 38 = .ok (.if_icmp .eq 5, 3) := by decide +kernel
theorem dX9_schema_41 : decode cX9_schema 41 = .ok (.iconst 1, 1) := by decide +kernel
theorem dX9_schema_42 : decode cX9_schema 42 = .ok (.ireturn, 1) := by decide +kernel
theorem dX9_schema_43 : decode cX9_schema 43 = .ok (.aload_n 0, 1) := by decide +kernel
theorem dX9_schema_44 : decode cX9_schema 44 = .ok (.getfield 37, 3) := by decide +kernel
theorem dX9_schema_47 : decode cX9_schema 47 = .ok (.aload_n 0, 1) := by decide +kernel
theorem dX9_schema_48 : decode cX9_schema 48 = .ok (.getfield 30, 3) := by decide +kernel
theorem dX9_schema_51 : decode cX9_schema 51 = .ok (.invokevirtual 102, 3) := by decide +kernel
theorem dX9_schema_54 : decode cX9_schema 54 = .ok (.istore_n 2, 1) := by decide +kernel
theorem dX9_schema_55 : decode cX9_schema 55 = .ok (.aload_n 0, 1) := by decide +kernel
theorem dX9_schema_56 : decode cX9_schema 56 = .ok (.aload_n 0, 1) := by decide +kernel
theorem dX9_schema_57 : decode cX9_schema 57 = .ok (.getfield 37, 3) := by decide +kernel
theorem dX9_schema_60 : decode cX9_schema 60 = .ok (.invokevirtual 106, 3) := by decide +kernel
theorem dX9_schema_63 : decode cX9_schema 63 = .ok (.putfield 76, 3) := by decide +kernel
theorem dX9_schema_66 : decode cX9_schema 66 = .ok (.iload_n 2, 1) := by decide +kernel
theorem dX9_schema_67 : decode cX9_schema 67 = .ok (.ifCond .eq 5, 3) := by decide +kernel
theorem dX9_schema_70 : decode cX9_schema 70 = .ok (.iload_n 2, 1) := by decide +kernel
theorem dX9_schema_71 : decode cX9_schema 71 = .ok (.ireturn, 1) := by decide +kernel
theorem dX9_schema_72 : decode cX9_schema 72 = .ok (.aload_n 0, 1) := by decide +kernel
theorem dX9_schema_73 : decode cX9_schema 73 = .ok (.getfield 23, 3) := by decide +kernel
theorem dX9_schema_76 : decode cX9_schema 76 = .ok (.iload_n 1, 1) := by decide +kernel
theorem dX9_schema_77 : decode cX9_schema 77 = .ok (.aload_n 0, 1) := by decide +kernel
theorem dX9_schema_78 : decode cX9_schema 78 = .ok (.getfield 37, 3) := by decide +kernel
theorem dX9_schema_81 : decode cX9_schema 81 = .ok (.aload_n 0, 1) := by decide +kernel
theorem dX9_schema_82 : decode cX9_schema 82 = .ok (.getfield 23, 3) := by decide +kernel
theorem dX9_schema_85 : decode cX9_schema 85 = .ok (.iload_n 1, 1) := by decide +kernel
theorem dX9_schema_86 : decode cX9_schema 86 = .ok (.aaload, 1) := by decide +kernel
theorem dX9_schema_87 : decode cX9_schema 87 = .ok (.invokevirtual 109, 3) := by decide +kernel
theorem dX9_schema_90 : decode cX9_schema 90 = .ok (.aastore, 1) := by decide +kernel
theorem dX9_schema_91 : decode cX9_schema 91 = .ok (.aload_n 0, 1) := by decide +kernel
theorem dX9_schema_92 : decode cX9_schema 92 = .ok (.getfield 72, 3) := by decide +kernel
theorem dX9_schema_95 : decode cX9_schema 95 = .ok (.iload_n 1, 1) := by decide +kernel
theorem dX9_schema_96 : decode cX9_schema 96 = .ok (.if_icmp .ne 15, 3) := by decide +kernel
theorem dX9_schema_99 : decode cX9_schema 99 = .ok (.aload_n 0, 1) := by decide +kernel
theorem dX9_schema_100 : decode cX9_schema 100 = .ok (.getfield 65, 3) := by decide +kernel
theorem dX9_schema_103 : decode cX9_schema 103 = .ok (.invokevirtual 113, 3) := by decide +kernel
theorem dX9_schema_106 : decode cX9_schema 106 = .ok (.aload_n 0, 1) := by decide +kernel
theorem dX9_schema_107 : decode cX9_schema 107 = .ok (.iconst (-1), 1) := by decide +kernel
theorem dX9_schema_108 : decode cX9_schema 108 = .ok (.putfield 72, 3) := by decide +kernel
theorem dX9_schema_111 : decode cX9_schema 111 = .ok (.aload_n 0, 1) := by decide +kernel
theorem dX9_schema_112 : decode cX9_schema 112 = .ok (.getfield 14, 3) := by decide +kernel
theorem dX9_schema_115 : decode cX9_schema 115 = .ok (.iconst 0, 1) := by decide +kernel
theorem dX9_schema_116 : decode cX9_schema 116 = .ok (.invokevirtual 92, 3) := by decide +kernel
theorem dX9_schema_119 : decode cX9_schema 119 = .ok (.iconst 0, 1) := by decide +kernel
theorem dX9_schema_120 : decode cX9_schema 120 = .ok (.ireturn, 1) := by decide +kernel
theorem dX9_load_0 : decode cX9_load 0 = .ok (.iload_n 1, 1) := by decide +kernel
theorem dX9_load_1 : decode cX9_load 1 = .ok (.ifCond .lt 9, 3) := by decide +kernel
theorem dX9_load_4 : decode cX9_load 4 = .ok (.iload_n 1, 1) := by decide +kernel
theorem dX9_load_5 : decode cX9_load 5 = .ok (.bipush 8, 2) := by decide +kernel
theorem dX9_load_7 : decode cX9_load 7 = .ok (.if_icmp .lt 11, 3) := by decide +kernel
theorem dX9_load_10 : decode cX9_load 10 = .ok (.new 95, 3) := by decide +kernel
theorem dX9_load_13 : decode cX9_load 13 = .ok (.dup, 1) := by decide +kernel
theorem dX9_load_14 : decode cX9_load 14 = .ok (.invokespecial 97, 3) := by decide +kernel
theorem dX9_load_17 : decode cX9_load 17 = .ok (.athrow, 1) := by decide +kernel
theorem dX9_load_18 : decode cX9_load 18 = .ok (.aload_n 0, 1) := by decide +kernel
theorem dX9_load_19 : decode cX9_load 19 = .ok (.getfield 23, 3) := by decide +kernel
theorem dX9_load_22 : decode cX9_load 22 = .ok (.iload_n 1, 1) := by decide +kernel
theorem dX9_load_23 : decode cX9_load 23 = .ok (.aaload, 1) := by decide +kernel
theorem dX9_load_24 : decode cX9_load 24 = .ok (.astore_n 2, 1) := by decide +kernel
theorem dX9_load_25 : decode cX9_load 25 = .ok (.aload_n 2, 1) := by decide +kernel
theorem dX9_load_26 : decode cX9_load 26 = .ok (.ifnonnull 11, 3) := by decide +kernel
theorem dX9_load_29 : decode cX9_load 29 = .ok (.new 83, 3) := by decide +kernel
theorem dX9_load_32 : decode cX9_load 32 = .ok (.dup, 1) := by decide +kernel
theorem dX9_load_33 : decode cX9_load 33 = .ok (.invokespecial 85, 3) := by decide +kernel
theorem dX9_load_36 : decode cX9_load 36 = .ok (.athrow, 1) := by decide +kernel
theorem dX9_load_37 : decode cX9_load 37 = .ok (.aload_n 0, 1) := by decide +kernel
theorem dX9_load_38 : decode cX9_load 38 = .ok (.getfield 44, 3) := by decide +kernel
theorem dX9_load_41 : decode cX9_load 41 = .ok (.aload_n 0, 1) := by decide +kernel
theorem dX9_load_42 : decode cX9_load 42 = .ok (.getfield 14, 3) := by decide +kernel
theorem dX9_load_45 : decode cX9_load 45 = .ok (.aload_n 2, 1) := by decide +kernel
theorem dX9_load_46 : decode cX9_load 46 = .ok (.aload_n 0, 1) := by decide +kernel
theorem dX9_load_47 : decode cX9_load 47 = .ok (.getfield 69, 3) := by decide +kernel
theorem dX9_load_50 : decode cX9_load 50 = .ok (.invokevirtual 116, 3) := by decide +kernel
theorem dX9_load_53 : decode cX9_load 53 = .ok (.istore_n 3, 1) := by decide +kernel
theorem dX9_load_54 : decode cX9_load 54 = .ok (.aload_n 0, 1) := by decide +kernel
theorem dX9_load_55 : decode cX9_load 55 = .ok (.aload_n 0, 1) := by decide +kernel
theorem dX9_load_56 : decode cX9_load 56 = .ok (.getfield 44, 3) := by decide +kernel
theorem dX9_load_59 : decode cX9_load 59 = .ok (.invokevirtual 120, 3) := by decide +kernel
theorem dX9_load_62 : decode cX9_load 62 = .ok (.putfield 76, 3) := by decide +kernel
theorem dX9_load_65 : decode cX9_load 65 = .ok (.iload_n 3, 1) := by decide +kernel
theorem dX9_load_66 : decode cX9_load 66 = .ok (.ifCond .ge 5, 3) := by decide +kernel
theorem dX9_load_69 : decode cX9_load 69 = .ok (.iload_n 3, 1) := by decide +kernel
theorem dX9_load_70 : decode cX9_load 70 = .ok (.ireturn, 1) := by decide +kernel
theorem dX9_load_71 : decode cX9_load 71 = .ok (.aload_n 0, 1) := by decide +kernel
theorem dX9_load_72 : decode cX9_load 72 = .ok (.getfield 65, 3) := by decide +kernel
theorem dX9_load_75 : decode cX9_load 75 = .ok (.astore 4, 2) := by decide +kernel
theorem dX9_load_77 : decode cX9_load 77 = .ok (.aload_n 0, 1) := by decide +kernel
theorem dX9_load_78 : decode cX9_load 78 = .ok (.aload_n 0, 1) := by decide +kernel
theorem dX9_load_79 : decode cX9_load 79 = .ok (.getfield 69, 3) := by decide +kernel
theorem dX9_load_82 : decode cX9_load 82 = .ok (.putfield 65, 3) := by decide +kernel
theorem dX9_load_85 : decode cX9_load 85 = .ok (.aload_n 0, 1) := by decide +kernel
theorem dX9_load_86 : decode cX9_load 86 = .ok (.aload 4, 2) := by decide +kernel
theorem dX9_load_88 : decode cX9_load 88 = .ok (.putfield 69, 3) := by decide +kernel
theorem dX9_load_91 : decode cX9_load 91 = .ok (.aload_n 0, 1) := by decide +kernel
theorem dX9_load_92 : decode cX9_load 92 = .ok (.iload_n 1, 1) := by decide +kernel
theorem dX9_load_93 : decode cX9_load 93 = .ok (.putfield 72, 3) := by decide +kernel
theorem dX9_load_96 : decode cX9_load 96 = .ok (.aload_n 0, 1) := by decide +kernel
theorem dX9_load_97 : decode cX9_load 97 = .ok (.getfield 14, 3) := by decide +kernel
theorem dX9_load_100 : decode cX9_load 100 = .ok (.iconst 0, 1) := by decide +kernel
theorem dX9_load_101 : decode cX9_load 101 = .ok (.invokevirtual 92, 3) := by decide +kernel
theorem dX9_load_104 : decode cX9_load 104 = .ok (.iload_n 3, 1) := by decide +kernel
theorem dX9_load_105 : decode cX9_load 105 = .ok (.ireturn, 1) := by decide +kernel
theorem dX9_place_0 : decode cX9_place 0 = .ok (.aload_n 0, 1) := by decide +kernel
theorem dX9_place_1 : decode cX9_place 1 = .ok (.getfield 76, 3) := by decide +kernel
theorem dX9_place_4 : decode cX9_place 4 = .ok (.ireturn, 1) := by decide +kernel
theorem dX9_rows_0 : decode cX9_rows 0 = .ok (.aload_n 0, 1) := by decide +kernel
theorem dX9_rows_1 : decode cX9_rows 1 = .ok (.getfield 65, 3) := by decide +kernel
theorem dX9_rows_4 : decode cX9_rows 4 = .ok (.invokevirtual 121, 3) := by decide +kernel
theorem dX9_rows_7 : decode cX9_rows 7 = .ok (.ireturn, 1) := by decide +kernel
theorem dX9_size_0 : decode cX9_size 0 = .ok (.iload_n 1, 1) := by decide +kernel
theorem dX9_size_1 : decode cX9_size 1 = .ok (.ifCond .eq 16, 3) := by decide +kernel
theorem dX9_size_4 : decode cX9_size 4 = .ok (.iload_n 1, 1) := by decide +kernel
theorem dX9_size_5 : decode cX9_size 5 = .ok (.iconst 1, 1) := by decide +kernel
theorem dX9_size_6 : decode cX9_size 6 = .ok (.if_icmp .eq 11, 3) := by decide +kernel
theorem dX9_size_9 : decode cX9_size 9 = .ok (.new 89, 3) := by decide +kernel
theorem dX9_size_12 : decode cX9_size 12 = .ok (.dup, 1) := by decide +kernel
theorem dX9_size_13 : decode cX9_size 13 = .ok (.invokespecial 91, 3) := by decide +kernel
theorem dX9_size_16 : decode cX9_size 16 = .ok (.athrow, 1) := by decide +kernel
theorem dX9_size_17 : decode cX9_size 17 = .ok (.aload_n 0, 1) := by decide +kernel
theorem dX9_size_18 : decode cX9_size 18 = .ok (.iload_n 1, 1) := by decide +kernel
theorem dX9_size_19 : decode cX9_size 19 = .ok (.invokevirtual 122, 3) := by decide +kernel
theorem dX9_size_22 : decode cX9_size 22 = .ok (.invokevirtual 79, 3) := by decide +kernel
theorem dX9_size_25 : decode cX9_size 25 = .ok (.ireturn, 1) := by decide +kernel
theorem dX9_letter_0 : decode cX9_letter 0 = .ok (.iload_n 2, 1) := by decide +kernel
theorem dX9_letter_1 : decode cX9_letter 1 = .ok (.ifCond .eq 16, 3) := by decide +kernel
theorem dX9_letter_4 : decode cX9_letter 4 = .ok (.iload_n 2, 1) := by decide +kernel
theorem dX9_letter_5 : decode cX9_letter 5 = .ok (.iconst 1, 1) := by decide +kernel
theorem dX9_letter_6 : decode cX9_letter 6 = .ok (.if_icmp .eq 11, 3) := by decide +kernel
theorem dX9_letter_9 : decode cX9_letter 9 = .ok (.new 89, 3) := by decide +kernel
theorem dX9_letter_12 : decode cX9_letter 12 = .ok (.dup, 1) := by decide +kernel
theorem dX9_letter_13 : decode cX9_letter 13 = .ok (.invokespecial 91, 3) := by decide +kernel
theorem dX9_letter_16 : decode cX9_letter 16 = .ok (.athrow, 1) := by decide +kernel
theorem dX9_letter_17 : decode cX9_letter 17 = .ok (.aload_n 0, 1) := by decide +kernel
theorem dX9_letter_18 : decode cX9_letter 18 = .ok (.iload_n 2, 1) := by decide +kernel
theorem dX9_letter_19 : decode cX9_letter 19 = .ok (.invokevirtual 122, 3) := by decide +kernel
theorem dX9_letter_22 : decode cX9_letter 22 = .ok (.astore_n 3, 1) := by decide +kernel
theorem dX9_letter_23 : decode cX9_letter 23 = .ok (.iload_n 1, 1) := by decide +kernel
theorem dX9_letter_24 : decode cX9_letter 24 = .ok (.ifCond .lt 11, 3) := by decide +kernel
theorem dX9_letter_27 : decode cX9_letter 27 = .ok (.iload_n 1, 1) := by decide +kernel
theorem dX9_letter_28 : decode cX9_letter 28 = .ok (.aload_n 3, 1) := by decide +kernel
theorem dX9_letter_29 : decode cX9_letter 29 = .ok (.invokevirtual 79, 3) := by decide +kernel
theorem dX9_letter_32 : decode cX9_letter 32 = .ok (.if_icmp .lt 11, 3) := by decide +kernel
theorem dX9_letter_35 : decode cX9_letter 35 = .ok (.new 95, 3) := by decide +kernel
theorem dX9_letter_38 : decode cX9_letter 38 = .ok (.dup, 1) := by decide +kernel
theorem dX9_letter_39 : decode cX9_letter 39 = .ok (.invokespecial 97, 3) := by decide +kernel
theorem dX9_letter_42 : decode cX9_letter 42 = .ok (.athrow, 1) := by decide +kernel
theorem dX9_letter_43 : decode cX9_letter 43 = .ok (.aload_n 3, 1) := by decide +kernel
theorem dX9_letter_44 : decode cX9_letter 44 = .ok (.iload_n 1, 1) := by decide +kernel
theorem dX9_letter_45 : decode cX9_letter 45 = .ok (.invokevirtual 126, 3) := by decide +kernel
theorem dX9_letter_48 : decode cX9_letter 48 = .ok (.ireturn, 1) := by decide +kernel
theorem dX9_read_0 : decode cX9_read 0 = .ok (.iload_n 1, 1) := by decide +kernel
theorem dX9_read_1 : decode cX9_read 1 = .ok (.ifCond .lt 24, 3) := by decide +kernel
theorem dX9_read_4 : decode cX9_read 4 = .ok (.iload_n 1, 1) := by decide +kernel
theorem dX9_read_5 : decode cX9_read 5 = .ok (.bipush 8, 2) := by decide +kernel
theorem dX9_read_7 : decode cX9_read 7 = .ok (.if_icmp .ge 18, 3) := by decide +kernel
theorem dX9_read_10 : decode cX9_read 10 = .ok (.iload_n 2, 1) := by decide +kernel
theorem dX9_read_11 : decode cX9_read 11 = .ok (.ifCond .lt 14, 3) := by decide +kernel
theorem dX9_read_14 : decode cX9_read 14 = .ok (.iload_n 2, 1) := by decide +kernel
theorem dX9_read_15 : decode cX9_read 15 = .ok (.aload_n 0, 1) := by decide +kernel
theorem dX9_read_16 : decode cX9_read 16 = .ok (.getfield 65, 3) := by decide +kernel
theorem dX9_read_19 : decode cX9_read 19 = .ok (.invokevirtual 121, 3) := by decide +kernel
theorem dX9_read_22 : decode cX9_read 22 = .ok (.if_icmp .lt 11, 3) := by decide +kernel
theorem dX9_read_25 : decode cX9_read 25 = .ok (.new 95, 3) := by decide +kernel
theorem dX9_read_28 : decode cX9_read 28 = .ok (.dup, 1) := by decide +kernel
theorem dX9_read_29 : decode cX9_read 29 = .ok (.invokespecial 97, 3) := by decide +kernel
theorem dX9_read_32 : decode cX9_read 32 = .ok (.athrow, 1) := by decide +kernel
theorem dX9_read_33 : decode cX9_read 33 = .ok (.aload_n 0, 1) := by decide +kernel
theorem dX9_read_34 : decode cX9_read 34 = .ok (.getfield 23, 3) := by decide +kernel
theorem dX9_read_37 : decode cX9_read 37 = .ok (.iload_n 1, 1) := by decide +kernel
theorem dX9_read_38 : decode cX9_read 38 = .ok (.aaload, 1) := by decide +kernel
theorem dX9_read_39 : decode cX9_read 39 = .ok (.astore_n 3, 1) := by decide +kernel
theorem dX9_read_40 : decode cX9_read 40 = .ok (.aload_n 3, 1) := by decide +kernel
theorem dX9_read_41 : decode cX9_read 41 = .ok (.ifnonnull 11, 3) := by decide +kernel
theorem dX9_read_44 : decode cX9_read 44 = .ok (.new 83, 3) := by decide +kernel
theorem dX9_read_47 : decode cX9_read 47 = .ok (.dup, 1) := by decide +kernel
theorem dX9_read_48 : decode cX9_read 48 = .ok (.invokespecial 85, 3) := by decide +kernel
theorem dX9_read_51 : decode cX9_read 51 = .ok (.athrow, 1) := by decide +kernel
theorem dX9_read_52 : decode cX9_read 52 = .ok (.aload_n 0, 1) := by decide +kernel
theorem dX9_read_53 : decode cX9_read 53 = .ok (.getfield 18, 3) := by decide +kernel
theorem dX9_read_56 : decode cX9_read 56 = .ok (.iconst 0, 1) := by decide +kernel
theorem dX9_read_57 : decode cX9_read 57 = .ok (.invokevirtual 92, 3) := by decide +kernel
theorem dX9_read_60 : decode cX9_read 60 = .ok (.aload_n 0, 1) := by decide +kernel
theorem dX9_read_61 : decode cX9_read 61 = .ok (.getfield 51, 3) := by decide +kernel
theorem dX9_read_64 : decode cX9_read 64 = .ok (.aload_n 0, 1) := by decide +kernel
theorem dX9_read_65 : decode cX9_read 65 = .ok (.invokevirtual 130, 3) := by decide +kernel
theorem dX9_read_68 : decode cX9_read 68 = .ok (.aload_n 3, 1) := by decide +kernel
theorem dX9_read_69 : decode cX9_read 69 = .ok (.invokevirtual 134, 3) := by decide +kernel
theorem dX9_read_72 : decode cX9_read 72 = .ok (.aload_n 0, 1) := by decide +kernel
theorem dX9_read_73 : decode cX9_read 73 = .ok (.getfield 51, 3) := by decide +kernel
theorem dX9_read_76 : decode cX9_read 76 = .ok (.aload_n 0, 1) := by decide +kernel
theorem dX9_read_77 : decode cX9_read 77 = .ok (.getfield 65, 3) := by decide +kernel
theorem dX9_read_80 : decode cX9_read 80 = .ok (.iload_n 2, 1) := by decide +kernel
theorem dX9_read_81 : decode cX9_read 81 = .ok (.invokevirtual 138, 3) := by decide +kernel
theorem dX9_read_84 : decode cX9_read 84 = .ok (.istore 4, 2) := by decide +kernel
theorem dX9_read_86 : decode cX9_read 86 = .ok (.iload 4, 2) := by decide +kernel
theorem dX9_read_88 : decode cX9_read 88 = .ok (.ifCond .eq 6, 3) := by decide +kernel
theorem dX9_read_91 : decode cX9_read 91 = .ok (.iload 4, 2) := by decide +kernel
theorem dX9_read_93 : decode cX9_read 93 = .ok (.ireturn, 1) := by decide +kernel
theorem dX9_read_94 : decode cX9_read 94 = .ok (.aload_n 0, 1) := by decide +kernel
theorem dX9_read_95 : decode cX9_read 95 = .ok (.getfield 18, 3) := by decide +kernel
theorem dX9_read_98 : decode cX9_read 98 = .ok (.aload_n 0, 1) := by decide +kernel
theorem dX9_read_99 : decode cX9_read 99 = .ok (.getfield 51, 3) := by decide +kernel
theorem dX9_read_102 : decode cX9_read 102 = .ok (.invokevirtual 142, 3) := by decide +kernel
theorem dX9_read_105 : decode cX9_read 105 = .ok (.iconst 0, 1) := by decide +kernel
theorem dX9_read_106 : decode cX9_read 106 = .ok (.aload_n 0, 1) := by decide +kernel
theorem dX9_read_107 : decode cX9_read 107 = .ok (.getfield 51, 3) := by decide +kernel
theorem dX9_read_110 : decode cX9_read 110 = .ok (.invokevirtual 142, 3) := by decide +kernel
theorem dX9_read_113 : decode cX9_read 113 = .ok (.invokevirtual 79, 3) := by decide +kernel
theorem dX9_read_116 : decode cX9_read 116 = .ok (.invokevirtual 146, 3) := by decide +kernel
theorem dX9_read_119 : decode cX9_read 119 = .ok (.pop, 1) := by decide +kernel
theorem dX9_read_120 : decode cX9_read 120 = .ok (.aload_n 0, 1) := by decide +kernel
theorem dX9_read_121 : decode cX9_read 121 = .ok (.getfield 18, 3) := by decide +kernel
theorem dX9_read_124 : decode cX9_read 124 = .ok (.invokevirtual 79, 3) := by decide +kernel
theorem dX9_read_127 : decode cX9_read 127 = .ok (.ireturn, 1) := by decide +kernel
theorem dX9_all_0 : decode cX9_all 0 = .ok (.iload_n 1, 1) := by decide +kernel
theorem dX9_all_1 : decode cX9_all 1 = .ok (.ifCond .lt 9, 3) := by decide +kernel
theorem dX9_all_4 : decode cX9_all 4 = .ok (.iload_n 1, 1) := by decide +kernel
theorem dX9_all_5 : decode cX9_all 5 = .ok (.bipush 8, 2) := by decide +kernel
theorem dX9_all_7 : decode cX9_all 7 = .ok (.if_icmp .lt 11, 3) := by decide +kernel
theorem dX9_all_10 : decode cX9_all 10 = .ok (.new 95, 3) := by decide +kernel
theorem dX9_all_13 : decode cX9_all 13 = .ok (.dup, 1) := by decide +kernel
theorem dX9_all_14 : decode cX9_all 14 = .ok (.invokespecial 97, 3) := by decide +kernel
theorem dX9_all_17 : decode cX9_all 17 = .ok (.athrow, 1) := by decide +kernel
theorem dX9_all_18 : decode cX9_all 18 = .ok (.aload_n 0, 1) := by decide +kernel
theorem dX9_all_19 : decode cX9_all 19 = .ok (.getfield 23, 3) := by decide +kernel
theorem dX9_all_22 : decode cX9_all 22 = .ok (.iload_n 1, 1) := by decide +kernel
theorem dX9_all_23 : decode cX9_all 23 = .ok (.aaload, 1) := by decide +kernel
theorem dX9_all_24 : decode cX9_all 24 = .ok (.astore_n 2, 1) := by decide +kernel
theorem dX9_all_25 : decode cX9_all 25 = .ok (.aload_n 2, 1) := by decide +kernel
theorem dX9_all_26 : decode cX9_all 26 = .ok (.ifnonnull 11, 3) := by decide +kernel
theorem dX9_all_29 : decode cX9_all 29 = .ok (.new 83, 3) := by decide +kernel
theorem dX9_all_32 : decode cX9_all 32 = .ok (.dup, 1) := by decide +kernel
theorem dX9_all_33 : decode cX9_all 33 = .ok (.invokespecial 85, 3) := by decide +kernel
theorem dX9_all_36 : decode cX9_all 36 = .ok (.athrow, 1) := by decide +kernel
theorem dX9_all_37 : decode cX9_all 37 = .ok (.aload_n 0, 1) := by decide +kernel
theorem dX9_all_38 : decode cX9_all 38 = .ok (.getfield 51, 3) := by decide +kernel
theorem dX9_all_41 : decode cX9_all 41 = .ok (.aload_n 0, 1) := by decide +kernel
theorem dX9_all_42 : decode cX9_all 42 = .ok (.invokevirtual 130, 3) := by decide +kernel
theorem dX9_all_45 : decode cX9_all 45 = .ok (.aload_n 2, 1) := by decide +kernel
theorem dX9_all_46 : decode cX9_all 46 = .ok (.invokevirtual 134, 3) := by decide +kernel
theorem dX9_all_49 : decode cX9_all 49 = .ok (.iconst 0, 1) := by decide +kernel
theorem dX9_all_50 : decode cX9_all 50 = .ok (.istore_n 3, 1) := by decide +kernel
theorem dX9_all_51 : decode cX9_all 51 = .ok (.iload_n 3, 1) := by decide +kernel
theorem dX9_all_52 : decode cX9_all 52 = .ok (.aload_n 0, 1) := by decide +kernel
theorem dX9_all_53 : decode cX9_all 53 = .ok (.getfield 65, 3) := by decide +kernel
theorem dX9_all_56 : decode cX9_all 56 = .ok (.invokevirtual 121, 3) := by decide +kernel
theorem dX9_all_59 : decode cX9_all 59 = .ok (.if_icmp .ge 26, 3) := by decide +kernel
theorem dX9_all_62 : decode cX9_all 62 = .ok (.aload_n 0, 1) := by decide +kernel
theorem dX9_all_63 : decode cX9_all 63 = .ok (.getfield 51, 3) := by decide +kernel
theorem dX9_all_66 : decode cX9_all 66 = .ok (.aload_n 0, 1) := by decide +kernel
theorem dX9_all_67 : decode cX9_all 67 = .ok (.getfield 65, 3) := by decide +kernel
theorem dX9_all_70 : decode cX9_all 70 = .ok (.iload_n 3, 1) := by decide +kernel
theorem dX9_all_71 : decode cX9_all 71 = .ok (.invokevirtual 138, 3) := by decide +kernel
theorem dX9_all_74 : decode cX9_all 74 = .ok (.ifCond .eq 5, 3) := by decide +kernel
theorem dX9_all_77 : decode cX9_all 77 = .ok (.iload_n 3, 1) := by decide +kernel
theorem dX9_all_78 : decode cX9_all 78 = .ok (.ireturn, 1) := by decide +kernel
theorem dX9_all_79 : decode cX9_all 79 = .ok (.iinc 3 1, 3) := by decide +kernel
