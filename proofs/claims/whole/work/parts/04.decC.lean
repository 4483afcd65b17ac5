theorem dX9_all_82 : decode cX9_all 82 = .ok (.goto (-31), 3) := by decide +kernel
theorem dX9_all_85 : decode cX9_all 85 = .ok (.aload_n 0, 1) := by decide +kernel
theorem dX9_all_86 : decode cX9_all 86 = .ok (.getfield 65, 3) := by decide +kernel
theorem dX9_all_89 : decode cX9_all 89 = .ok (.invokevirtual 121, 3) := by decide +kernel
theorem dX9_all_92 : decode cX9_all 92 = .ok (.ireturn, 1) := by decide +kernel
theorem dX9_fits_0 : decode cX9_fits 0 = .ok (.iload_n 1, 1) := by decide +kernel
theorem dX9_fits_1 : decode cX9_fits 1 = .ok (.ifCond .lt 19, 3) := by decide +kernel
theorem dX9_fits_4 : decode cX9_fits 4 = .ok (.iload_n 1, 1) := by decide +kernel
theorem dX9_fits_5 : decode cX9_fits 5 = .ok (.bipush 8, 2) := by decide +kernel
theorem dX9_fits_7 : decode cX9_fits 7 = .ok (.if_icmp .ge 13, 3) := by decide +kernel
theorem dX9_fits_10 : decode cX9_fits 10 = .ok (.iload_n 2, 1) := by decide +kernel
theorem dX9_fits_11 : decode cX9_fits 11 = .ok (.ifCond .lt 9, 3) := by decide +kernel
theorem dX9_fits_14 : decode cX9_fits 14 = .ok (.iload_n 2, 1) := by decide +kernel
theorem dX9_fits_15 : decode cX9_fits 15 = .ok (.bipush 8, 2) := by decide +kernel
theorem dX9_fits_17 : decode cX9_fits 17 = .ok (.if_icmp .lt 11, 3) := by decide +kernel
theorem dX9_fits_20 : decode cX9_fits 20 = .ok (.new 95, 3) := by decide +kernel
theorem dX9_fits_23 : decode cX9_fits 23 = .ok (.dup, 1) := by decide +kernel
theorem dX9_fits_24 : decode cX9_fits 24 = .ok (.invokespecial 97, 3) := by decide +kernel
theorem dX9_fits_27 : decode cX9_fits 27 = .ok (.athrow, 1) := by decide +kernel
theorem dX9_fits_28 : decode cX9_fits 28 = .ok (.aload_n 0, 1) := by decide +kernel
theorem dX9_fits_29 : decode cX9_fits 29 = .ok (.getfield 23, 3) := by decide +kernel
theorem dX9_fits_32 : decode cX9_fits 32 = .ok (.iload_n 1, 1) := by decide +kernel
theorem dX9_fits_33 : decode cX9_fits 33 = .ok (.aaload, 1) := by decide +kernel
theorem dX9_fits_34 : decode cX9_fits 34 = .ok (.astore_n 3, 1) := by decide +kernel
theorem dX9_fits_35 : decode cX9_fits 35 = .ok (.aload_n 0, 1) := by decide +kernel
theorem dX9_fits_36 : decode cX9_fits 36 = .ok (.getfield 23, 3) := by decide +kernel
theorem dX9_fits_39 : decode cX9_fits 39 = .ok (.iload_n 2, 1) := by decide +kernel
theorem dX9_fits_40 : decode cX9_fits 40 = .ok (.aaload, 1) := by decide +kernel
theorem dX9_fits_41 : decode cX9_fits 41 = .ok (.astore 4, 2) := by decide +kernel
theorem dX9_fits_43 : decode cX9_fits 43 = .ok (.aload_n 3, 1) := by decide +kernel
theorem dX9_fits_44 : decode cX9_fits 44 = .ok (.ifnull 8, 3) := by decide +kernel
theorem dX9_fits_47 : decode cX9_fits 47 = .ok (.aload 4, 2) := by decide +kernel
theorem dX9_fits_49 : decode cX9_fits 49 = .ok (.ifnonnull 11, 3) := by decide +kernel
theorem dX9_fits_52 : decode cX9_fits 52 = .ok (.new 83, 3) := by decide +kernel
theorem dX9_fits_55 : decode cX9_fits 55 = .ok (.dup, 1) := by decide +kernel
theorem dX9_fits_56 : decode cX9_fits 56 = .ok (.invokespecial 85, 3) := by decide +kernel
theorem dX9_fits_59 : decode cX9_fits 59 = .ok (.athrow, 1) := by decide +kernel
theorem dX9_fits_60 : decode cX9_fits 60 = .ok (.aload_n 0, 1) := by decide +kernel
theorem dX9_fits_61 : decode cX9_fits 61 = .ok (.getfield 58, 3) := by decide +kernel
theorem dX9_fits_64 : decode cX9_fits 64 = .ok (.aload_n 3, 1) := by decide +kernel
theorem dX9_fits_65 : decode cX9_fits 65 = .ok (.aload 4, 2) := by decide +kernel
theorem dX9_fits_67 : decode cX9_fits 67 = .ok (.invokevirtual 150, 3) := by decide +kernel
theorem dX9_fits_70 : decode cX9_fits 70 = .ok (.ireturn, 1) := by decide +kernel
theorem dX9_feedOne_0 : decode cX9_feedOne 0 = .ok (.bipush 24, 2) := by decide +kernel
theorem dX9_feedOne_2 : decode cX9_feedOne 2 = .ok (.istore_n 2, 1) := by decide +kernel
theorem dX9_feedOne_3 : decode cX9_feedOne 3 = .ok (.iload_n 2, 1) := by decide +kernel
theorem dX9_feedOne_4 : decode cX9_feedOne 4 = .ok (.ifCond .lt 24, 3) := by decide +kernel
theorem dX9_feedOne_7 : decode cX9_feedOne 7 = .ok (.aload_n 0, 1) := by decide +kernel
theorem dX9_feedOne_8 : decode cX9_feedOne 8 = .ok (.getfield 14, 3) := by decide +kernel
theorem dX9_feedOne_11 : decode cX9_feedOne 11 = .ok (.iload_n 1, 1) := by decide +kernel
theorem dX9_feedOne_12 : decode cX9_feedOne 12 = .ok (.iload_n 2, 1) := by decide +kernel
theorem dX9_feedOne_13 : decode cX9_feedOne 13 = .ok (.iushr, 1) := by decide +kernel
theorem dX9_feedOne_14 : decode cX9_feedOne 14 = .ok (.sipush 255, 3) := by decide +kernel
theorem dX9_feedOne_17 : decode cX9_feedOne 17 = .ok (.iand, 1) := by decide +kernel
theorem dX9_feedOne_18 : decode cX9_feedOne 18 = .ok (.invokevirtual 154, 3) := by decide +kernel
theorem dX9_feedOne_21 : decode cX9_feedOne 21 = .ok (.pop, 1) := by decide +kernel
theorem dX9_feedOne_22 : decode cX9_feedOne 22 = .ok (.iinc 2 (-8), 3) := by decide +kernel
theorem dX9_feedOne_25 : decode cX9_feedOne 25 = .ok (.goto (-22), 3) := by decide +kernel
theorem dX9_feedOne_28 : decode cX9_feedOne 28 = .ok (.return_, 1) := by decide +kernel
theorem dX9_bytesOf_0 : decode cX9_bytesOf 0 = .ok (.iload_n 1, 1) := by decide +kernel
theorem dX9_bytesOf_1 : decode cX9_bytesOf 1 = .ok (.ifCond .ne 13, 3) := by decide +kernel
theorem dX9_bytesOf_4 : decode cX9_bytesOf 4 = .ok (.aload_n 0, 1) := by decide +kernel
theorem dX9_bytesOf_5 : decode cX9_bytesOf 5 = .ok (.getfield 65, 3) := by decide +kernel
theorem dX9_bytesOf_8 : decode cX9_bytesOf 8 = .ok (.invokevirtual 158, 3) := by decide +kernel
theorem dX9_bytesOf_11 : decode cX9_bytesOf 11 = .ok (.goto 7, 3) := by decide +kernel
theorem dX9_bytesOf_14 : decode cX9_bytesOf 14 = .ok (.aload_n 0, 1) := by decide +kernel
theorem dX9_bytesOf_15 : decode cX9_bytesOf 15 = .ok (.getfield 18, 3) := by decide +kernel
theorem dX9_bytesOf_18 : decode cX9_bytesOf 18 = .ok (.areturn, 1) := by decide +kernel
theorem dX9_writer_0 : decode cX9_writer 0 = .ok (.aload_n 0, 1) := by decide +kernel
theorem dX9_writer_1 : decode cX9_writer 1 = .ok (.getfield 72, 3) := by decide +kernel
theorem dX9_writer_4 : decode cX9_writer 4 = .ok (.ifCond .lt 24, 3) := by decide +kernel
theorem dX9_writer_7 : decode cX9_writer 7 = .ok (.aload_n 0, 1) := by decide +kernel
theorem dX9_writer_8 : decode cX9_writer 8 = .ok (.getfield 72, 3) := by decide +kernel
theorem dX9_writer_11 : decode cX9_writer 11 = .ok (.bipush 8, 2) := by decide +kernel
theorem dX9_writer_13 : decode cX9_writer 13 = .ok (.if_icmp .ge 15, 3) := by decide +kernel
theorem dX9_writer_16 : decode cX9_writer 16 = .ok (.aload_n 0, 1) := by decide +kernel
theorem dX9_writer_17 : decode cX9_writer 17 = .ok (.getfield 23, 3) := by decide +kernel
theorem dX9_writer_20 : decode cX9_writer 20 = .ok (.aload_n 0, 1) := by decide +kernel
theorem dX9_writer_21 : decode cX9_writer 21 = .ok (.getfield 72, 3) := by decide +kernel
theorem dX9_writer_24 : decode cX9_writer 24 = .ok (.aaload, 1) := by decide +kernel
theorem dX9_writer_25 : decode cX9_writer 25 = .ok (.goto 4, 3) := by decide +kernel
theorem dX9_writer_28 : decode cX9_writer 28 = .ok (.aconst_null, 1) := by decide +kernel
theorem dX9_writer_29 : decode cX9_writer 29 = .ok (.areturn, 1) := by decide +kernel
theorem dX10_init_0 : decode cX10_init 0 = .ok (.aload_n 0, 1) := by decide +kernel
theorem dX10_init_1 : decode cX10_init 1 = .ok (.invokespecial 3, 3) := by decide +kernel
theorem dX10_init_4 : decode cX10_init 4 = .ok (.aload_n 0, 1) := by decide +kernel
theorem dX10_init_5 : decode cX10_init 5 = .ok (.sipush 4096, 3) := by decide +kernel
theorem dX10_init_8 : decode cX10_init 8 = .ok (.newarray .byte, 2) := by decide +kernel
theorem dX10_init_10 : decode cX10_init 10 = .ok (.putfield 9, 3) := by decide +kernel
theorem dX10_init_13 : decode cX10_init 13 = .ok (.aload_n 0, 1) := by decide +kernel
theorem dX10_init_14 : decode cX10_init 14 = .ok (.sipush 4200, 3) := by decide +kernel
theorem dX10_init_17 : decode cX10_init 17 = .ok (.newarray .int, 2) := by decide +kernel
theorem dX10_init_19 : decode cX10_init 19 = .ok (.putfield 15, 3) := by decide +kernel
theorem dX10_init_22 : decode cX10_init 22 = .ok (.aload_n 0, 1) := by decide +kernel
theorem dX10_init_23 : decode cX10_init 23 = .ok (.sipush 4200, 3) := by decide +kernel
theorem dX10_init_26 : decode cX10_init 26 = .ok (.newarray .int, 2) := by decide +kernel
theorem dX10_init_28 : decode cX10_init 28 = .ok (.putfield 19, 3) := by decide +kernel
theorem dX10_init_31 : decode cX10_init 31 = .ok (.aload_n 0, 1) := by decide +kernel
theorem dX10_init_32 : decode cX10_init 32 = .ok (.sipush 4200, 3) := by decide +kernel
theorem dX10_init_35 : decode cX10_init 35 = .ok (.newarray .long, 2) := by decide +kernel
theorem dX10_init_37 : decode cX10_init 37 = .ok (.putfield 22, 3) := by decide +kernel
theorem dX10_init_40 : decode cX10_init 40 = .ok (.aload_n 0, 1) := by decide +kernel
theorem dX10_init_41 : decode cX10_init 41 = .ok (.sipush 4200, 3) := by decide +kernel
theorem dX10_init_44 : decode cX10_init 44 = .ok (.newarray .int, 2) := by decide +kernel
theorem dX10_init_46 : decode cX10_init 46 = .ok (.putfield 26, 3) := by decide +kernel
theorem dX10_init_49 : decode cX10_init 49 = .ok (.aload_n 0, 1) := by decide +kernel
theorem dX10_init_50 : decode cX10_init 50 = .ok (.sipush 4200, 3) := by decide +kernel
theorem dX10_init_53 : decode cX10_init 53 = .ok (.newarray .int, 2) := by decide +kernel
theorem dX10_init_55 : decode cX10_init 55 = .ok (.putfield 29, 3) := by decide +kernel
theorem dX10_init_58 : decode cX10_init 58 = .ok (.aload_n 0, 1) := by decide +kernel
theorem dX10_init_59 : decode cX10_init 59 = .ok (.sipush 4200, 3) := by decide +kernel
theorem dX10_init_62 : decode cX10_init 62 = .ok (.newarray .int, 2) := by decide +kernel
theorem dX10_init_64 : decode cX10_init 64 = .ok (.putfield 32, 3) := by decide +kernel
theorem dX10_init_67 : decode cX10_init 67 = .ok (.aload_n 0, 1) := by decide +kernel
theorem dX10_init_68 : decode cX10_init 68 = .ok (.sipush 4200, 3) := by decide +kernel
theorem dX10_init_71 : decode cX10_init 71 = .ok (.newarray .byte, 2) := by decide +kernel
theorem dX10_init_73 : decode cX10_init 73 = .ok (.putfield 35, 3) := by decide +kernel
theorem dX10_init_76 : decode cX10_init 76 = .ok (.aload_n 0, 1) := by decide +kernel
theorem dX10_init_77 : decode cX10_init 77 = .ok (.sipush 140, 3) := by decide +kernel
theorem dX10_init_80 : decode cX10_init 80 = .ok (.newarray .int, 2) := by decide +kernel
theorem dX10_init_82 : decode cX10_init 82 = .ok (.putfield 38, 3) := by decide +kernel
theorem dX10_init_85 : decode cX10_init 85 = .ok (.aload_n 0, 1) := by decide +kernel
theorem dX10_init_86 : decode cX10_init 86 = .ok (.sipush 140, 3) := by decide +kernel
theorem dX10_init_89 : decode cX10_init 89 = .ok (.newarray .int, 2) := by decide +kernel
theorem dX10_init_91 : decode cX10_init 91 = .ok (.putfield 41, 3) := by decide +kernel
theorem dX10_init_94 : decode cX10_init 94 = .ok (.aload_n 0, 1) := by decide +kernel
theorem dX10_init_95 : decode cX10_init 95 = .ok (.sipush 140, 3) := by decide +kernel
theorem dX10_init_98 : decode cX10_init 98 = .ok (.newarray .int, 2) := by decide +kernel
theorem dX10_init_100 : decode cX10_init 100 = .ok (.putfield 44, 3) := by decide +kernel
theorem dX10_init_103 : decode cX10_init 103 = .ok (.aload_n 0, 1) := by decide +kernel
theorem dX10_init_104 : decode cX10_init 104 = .ok (.sipush 140, 3) := by decide +kernel
theorem dX10_init_107 : decode cX10_init 107 = .ok (.newarray .int, 2) := by decide +kernel
theorem dX10_init_109 : decode cX10_init 109 = .ok (.putfield 47, 3) := by decide +kernel
theorem dX10_init_112 : decode cX10_init 112 = .ok (.aload_n 0, 1) := by decide +kernel
theorem dX10_init_113 : decode cX10_init 113 = .ok (.sipush 140, 3) := by decide +kernel
theorem dX10_init_116 : decode cX10_init 116 = .ok (.newarray .int, 2) := by decide +kernel
theorem dX10_init_118 : decode cX10_init 118 = .ok (.putfield 50, 3) := by decide +kernel
theorem dX10_init_121 : decode cX10_init 121 = .ok (.aload_n 0, 1) := by decide +kernel
theorem dX10_init_122 : decode cX10_init 122 = .ok (.sipush 140, 3) := by decide +kernel
theorem dX10_init_125 : decode cX10_init 125 = .ok (.newarray .int, 2) := by decide +kernel
theorem dX10_init_127 : decode cX10_init 127 = .ok (.putfield 53, 3) := by decide +kernel
theorem dX10_init_130 : decode cX10_init 130 = .ok (.aload_n 0, 1) := by decide +kernel
theorem dX10_init_131 : decode cX10_init 131 = .ok (.sipush 2200, 3) := by decide +kernel
theorem dX10_init_134 : decode cX10_init 134 = .ok (.newarray .int, 2) := by decide +kernel
theorem dX10_init_136 : decode cX10_init 136 = .ok (.putfield 56, 3) := by decide +kernel
theorem dX10_init_139 : decode cX10_init 139 = .ok (.aload_n 0, 1) := by decide +kernel
theorem dX10_init_140 : decode cX10_init 140 = .ok (.sipush 2200, 3) := by decide +kernel
theorem dX10_init_143 : decode cX10_init 143 = .ok (.newarray .int, 2) := by decide +kernel
theorem dX10_init_145 : decode cX10_init 145 = .ok (.putfield 59, 3) := by decide +kernel
theorem dX10_init_148 : decode cX10_init 148 = .ok (.aload_n 0, 1) := by decide +kernel
theorem dX10_init_149 : decode cX10_init 149 = .ok (.sipush 2200, 3) := by decide +kernel
theorem dX10_init_152 : decode cX10_init 152 = .ok (.newarray .int, 2) := by decide +kernel
theorem dX10_init_154 : decode cX10_init 154 = .ok (.putfield 62, 3) := by decide +kernel
theorem dX10_init_157 : decode cX10_init 157 = .ok (.aload_n 0, 1) := by decide +kernel
theorem dX10_init_158 : decode cX10_init 158 = .ok (.sipush 2200, 3) := by decide +kernel
theorem dX10_init_161 : decode cX10_init 161 = .ok (.newarray .int, 2) := by decide +kernel
theorem dX10_init_163 : decode cX10_init 163 = .ok (.putfield 65, 3) := by decide +kernel
theorem dX10_init_166 : decode cX10_init 166 = .ok (.aload_n 0, 1) := by decide +kernel
theorem dX10_init_167 : decode cX10_init 167 = .ok (.sipush 2200, 3) := by decide +kernel
theorem dX10_init_170 : decode cX10_init 170 = .ok (.newarray .int, 2) := by decide +kernel
theorem dX10_init_172 : decode cX10_init 172 = .ok (.putfield 68, 3) := by decide +kernel
theorem dX10_init_175 : decode cX10_init 175 = .ok (.aload_n 0, 1) := by decide +kernel
theorem dX10_init_176 : decode cX10_init 176 = .ok (.sipush 4200, 3) := by decide +kernel
theorem dX10_init_179 : decode cX10_init 179 = .ok (.newarray .byte, 2) := by decide +kernel
theorem dX10_init_181 : decode cX10_init 181 = .ok (.putfield 71, 3) := by decide +kernel
theorem dX10_init_184 : decode cX10_init 184 = .ok (.aload_n 0, 1) := by decide +kernel
theorem dX10_init_185 : decode cX10_init 185 = .ok (.sipush 140, 3) := by decide +kernel
theorem dX10_init_188 : decode cX10_init 188 = .ok (.newarray .boolean, 2) := by decide +kernel
theorem dX10_init_190 : decode cX10_init 190 = .ok (.putfield 74, 3) := by decide +kernel
theorem dX10_init_193 : decode cX10_init 193 = .ok (.return_, 1) := by decide +kernel
theorem dX10_fail_0 : decode cX10_fail 0 = .ok (.aload_n 0, 1) := by decide +kernel
theorem dX10_fail_1 : decode cX10_fail 1 = .ok (.iload_n 1, 1) := by decide +kernel
theorem dX10_fail_2 : decode cX10_fail 2 = .ok (.putfield 78, 3) := by decide +kernel
theorem dX10_fail_5 : decode cX10_fail 5 = .ok (.aload_n 0, 1) := by decide +kernel
theorem dX10_fail_6 : decode cX10_fail 6 = .ok (.iload_n 2, 1) := by decide +kernel
theorem dX10_fail_7 : decode cX10_fail 7 = .ok (.putfield 82, 3) := by decide +kernel
theorem dX10_fail_10 : decode cX10_fail 10 = .ok (.new 85, 3) := by decide +kernel
theorem dX10_fail_13 : decode cX10_fail 13 = .ok (.dup, 1) := by decide +kernel
theorem dX10_fail_14 : decode cX10_fail 14 = .ok (.ldc 87, 2) := by decide +kernel
theorem dX10_fail_16 : decode cX10_fail 16 = .ok (.invokespecial 88, 3) := by decide +kernel
theorem dX10_fail_19 : decode cX10_fail 19 = .ok (.athrow, 1) := by decide +kernel
theorem dX10_need_0 : decode cX10_need 0 = .ok (.iload_n 1, 1) := by decide +kernel
theorem dX10_need_1 : decode cX10_need 1 = .ok (.ifCond .ne 9, 3) := by decide +kernel
theorem dX10_need_4 : decode cX10_need 4 = .ok (.aload_n 0, 1) := by decide +kernel
theorem dX10_need_5 : decode cX10_need 5 = .ok (.iload_n 2, 1) := by decide +kernel
theorem dX10_need_6 : decode cX10_need 6 = .ok (.iload_n 3, 1) := by decide +kernel
theorem dX10_need_7 : decode cX10_need 7 = .ok (.invokevirtual 91, 3) := by decide +kernel
theorem dX10_need_10 : decode cX10_need 10 = .ok (.return_, 1) := by decide +kernel
theorem dX10_look_0 : decode cX10_look 0 = .ok (.aload_n 0, 1) := by decide +kernel
theorem dX10_look_1 : decode cX10_look 1 = .ok (.getfield 95, 3) := by decide +kernel
theorem dX10_look_4 : decode cX10_look 4 = .ok (.aload_n 0, 1) := by decide +kernel
theorem dX10_look_5 : decode cX10_look 5 = .ok (.getfield 98, 3) := by decide +kernel
theorem dX10_look_8 : decode cX10_look 8 = .ok (.if_icmp .ge 15, 3) := by decide +kernel
theorem dX10_look_11 : decode cX10_look 11 = .ok (.aload_n 0, 1) := by decide +kernel
theorem dX10_look_12 : decode cX10_look 12 = .ok (.getfield 9, 3) := by decide +kernel
theorem dX10_look_15 : decode cX10_look 15 = .ok (.aload_n 0, 1) := by decide +kernel
theorem dX10_look_16 : decode cX10_look 16 = .ok (.getfield 95, 3) := by decide +kernel
theorem dX10_look_19 : decode cX10_look 19 = .ok (.baload, 1) := by decide +kernel
theorem dX10_look_20 : decode cX10_look 20 = .ok (.goto 4, 3) := by decide +kernel
theorem dX10_look_23 : decode cX10_look 23 = .ok (.iconst (-1), 1) := by decide +kernel
theorem dX10_look_24 : decode cX10_look 24 = .ok (.ireturn, 1) := by decide +kernel
theorem dX10_blanks_0 : decode cX10_blanks 0 = .ok (.aload_n 0, 1) := by decide +kernel
theorem dX10_blanks_1 : decode cX10_blanks 1 = .ok (.invokevirtual 101, 3) := by decide +kernel
theorem dX10_blanks_4 : decode cX10_blanks 4 = .ok (.bipush 32, 2) := by decide +kernel
theorem dX10_blanks_6 : decode cX10_blanks 6 = .ok (.if_icmp .eq 30, 3) := by decide +kernel
theorem dX10_blanks_9 : decode cX10_blanks 9 = .ok (.aload_n 0, 1) := by decide +kernel
theorem dX10_blanks_10 : decode cX10_blanks 10 = .ok (.invokevirtual 101, 3) := by decide +kernel
theorem dX10_blanks_13 : decode cX10_blanks 13 = .ok (.bipush 9, 2) := by decide +kernel
theorem dX10_blanks_15 : decode cX10_blanks 15 = .ok (.if_icmp .eq 21, 3) := by decide +kernel
theorem dX10_blanks_18 : decode cX10_blanks 18 = .ok (.aload_n 0, 1) := by decide +kernel
theorem dX10_blanks_19 : decode cX10_blanks 19 = .ok (.invokevirtual 101, 3) := by decide +kernel
theorem dX10_blanks_22 : decode cX10_blanks 22 = .ok (.bipush 10, 2) := by decide +kernel
theorem dX10_blanks_24 : decode cX10_blanks 24 = .ok (.if_icmp .eq 12, 3) := by decide +kernel
theorem dX10_blanks_27 : decode cX10_blanks 27 = .ok (.aload_n 0, 1) := by decide +kernel
theorem dX10_blanks_28 : decode cX10_blanks 28 = .ok (.invokevirtual 101, 3) := by decide +kernel
theorem dX10_blanks_31 : decode cX10_blanks 31 = .ok (.bipush 13, 2) := by decide +kernel
theorem dX10_blanks_33 : decode cX10_blanks 33 = .ok (.if_icmp .ne 16, 3) := by decide +kernel
theorem dX10_blanks_36 : decode cX10_blanks 36 = .ok (.aload_n 0, 1) := by decide +kernel
theorem dX10_blanks_37 : decode cX10_blanks 37 = .ok (.dup, 1) := by decide +kernel
theorem dX10_blanks_38 : decode cX10_blanks 38 = .ok (.getfield 95, 3) := by decide +kernel
theorem dX10_blanks_41 : decode cX10_blanks 41 = .ok (.iconst 1, 1) := by decide +kernel
theorem dX10_blanks_42 : decode cX10_blanks 42 = .ok (.iadd, 1) := by decide +kernel
theorem dX10_blanks_43 : decode cX10_blanks 43 = .ok (.putfield 95, 3) := by decide +kernel
theorem dX10_blanks_46 : decode cX10_blanks 46 = .ok (.goto (-46), 3) := by decide +kernel
theorem dX10_blanks_49 : decode cX10_blanks 49 = .ok (.return_, 1) := by decide +kernel
theorem dX10_take_0 : decode cX10_take 0 = .ok (.aload_n 0, 1) := by decide +kernel
theorem dX10_take_1 : decode cX10_take 1 = .ok (.aload_n 0, 1) := by decide +kernel
theorem dX10_take_2 : decode cX10_take 2 = .ok (.invokevirtual 101, 3) := by decide +kernel
theorem dX10_take_5 : decode cX10_take 5 = .ok (.iload_n 1, 1) := by decide +kernel
theorem dX10_take_6 : decode cX10_take 6 = .ok (.if_icmp .ne 7, 3) := by decide +kernel
theorem dX10_take_9 : decode cX10_take 9 = .ok (.iconst 1, 1) := by decide +kernel
theorem dX10_take_10 : decode cX10_take 10 = .ok (.goto 4, 3) := by decide +kernel
theorem dX10_take_13 : decode cX10_take 13 = .ok (.iconst 0, 1) := by decide +kernel
theorem dX10_take_14 : decode cX10_take 14 = .ok (.iconst 1, 1) := by decide +kernel
theorem dX10_take_15 : decode cX10_take 15 = .ok (.aload_n 0, 1) := by decide +kernel
theorem dX10_take_16 : decode cX10_take 16 = .ok (.getfield 95, 3) := by decide +kernel
theorem dX10_take_19 : decode cX10_take 19 = .ok (.invokevirtual 105, 3) := by decide +kernel
theorem dX10_take_22 : decode cX10_take 22 = .ok (.aload_n 0, 1) := by decide +kernel
theorem dX10_take_23 : decode cX10_take 23 = .ok (.dup, 1) := by decide +kernel
theorem dX10_take_24 : decode cX10_take 24 = .ok (.getfield 95, 3) := by decide +kernel
theorem dX10_take_27 : decode cX10_take 27 = .ok (.iconst 1, 1) := by decide +kernel
theorem dX10_take_28 : decode cX10_take 28 = .ok (.iadd, 1) := by decide +kernel
theorem dX10_take_29 : decode cX10_take 29 = .ok (.putfield 95, 3) := by decide +kernel
theorem dX10_take_32 : decode cX10_take 32 = .ok (.return_, 1) := by decide +kernel
theorem dX10_node_0 : decode cX10_node 0 = .ok (.aload_n 0, 1) := by decide +kernel
theorem dX10_node_1 : decode cX10_node 1 = .ok (.getfield 15, 3) := by decide +kernel
theorem dX10_node_4 : decode cX10_node 4 = .ok (.aload_n 0, 1) := by decide +kernel
theorem dX10_node_5 : decode cX10_node 5 = .ok (.getfield 109, 3) := by decide +kernel
theorem dX10_node_8 : decode cX10_node 8 = .ok (.iload_n 1, 1) := by decide +kernel
theorem dX10_node_9 : decode cX10_node 9 = .ok (.iastore, 1) := by decide +kernel
theorem dX10_node_10 : decode cX10_node 10 = .ok (.aload_n 0, 1) := by decide +kernel
theorem dX10_node_11 : decode cX10_node 11 = .ok (.getfield 19, 3) := by decide +kernel
theorem dX10_node_14 : decode cX10_node 14 = .ok (.aload_n 0, 1) := by decide +kernel
theorem dX10_node_15 : decode cX10_node 15 = .ok (.getfield 109, 3) := by decide +kernel
theorem dX10_node_18 : decode cX10_node 18 = .ok (.aload_n 0, 1) := by decide +kernel
theorem dX10_node_19 : decode cX10_node 19 = .ok (.getfield 95, 3) := by decide +kernel
theorem dX10_node_22 : decode cX10_node 22 = .ok (.iastore, 1) := by decide +kernel
theorem dX10_node_23 : decode cX10_node 23 = .ok (.aload_n 0, 1) := by decide +kernel
theorem dX10_node_24 : decode cX10_node 24 = .ok (.getfield 22, 3) := by decide +kernel
theorem dX10_node_27 : decode cX10_node 27 = .ok (.aload_n 0, 1) := by decide +kernel
theorem dX10_node_28 : decode cX10_node 28 = .ok (.getfield 109, 3) := by decide +kernel
theorem dX10_node_31 : decode cX10_node 31 = .ok (.lconst 0, 1) := by decide +kernel
theorem dX10_node_32 : decode cX10_node 32 = .ok (.lastore, 1) := by decide +kernel
theorem dX10_node_33 : decode cX10_node 33 = .ok (.aload_n 0, 1) := by decide +kernel
theorem dX10_node_34 : decode cX10_node 34 = .ok (.getfield 26, 3) := by decide +kernel
theorem dX10_node_37 : decode cX10_node 37 = .ok (.aload_n 0, 1) := by decide +kernel
theorem dX10_node_38 : decode cX10_node 38 = .ok (.getfield 109, 3) := by decide +kernel
theorem dX10_node_41 : decode cX10_node 41 = .ok (.iconst 0, 1) := by decide +kernel
theorem dX10_node_42 : decode cX10_node 42 = .ok (.iastore, 1) := by decide +kernel
theorem dX10_node_43 : decode cX10_node 43 = .ok (.aload_n 0, 1) := by decide +kernel
theorem dX10_node_44 : decode cX10_node 44 = .ok (.getfield 29, 3) := by decide +kernel
theorem dX10_node_47 : decode cX10_node 47 = .ok (.aload_n 0, 1) := by decide +kernel
theorem dX10_node_48 : decode cX10_node 48 = .ok (.getfield 109, 3) := by decide +kernel
theorem dX10_node_51 : decode cX10_node 51 = .ok (.iconst (-1), 1) := by decide +kernel
theorem dX10_node_52 : decode cX10_node 52 = .ok (.iastore, 1) := by decide +kernel
theorem dX10_node_53 : decode cX10_node 53 = .ok (.aload_n 0, 1) := by decide +kernel
theorem dX10_node_54 : decode cX10_node 54 = .ok (.getfield 32, 3) := by decide +kernel
theorem dX10_node_57 : decode cX10_node 57 = .ok (.aload_n 0, 1) := by decide +kernel
theorem dX10_node_58 : decode cX10_node 58 = .ok (.getfield 109, 3) := by decide +kernel
theorem dX10_node_61 : decode cX10_node 61 = .ok (.iconst (-1), 1) := by decide +kernel
theorem dX10_node_62 : decode cX10_node 62 = .ok (.iastore, 1) := by decide +kernel
theorem dX10_node_63 : decode cX10_node 63 = .ok (.aload_n 0, 1) := by decide +kernel
theorem dX10_node_64 : decode cX10_node 64 = .ok (.dup, 1) := by decide +kernel
theorem dX10_node_65 : decode cX10_node 65 = .ok (.getfield 109, 3) := by decide +kernel
theorem dX10_node_68 : decode cX10_node 68 = .ok (.iconst 1, 1) := by decide +kernel
theorem dX10_node_69 : decode cX10_node 69 = .ok (.iadd, 1) := by decide +kernel
theorem dX10_node_70 : decode cX10_node 70 = .ok (.putfield 109, 3) := by decide +kernel
theorem dX10_node_73 : decode cX10_node 73 = .ok (.aload_n 0, 1) := by decide +kernel
theorem dX10_node_74 : decode cX10_node 74 = .ok (.getfield 109, 3) := by decide +kernel
theorem dX10_node_77 : decode cX10_node 77 = .ok (.iconst 1, 1) := by decide +kernel
theorem dX10_node_78 : decode cX10_node 78 = .ok (.isub, 1) := by decide +kernel
theorem dX10_node_79 : decode cX10_node 79 = .ok (.ireturn, 1) := by decide +kernel
theorem dX10_value_0 : decode cX10_value 0 = .ok (.aload_n 0, 1) := by decide +kernel
theorem dX10_value_1 : decode cX10_value 1 = .ok (.invokevirtual 101, 3) := by decide +kernel
theorem dX10_value_4 : decode cX10_value 4 = .ok (.istore_n 1, 1) := by decide +kernel
theorem dX10_value_5 : decode cX10_value 5 = .ok (.iload_n 1, 1) := by decide +kernel
theorem dX10_value_6 : decode cX10_value 6 = .ok (.bipush 123, 2) := by decide +kernel
theorem dX10_value_8 : decode cX10_value 8 = .ok (.if_icmp .eq 9, 3) := by decide +kernel
theorem dX10_value_11 : decode cX10_value 11 = .ok (.iload_n 1, 1) := by decide +kernel
theorem dX10_value_12 : decode cX10_value 12 = .ok (.bipush 91, 2) := by decide +kernel
theorem dX10_value_14 : decode cX10_value 14 = .ok (.if_icmp .ne 66, 3) := by decide +kernel
theorem dX10_value_17 : decode cX10_value 17 = .ok (.aload_n 0, 1) := by decide +kernel
theorem dX10_value_18 : decode cX10_value 18 = .ok (.aload_n 0, 1) := by decide +kernel
theorem dX10_value_19 : decode cX10_value 19 = .ok (.getfield 112, 3) := by decide +kernel
theorem dX10_value_22 : decode cX10_value 22 = .ok (.bipush 24, 2) := by decide +kernel
theorem dX10_value_24 : decode cX10_value 24 = .ok (.if_icmp .ge 7, 3) := by decide +kernel
theorem dX10_value_27 : decode cX10_value 27 = .ok (.iconst 1, 1) := by decide +kernel
theorem dX10_value_28 : decode cX10_value 28 = .ok (.goto 4, 3) := by decide +kernel
theorem dX10_value_31 : decode cX10_value 31 = .ok (.iconst 0, 1) := by decide +kernel
theorem dX10_value_32 : decode cX10_value 32 = .ok (.iconst 1, 1) := by decide +kernel
theorem dX10_value_33 : decode cX10_value 33 = .ok (.aload_n 0, 1) := by decide +kernel
theorem dX10_value_34 : decode cX10_value 34 = .ok (.getfield 95, 3) := by decide +kernel
theorem dX10_value_37 : decode cX10_value 37 = .ok (.invokevirtual 105, 3) := by decide +kernel
theorem dX10_value_40 : decode cX10_value 40 = .ok (.aload_n 0, 1) := by decide +kernel
theorem dX10_value_41 : decode cX10_value 41 = .ok (.dup, 1) := by decide +kernel
theorem dX10_value_42 : decode cX10_value 42 = .ok (.getfield 112, 3) := by decide +kernel
theorem dX10_value_45 : decode cX10_value 45 = .ok (.iconst 1, 1) := by decide +kernel
theorem dX10_value_46 : decode cX10_value 46 = .ok (.iadd, 1) := by decide +kernel
theorem dX10_value_47 : decode cX10_value 47 = .ok (.putfield 112, 3) := by decide +kernel
theorem dX10_value_50 : decode cX10_value 50 = .ok (.iload_n 1, 1) := by decide +kernel
theorem dX10_value_51 : decode cX10_value 51 = .ok (.bipush 123, 2) := by decide +kernel
theorem dX10_value_53 : decode cX10_value 53 = .ok (.if_icmp .ne 10, 3) := by decide +kernel
theorem dX10_value_56 : decode cX10_value 56 = .ok (.aload_n 0, 1) := by decide +kernel
theorem dX10_value_57 : decode cX10_value 57 = .ok (.invokevirtual 115, 3) := by decide +kernel
theorem dX10_value_60 : decode cX10_value 60 = .ok (.goto 7, 3) := by decide +kernel
theorem dX10_value_63 : decode cX10_value 63 = .ok (.aload_n 0, 1) := by decide +kernel
theorem dX10_value_64 : decode cX10_value 64 = .ok (.invokevirtual 118, 3) := by decide +kernel
theorem dX10_value_67 : decode cX10_value 67 = .ok (.istore_n 2, 1) := by decide +kernel
theorem dX10_value_68 : decode cX10_value 68 = .ok (.aload_n 0, 1) := by decide +kernel
theorem dX10_value_69 : decode cX10_value 69 = .ok (.dup, 1) := by decide +kernel
theorem dX10_value_70 : decode cX10_value 70 = .ok (.getfield 112, 3) := by decide +kernel
theorem dX10_value_73 : decode cX10_value 73 = .ok (.iconst 1, 1) := by decide +kernel
theorem dX10_value_74 : decode cX10_value 74 = .ok (.isub, 1) := by decide +kernel
theorem dX10_value_75 : decode cX10_value 75 = .ok (.putfield 112, 3) := by decide +kernel
theorem dX10_value_78 : decode cX10_value 78 = .ok (.iload_n 2, 1) := by decide +kernel
theorem dX10_value_79 : decode cX10_value 79 = .ok (.ireturn, 1) := by decide +kernel
theorem dX10_value_80 : decode cX10_value 80 = .ok (.iload_n 1, 1) := by decide +kernel
theorem dX10_value_81 : decode cX10_value 81 = .ok (.bipush 34, 2) := by decide +kernel
theorem dX10_value_83 : decode cX10_value 83 = .ok (.if_icmp .ne 8, 3) := by decide +kernel
theorem dX10_value_86 : decode cX10_value 86 = .ok (.aload_n 0, 1) := by decide +kernel
theorem dX10_value_87 : decode cX10_value 87 = .ok (.invokevirtual 121, 3) := by decide +kernel
theorem dX10_value_90 : decode cX10_value 90 = .ok (.ireturn, 1) := by decide +kernel
theorem dX10_value_91 : decode cX10_value 91 = .ok (.iload_n 1, 1) := by decide +kernel
theorem dX10_value_92 : decode cX10_value 92 = .ok (.bipush 45, 2) := by decide +kernel
theorem dX10_value_94 : decode cX10_value 94 = .ok (.if_icmp .eq 15, 3) := by decide +kernel
theorem dX10_value_97 : decode cX10_value 97 = .ok (.iload_n 1, 1) := by decide +kernel
theorem dX10_value_98 : decode cX10_value 98 = .ok (.bipush 48, 2) := by decide +kernel
theorem dX10_value_100 : decode cX10_value 100 = .ok (.if_icmp .lt 14, 3) := by decide +kernel
theorem dX10_value_103 : decode cX10_value 103 = .ok (.iload_n 1, 1) := by decide +kernel
theorem dX10_value_104 : decode cX10_value 104 = .ok (.bipush 57, 2) := by decide +kernel
theorem dX10_value_106 : decode cX10_value 106 = .ok (.if_icmp .gt 8, 3) := by decide +kernel
theorem dX10_value_109 : decode cX10_value 109 = .ok (.aload_n 0, 1) := by decide +kernel
theorem dX10_value_110 : decode cX10_value 110 = .ok (.invokevirtual 124, 3) := by decide +kernel
theorem dX10_value_113 : decode cX10_value 113 = .ok (.ireturn, 1) := by decide +kernel
theorem dX10_value_114 : decode cX10_value 114 = .ok (.aload_n 0, 1) := by decide +kernel
theorem dX10_value_115 : decode cX10_value 115 = .ok (.iload_n 1, 1) := by decide +kernel
theorem dX10_value_116 : decode cX10_value 116 = .ok (.bipush 116, 2) := by decide +kernel
theorem dX10_value_118 : decode cX10_value 118 = .ok (.if_icmp .ne 7, 3) := by decide +kernel
theorem dX10_value_121 : decode cX10_value 121 = .ok (.iconst 4, 1) := by decide +kernel
theorem dX10_value_122 : decode cX10_value 122 = .ok (.goto 15, 3) := by decide +kernel
theorem dX10_value_125 : decode cX10_value 125 = .ok (.iload_n 1, 1) := by decide +kernel
theorem dX10_value_126 : decode cX10_value 126 = .ok (.bipush 102, 2) := by decide +kernel
theorem dX10_value_128 : decode cX10_value 128 = .ok (.if_icmp .ne 7, 3) := by decide +kernel
theorem dX10_value_131 : decode cX10_value 131 = .ok (.iconst 5, 1) := by decide +kernel
theorem dX10_value_132 : decode cX10_value 132 = .ok (.goto 5, 3) := by decide +kernel
theorem dX10_value_135 : decode cX10_value 135 = .ok (.bipush 6, 2) := by decide +kernel
theorem dX10_value_137 : decode cX10_value 137 = .ok (.invokevirtual 127, 3) := by decide +kernel
theorem dX10_value_140 : decode cX10_value 140 = .ok (.istore_n 2, 1) := by decide +kernel
theorem dX10_value_141 : decode cX10_value 141 = .ok (.iload_n 1, 1) := by decide +kernel
theorem dX10_value_142 : decode cX10_value 142 = .ok (.bipush 116, 2) := by decide +kernel
theorem dX10_value_144 : decode cX10_value 144 = .ok (.if_icmp .ne 8, 3) := by decide +kernel
theorem dX10_value_147 : decode cX10_value 147 = .ok (.ldc 131, 2) := by decide +kernel
theorem dX10_value_149 : decode cX10_value 149 = .ok (.goto 16, 3) := by decide +kernel
theorem dX10_value_152 : decode cX10_value 152 = .ok (.iload_n 1, 1) := by decide +kernel
theorem dX10_value_153 : decode cX10_value 153 = .ok (.bipush 102, 2) := by decide +kernel
theorem dX10_value_155 : decode cX10_value 155 = .ok (.if_icmp .ne 8, 3) := by decide +kernel
theorem dX10_value_158 : decode cX10_value 158 = .ok (.ldc 133, 2) := by decide +kernel
theorem dX10_value_160 : decode cX10_value 160 = .ok (.goto 5, 3) := by decide +kernel
theorem dX10_value_163 : decode cX10_value 163 = .ok (.ldc 135, 2) := by decide +kernel
theorem dX10_value_165 : decode cX10_value 165 = .ok (.astore_n 3, 1) := by decide +kernel
theorem dX10_value_166 : decode cX10_value 166 = .ok (.iconst 0, 1) := by decide +kernel
theorem dX10_value_167 : decode cX10_value 167 = .ok (.istore 4, 2) := by decide +kernel
theorem dX10_value_169 : decode cX10_value 169 = .ok (.iload 4, 2) := by decide +kernel
theorem dX10_value_171 : decode cX10_value 171 = .ok (.aload_n 3, 1) := by decide +kernel
theorem dX10_value_172 : decode cX10_value 172 = .ok (.invokevirtual 137, 3) := by decide +kernel
theorem dX10_value_175 : decode cX10_value 175 = .ok (.if_icmp .ge 19, 3) := by decide +kernel
theorem dX10_value_178 : decode cX10_value 178 = .ok (.aload_n 0, 1) := by decide +kernel
theorem dX10_value_179 : decode cX10_value 179 = .ok (.aload_n 3, 1) := by decide +kernel
theorem dX10_value_180 : decode cX10_value 180 = .ok (.iload 4, 2) := by decide +kernel
theorem dX10_value_182 : decode cX10_value 182 = .ok (.invokevirtual 141, 3) := by decide +kernel
theorem dX10_value_185 : decode cX10_value 185 = .ok (.invokevirtual 145, 3) := by decide +kernel
theorem dX10_value_188 : decode cX10_value 188 = .ok (.iinc 4 1, 3) := by decide +kernel
theorem dX10_value_191 : decode cX10_value 191 = .ok (.goto (-22), 3) := by decide +kernel
theorem dX10_value_194 : decode cX10_value 194 = .ok (.iload_n 2, 1) := by decide +kernel
theorem dX10_value_195 : decode cX10_value 195 = .ok (.ireturn, 1) := by decide +kernel
theorem dX10_list_0 : decode cX10_list 0 = .ok (.aload_n 0, 1) := by decide +kernel
theorem dX10_list_1 : decode cX10_list 1 = .ok (.iconst 1, 1) := by decide +kernel
theorem dX10_list_2 : decode cX10_list 2 = .ok (.invokevirtual 127, 3) := by decide +kernel
theorem dX10_list_5 : decode cX10_list 5 = .ok (.istore_n 1, 1) := by decide +kernel
theorem dX10_list_6 : decode cX10_list 6 = .ok (.aload_n 0, 1) := by decide +kernel
theorem dX10_list_7 : decode cX10_list 7 = .ok (.dup, 1) := by decide +kernel
theorem dX10_list_8 : decode cX10_list 8 = .ok (.getfield 95, 3) := by decide +kernel
theorem dX10_list_11 : decode cX10_list 11 = .ok (.iconst 1, 1) := by decide +kernel
theorem dX10_list_12 : decode cX10_list 12 = .ok (.iadd, 1) := by decide +kernel
theorem dX10_list_13 : decode cX10_list 13 = .ok (.putfield 95, 3) := by decide +kernel
theorem dX10_list_16 : decode cX10_list 16 = .ok (.aload_n 0, 1) := by decide +kernel
theorem dX10_list_17 : decode cX10_list 17 = .ok (.invokevirtual 149, 3) := by decide +kernel
theorem dX10_list_20 : decode cX10_list 20 = .ok (.iconst (-1), 1) := by decide +kernel
theorem dX10_list_21 : decode cX10_list 21 = .ok (.istore_n 2, 1) := by decide +kernel
theorem dX10_list_22 : decode cX10_list 22 = .ok (.aload_n 0, 1) := by decide +kernel
theorem dX10_list_23 : decode cX10_list 23 = .ok (.invokevirtual 101, 3) := by decide +kernel
theorem dX10_list_26 : decode cX10_list 26 = .ok (.bipush 93, 2) := by decide +kernel
theorem dX10_list_28 : decode cX10_list 28 = .ok (.if_icmp .eq 7, 3) := by decide +kernel
theorem dX10_list_31 : decode cX10_list 31 = .ok (.iconst 1, 1) := by decide +kernel
theorem dX10_list_32 : decode cX10_list 32 = .ok (.goto 4, 3) := by decide +kernel
theorem dX10_list_35 : decode cX10_list 35 = .ok (.iconst 0, 1) := by decide +kernel
theorem dX10_list_36 : decode cX10_list 36 = .ok (.istore_n 3, 1) := by decide +kernel
theorem dX10_list_37 : decode cX10_list 37 = .ok (.iload_n 3, 1) := by decide +kernel
theorem dX10_list_38 : decode cX10_list 38 = .ok (.ifCond .eq 85, 3) := by decide +kernel
theorem dX10_list_41 : decode cX10_list 41 = .ok (.aload_n 0, 1) := by decide +kernel
theorem dX10_list_42 : decode cX10_list 42 = .ok (.invokevirtual 152, 3) := by decide +kernel
theorem dX10_list_45 : decode cX10_list 45 = .ok (.istore 4, 2) := by decide +kernel
theorem dX10_list_47 : decode cX10_list 47 = .ok (.iload_n 2, 1) := by decide +kernel
theorem dX10_list_48 : decode cX10_list 48 = .ok (.ifCond .ge 14, 3) := by decide +kernel
theorem dX10_list_51 : decode cX10_list 51 = .ok (.aload_n 0, 1) := by decide +kernel
theorem dX10_list_52 : decode cX10_list 52 = .ok (.getfield 29, 3) := by decide +kernel
theorem dX10_list_55 : decode cX10_list 55 = .ok (.iload_n 1, 1) := by decide +kernel
theorem dX10_list_56 : decode cX10_list 56 = .ok (.iload 4, 2) := by decide +kernel
theorem dX10_list_58 : decode cX10_list 58 = .ok (.iastore, 1) := by decide +kernel
theorem dX10_list_59 : decode cX10_list 59 = .ok (.goto 11, 3) := by decide +kernel
theorem dX10_list_62 : decode cX10_list 62 = .ok (.aload_n 0, 1) := by decide +kernel
theorem dX10_list_63 : decode cX10_list 63 = .ok (.getfield 32, 3) := by decide +kernel
theorem dX10_list_66 : decode cX10_list 66 = .ok (.iload_n 2, 1) := by decide +kernel
theorem dX10_list_67 : decode cX10_list 67 = .ok (.iload 4, 2) := by decide +kernel
theorem dX10_list_69 : decode cX10_list 69 = .ok (.iastore, 1) := by decide +kernel
theorem dX10_list_70 : decode cX10_list 70 = .ok (.iload 4, 2) := by decide +kernel
theorem dX10_list_72 : decode cX10_list 72 = .ok (.istore_n 2, 1) := by decide +kernel
theorem dX10_list_73 : decode cX10_list 73 = .ok (.aload_n 0, 1) := by decide +kernel
theorem dX10_list_74 : decode cX10_list 74 = .ok (.getfield 26, 3) := by decide +kernel
theorem dX10_list_77 : decode cX10_list 77 = .ok (.iload_n 1, 1) := by decide +kernel
theorem dX10_list_78 : decode cX10_list 78 = .ok (.dup2, 1) := by decide +kernel
theorem dX10_list_79 : decode cX10_list 79 = .ok (.iaload, 1) := by decide +kernel
theorem dX10_list_80 : decode cX10_list 80 = .ok (.iconst 1, 1) := by decide +kernel
theorem dX10_list_81 : decode cX10_list 81 = .ok (.iadd, 1) := by decide +kernel
theorem dX10_list_82 : decode cX10_list 82 = .ok (.iastore, 1) := by decide +kernel
theorem dX10_list_83 : decode cX10_list 83 = .ok (.aload_n 0, 1) := by decide +kernel
theorem dX10_list_84 : decode cX10_list 84 = .ok (.invokevirtual 149, 3) := by decide +kernel
theorem dX10_list_87 : decode cX10_list 87 = .ok (.aload_n 0, 1) := by decide +kernel
theorem dX10_list_88 : decode cX10_list 88 = .ok (.invokevirtual 101, 3) := by decide +kernel
theorem dX10_list_91 : decode cX10_list 91 = .ok (.bipush 44, 2) := by decide +kernel
theorem dX10_list_93 : decode cX10_list 93 = .ok (.if_icmp .ne 7, 3) := by decide +kernel
theorem dX10_list_96 : decode cX10_list 96 = .ok (.iconst 1, 1) := by decide +kernel
theorem dX10_list_97 : decode cX10_list 97 = .ok (.goto 4, 3) := by decide +kernel
theorem dX10_list_100 : decode cX10_list 100 = .ok (.iconst 0, 1) := by decide +kernel
theorem dX10_list_101 : decode cX10_list 101 = .ok (.istore_n 3, 1) := by decide +kernel
theorem dX10_list_102 : decode cX10_list 102 = .ok (.iload_n 3, 1) := by decide +kernel
theorem dX10_list_103 : decode cX10_list 103 = .ok (.ifCond .eq 17, 3) := by decide +kernel
theorem dX10_list_106 : decode cX10_list 106 = .ok (.aload_n 0, 1) := by decide +kernel
theorem dX10_list_107 : decode cX10_list 107 = .ok (.dup, 1) := by decide +kernel
theorem dX10_list_108 : decode cX10_list 108 = .ok (.getfield 95, 3) := by decide +kernel
theorem dX10_list_111 : decode cX10_list 111 = .ok (.iconst 1, 1) := by decide +kernel
theorem dX10_list_112 : decode cX10_list 112 = .ok (.iadd, 1) := by decide +kernel
theorem dX10_list_113 : decode cX10_list 113 = .ok (.putfield 95, 3) := by decide +kernel
theorem dX10_list_116 : decode cX10_list 116 = .ok (.aload_n 0, 1) := by decide +kernel
theorem dX10_list_117 : decode cX10_list 117 = .ok (.invokevirtual 149, 3) := by decide +kernel
theorem dX10_list_120 : decode cX10_list 120 = .ok (.goto (-83), 3) := by decide +kernel
theorem dX10_list_123 : decode cX10_list 123 = .ok (.aload_n 0, 1) := by decide +kernel
theorem dX10_list_124 : decode cX10_list 124 = .ok (.bipush 93, 2) := by decide +kernel
theorem dX10_list_126 : decode cX10_list 126 = .ok (.invokevirtual 145, 3) := by decide +kernel
theorem dX10_list_129 : decode cX10_list 129 = .ok (.iload_n 1, 1) := by decide +kernel
theorem dX10_list_130 : decode cX10_list 130 = .ok (.ireturn, 1) := by decide +kernel
theorem dX10_object_0 : decode cX10_object 0 = .ok (.aload_n 0, 1) := by decide +kernel
theorem dX10_object_1 : decode cX10_object 1 = .ok (.iconst 0, 1) := by decide +kernel
theorem dX10_object_2 : decode cX10_object 2 = .ok (.invokevirtual 127, 3) := by decide +kernel
theorem dX10_object_5 : decode cX10_object 5 = .ok (.istore_n 1, 1) := by decide +kernel
theorem dX10_object_6 : decode cX10_object 6 = .ok (.aload_n 0, 1) := by decide +kernel
theorem dX10_object_7 : decode cX10_object 7 = .ok (.dup, 1) := by decide +kernel
theorem dX10_object_8 : decode cX10_object 8 = .ok (.getfield 95, 3) := by decide +kernel
theorem dX10_object_11 : decode cX10_object 11 = .ok (.iconst 1, 1) := by decide +kernel
theorem dX10_object_12 : decode cX10_object 12 = .ok (.iadd, 1) := by decide +kernel
theorem dX10_object_13 : decode cX10_object 13 = .ok (.putfield 95, 3) := by decide +kernel
theorem dX10_object_16 : decode cX10_object 16 = .ok (.aload_n 0, 1) := by decide +kernel
theorem dX10_object_17 : decode cX10_object 17 = .ok (.invokevirtual 149, 3) := by decide +kernel
theorem dX10_object_20 : decode cX10_object 20 = .ok (.iconst (-1), 1) := by decide +kernel
theorem dX10_object_21 : decode cX10_object 21 = .ok (.istore_n 2, 1) := by decide +kernel
theorem dX10_object_22 : decode cX10_object 22 = .ok (.aload_n 0, 1) := by decide +kernel
theorem dX10_object_23 : decode cX10_object 23 = .ok (.invokevirtual 101, 3) := by decide +kernel
theorem dX10_object_26 : decode cX10_object 26 = .ok (.bipush 125, 2) := by decide +kernel
theorem dX10_object_28 : decode cX10_object 28 = .ok (.if_icmp .eq 7, 3) := by decide +kernel
theorem dX10_object_31 : decode cX10_object 31 = .ok (.iconst 1, 1) := by decide +kernel
theorem dX10_object_32 : decode cX10_object 32 = .ok (.goto 4, 3) := by decide +kernel
theorem dX10_object_35 : decode cX10_object 35 = .ok (.iconst 0, 1) := by decide +kernel
theorem dX10_object_36 : decode cX10_object 36 = .ok (.istore_n 3, 1) := by decide +kernel
theorem dX10_object_37 : decode cX10_object 37 = .ok (.iload_n 3, 1) := by decide +kernel
theorem dX10_object_38 : decode cX10_object 38 = .ok (.ifCond .eq 186, 3) := by decide +kernel
theorem dX10_object_41 : decode cX10_object 41 = .ok (.aload_n 0, 1) := by decide +kernel
theorem dX10_object_42 : decode cX10_object 42 = .ok (.aload_n 0, 1) := by decide +kernel
theorem dX10_object_43 : decode cX10_object 43 = .ok (.invokevirtual 101, 3) := by decide +kernel
theorem dX10_object_46 : decode cX10_object 46 = .ok (.bipush 34, 2) := by decide +kernel
theorem dX10_object_48 : decode cX10_object 48 = .ok (.if_icmp .ne 7, 3) := by decide +kernel
theorem dX10_object_51 : decode cX10_object 51 = .ok (.iconst 1, 1) := by decide +kernel
theorem dX10_object_52 : decode cX10_object 52 = .ok (.goto 4, 3) := by decide +kernel
theorem dX10_object_55 : decode cX10_object 55 = .ok (.iconst 0, 1) := by decide +kernel
theorem dX10_object_56 : decode cX10_object 56 = .ok (.iconst 1, 1) := by decide +kernel
theorem dX10_object_57 : decode cX10_object 57 = .ok (.aload_n 0, 1) := by decide +kernel
theorem dX10_object_58 : decode cX10_object 58 = .ok (.getfield 95, 3) := by decide +kernel
theorem dX10_object_61 : decode cX10_object 61 = .ok (.invokevirtual 105, 3) := by decide +kernel
theorem dX10_object_64 : decode cX10_object 64 = .ok (.aload_n 0, 1) := by decide +kernel
theorem dX10_object_65 : decode cX10_object 65 = .ok (.invokevirtual 121, 3) := by decide +kernel
theorem dX10_object_68 : decode cX10_object 68 = .ok (.istore 4, 2) := by decide +kernel
theorem dX10_object_70 : decode cX10_object 70 = .ok (.aload_n 0, 1) := by decide +kernel
theorem dX10_object_71 : decode cX10_object 71 = .ok (.getfield 29, 3) := by decide +kernel
theorem dX10_object_74 : decode cX10_object 74 = .ok (.iload_n 1, 1) := by decide +kernel
theorem dX10_object_75 : decode cX10_object 75 = .ok (.iaload, 1) := by decide +kernel
theorem dX10_object_76 : decode cX10_object 76 = .ok (.istore 5, 2) := by decide +kernel
theorem dX10_object_78 : decode cX10_object 78 = .ok (.iload 5, 2) := by decide +kernel
theorem dX10_object_80 : decode cX10_object 80 = .ok (.ifCond .lt 49, 3) := by decide +kernel
theorem dX10_object_83 : decode cX10_object 83 = .ok (.aload_n 0, 1) := by decide +kernel
theorem dX10_object_84 : decode cX10_object 84 = .ok (.aload_n 0, 1) := by decide +kernel
theorem dX10_object_85 : decode cX10_object 85 = .ok (.iload 5, 2) := by decide +kernel
theorem dX10_object_87 : decode cX10_object 87 = .ok (.aload_n 0, 1) := by decide +kernel
theorem dX10_object_88 : decode cX10_object 88 = .ok (.iload 4, 2) := by decide +kernel
theorem dX10_object_90 : decode cX10_object 90 = .ok (.invokevirtual 155, 3) := by decide +kernel
theorem dX10_object_93 : decode cX10_object 93 = .ok (.ifCond .ne 7, 3) := by decide +kernel
theorem dX10_object_96 : decode cX10_object 96 = .ok (.iconst 1, 1) := by decide +kernel
theorem dX10_object_97 : decode cX10_object 97 = .ok (.goto 4, 3) := by decide +kernel
theorem dX10_object_100 : decode cX10_object 100 = .ok (.iconst 0, 1) := by decide +kernel
theorem dX10_object_101 : decode cX10_object 101 = .ok (.iconst 1, 1) := by decide +kernel
theorem dX10_object_102 : decode cX10_object 102 = .ok (.aload_n 0, 1) := by decide +kernel
theorem dX10_object_103 : decode cX10_object 103 = .ok (.getfield 19, 3) := by decide +kernel
theorem dX10_object_106 : decode cX10_object 106 = .ok (.iload 4, 2) := by decide +kernel
theorem dX10_object_108 : decode cX10_object 108 = .ok (.iaload, 1) := by decide +kernel
theorem dX10_object_109 : decode cX10_object 109 = .ok (.invokevirtual 105, 3) := by decide +kernel
theorem dX10_object_112 : decode cX10_object 112 = .ok (.aload_n 0, 1) := by decide +kernel
theorem dX10_object_113 : decode cX10_object 113 = .ok (.getfield 32, 3) := by decide +kernel
theorem dX10_object_116 : decode cX10_object 116 = .ok (.aload_n 0, 1) := by decide +kernel
theorem dX10_object_117 : decode cX10_object 117 = .ok (.getfield 32, 3) := by decide +kernel
theorem dX10_object_120 : decode cX10_object 120 = .ok (.iload 5, 2) := by decide +kernel
theorem dX10_object_122 : decode cX10_object 122 = .ok (.iaload, 1) := by decide +kernel
theorem dX10_object_123 : decode cX10_object 123 = .ok (.iaload, 1) := by decide +kernel
theorem dX10_object_124 : decode cX10_object 124 = .ok (.istore 5, 2) := by decide +kernel
theorem dX10_object_126 : decode cX10_object 126 = .ok (.goto (-48), 3) := by decide +kernel
theorem dX10_object_129 : decode cX10_object 129 = .ok (.aload_n 0, 1) := by decide +kernel
theorem dX10_object_130 : decode cX10_object 130 = .ok (.invokevirtual 149, 3) := by decide +kernel
theorem dX10_object_133 : decode cX10_object 133 = .ok (.aload_n 0, 1) := by decide +kernel
theorem dX10_object_134 : decode cX10_object 134 = .ok (.bipush 58, 2) := by decide +kernel
theorem dX10_object_136 : decode cX10_object 136 = .ok (.invokevirtual 145, 3) := by decide +kernel
theorem dX10_object_139 : decode cX10_object 139 = .ok (.aload_n 0, 1) := by decide +kernel
theorem dX10_object_140 : decode cX10_object 140 = .ok (.invokevirtual 149, 3) := by decide +kernel
theorem dX10_object_143 : decode cX10_object 143 = .ok (.aload_n 0, 1) := by decide +kernel
theorem dX10_object_144 : decode cX10_object 144 = .ok (.invokevirtual 152, 3) := by decide +kernel
theorem dX10_object_147 : decode cX10_object 147 = .ok (.istore 5, 2) := by decide +kernel
theorem dX10_object_149 : decode cX10_object 149 = .ok (.iload_n 2, 1) := by decide +kernel
theorem dX10_object_150 : decode cX10_object 150 = .ok (.ifCond .ge 14, 3) := by decide +kernel
theorem dX10_object_153 : decode cX10_object 153 = .ok (.aload_n 0, 1) := by decide +kernel
theorem dX10_object_154 : decode cX10_object 154 = .ok (.getfield 29, 3) := by decide +kernel
theorem dX10_object_157 : decode cX10_object 157 = .ok (.iload_n 1, 1) := by decide +kernel
theorem dX10_object_158 : decode cX10_object 158 = .ok (.iload 4, 2) := by decide +kernel
theorem dX10_object_160 : decode cX10_object 160 = .ok (.iastore, 1) := by decide +kernel
theorem dX10_object_161 : decode cX10_object 161 = .ok (.goto 11, 3) := by decide +kernel
theorem dX10_object_164 : decode cX10_object 164 = .ok (.aload_n 0, 1) := by decide +kernel
theorem dX10_object_165 : decode cX10_object 165 = .ok (.getfield 32, 3) := by decide +kernel
theorem dX10_object_168 : decode cX10_object 168 = .ok (.iload_n 2, 1) := by decide +kernel
theorem dX10_object_169 : decode cX10_object 169 = .ok (.iload 4, 2) := by decide +kernel
theorem dX10_object_171 : decode cX10_object 171 = .ok (.iastore, 1) := by decide +kernel
theorem dX10_object_172 : decode cX10_object 172 = .ok (.aload_n 0, 1) := by decide +kernel
theorem dX10_object_173 : decode cX10_object 173 = .ok (.getfield 32, 3) := by decide +kernel
theorem dX10_object_176 : decode cX10_object 176 = .ok (.iload 4, 2) := by decide +kernel
theorem dX10_object_178 : decode cX10_object 178 = .ok (.iload 5, 2) := by decide +kernel
theorem dX10_object_180 : decode cX10_object 180 = .ok (.iastore, 1) := by decide +kernel
theorem dX10_object_181 : decode cX10_object 181 = .ok (.iload 5, 2) := by decide +kernel
theorem dX10_object_183 : decode cX10_object 183 = .ok (.istore_n 2, 1) := by decide +kernel
theorem dX10_object_184 : decode cX10_object 184 = .ok (.aload_n 0, 1) := by decide +kernel
theorem dX10_object_185 : decode cX10_object 185 = .ok (.invokevirtual 149, 3) := by decide +kernel
theorem dX10_object_188 : decode cX10_object 188 = .ok (.aload_n 0, 1) := by decide +kernel
theorem dX10_object_189 : decode cX10_object 189 = .ok (.invokevirtual 101, 3) := by decide +kernel
theorem dX10_object_192 : decode cX10_object 192 = .ok (.bipush 44, 2) := by decide +kernel
theorem dX10_object_194 : decode cX10_object 194 = .ok (.if_icmp .ne 7, 3) := by decide +kernel
theorem dX10_object_197 : decode cX10_object 197 = .ok (.iconst 1, 1) := by decide +kernel
theorem dX10_object_198 : decode cX10_object 198 = .ok (.goto 4, 3) := by decide +kernel
theorem dX10_object_201 : decode cX10_object 201 = .ok (.iconst 0, 1) := by decide +kernel
theorem dX10_object_202 : decode cX10_object 202 = .ok (.istore_n 3, 1) := by decide +kernel
theorem dX10_object_203 : decode cX10_object 203 = .ok (.iload_n 3, 1) := by decide +kernel
theorem dX10_object_204 : decode cX10_object 204 = .ok (.ifCond .eq 17, 3) := by decide +kernel
theorem dX10_object_207 : decode cX10_object 207 = .ok (.aload_n 0, 1) := by decide +kernel
theorem dX10_object_208 : decode cX10_object 208 = .ok (.dup, 1) := by decide +kernel
theorem dX10_object_209 : decode cX10_object 209 = .ok (.getfield 95, 3) := by decide +kernel
theorem dX10_object_212 : decode cX10_object 212 = .ok (.iconst 1, 1) := by decide +kernel
theorem dX10_object_213 : decode cX10_object 213 = .ok (.iadd, 1) := by decide +kernel
theorem dX10_object_214 : decode cX10_object 214 = .ok (.putfield 95, 3) := by decide +kernel
theorem dX10_object_217 : decode cX10_object 217 = .ok (.aload_n 0, 1) := by decide +kernel
theorem dX10_object_218 : decode cX10_object 218 = .ok (.invokevirtual 149, 3) := by decide +kernel
theorem dX10_object_221 : decode cX10_object 221 = .ok (.goto (-184), 3) := by decide +kernel
theorem dX10_object_224 : decode cX10_object 224 = .ok (.aload_n 0, 1) := by decide +kernel
theorem dX10_object_225 : decode cX10_object 225 = .ok (.bipush 125, 2) := by decide +kernel
theorem dX10_object_227 : decode cX10_object 227 = .ok (.invokevirtual 145, 3) := by decide +kernel
theorem dX10_object_230 : decode cX10_object 230 = .ok (.iload_n 1, 1) := by decide +kernel
theorem dX10_object_231 : decode cX10_object 231 = .ok (.ireturn, 1) := by decide +kernel
theorem dX10_hex_0 : decode cX10_hex 0 = .ok (.iload_n 0, 1) := by decide +kernel
theorem dX10_hex_1 : decode cX10_hex 1 = .ok (.bipush 48, 2) := by decide +kernel
theorem dX10_hex_3 : decode cX10_hex 3 = .ok (.if_icmp .lt 16, 3) := by decide +kernel
theorem dX10_hex_6 : decode cX10_hex 6 = .ok (.iload_n 0, 1) := by decide +kernel
theorem dX10_hex_7 : decode cX10_hex 7 = .ok (.bipush 57, 2) := by decide +kernel
theorem dX10_hex_9 : decode cX10_hex 9 = .ok (.if_icmp .gt 10, 3) := by decide +kernel
theorem dX10_hex_12 : decode cX10_hex 12 = .ok (.iload_n 0, 1) := by decide +kernel
theorem dX10_hex_13 : decode cX10_hex 13 = .ok (.bipush 48, 2) := by decide +kernel
theorem dX10_hex_15 : decode cX10_hex 15 = .ok (.isub, 1) := by decide +kernel
theorem dX10_hex_16 : decode cX10_hex 16 = .ok (.goto 48, 3) := by decide +kernel
theorem dX10_hex_19 : decode cX10_hex 19 = .ok (.iload_n 0, 1) := by decide +kernel
theorem dX10_hex_20 : decode cX10_hex 20 = .ok (.bipush 97, 2) := by decide +kernel
theorem dX10_hex_22 : decode cX10_hex 22 = .ok (.if_icmp .lt 19, 3) := by decide +kernel
theorem dX10_hex_25 : decode cX10_hex 25 = .ok (.iload_n 0, 1) := by decide +kernel
theorem dX10_hex_26 : decode cX10_hex 26 = .ok (.bipush 102, 2) := by decide +kernel
theorem dX10_hex_28 : decode cX10_hex 28 = .ok (.if_icmp .gt 13, 3) := by decide +kernel
theorem dX10_hex_31 : decode cX10_hex 31 = .ok (.iload_n 0, 1) := by decide +kernel
theorem dX10_hex_32 : decode cX10_hex 32 = .ok (.bipush 97, 2) := by decide +kernel
theorem dX10_hex_34 : decode cX10_hex 34 = .ok (.isub, 1) := by decide +kernel
theorem dX10_hex_35 : decode cX10_hex 35 = .ok (.bipush 10, 2) := by decide +kernel
theorem dX10_hex_37 : decode cX10_hex 37 = .ok (.iadd, 1) := by decide +kernel
theorem dX10_hex_38 : decode cX10_hex 38 = .ok (.goto 26, 3) := by decide +kernel
theorem dX10_hex_41 : decode cX10_hex 41 = .ok (.iload_n 0, 1) := by decide +kernel
theorem dX10_hex_42 : decode cX10_hex 42 = .ok (.bipush 65, 2) := by decide +kernel
theorem dX10_hex_44 : decode cX10_hex 44 = .ok (.if_icmp .lt 19, 3) := by decide +kernel
theorem dX10_hex_47 : decode cX10_hex 47 = .ok (.iload_n 0, 1) := by decide +kernel
theorem dX10_hex_48 : decode cX10_hex 48 = .ok (.bipush 70, 2) := by decide +kernel
theorem dX10_hex_50 : decode cX10_hex 50 = .ok (.if_icmp .gt 13, 3) := by decide +kernel
theorem dX10_hex_53 : decode cX10_hex 53 = .ok (.iload_n 0, 1) := by decide +kernel
theorem dX10_hex_54 : decode cX10_hex 54 = .ok (.bipush 65, 2) := by decide +kernel
theorem dX10_hex_56 : decode cX10_hex 56 = .ok (.isub, 1) := by decide +kernel
theorem dX10_hex_57 : decode cX10_hex 57 = .ok (.bipush 10, 2) := by decide +kernel
theorem dX10_hex_59 : decode cX10_hex 59 = .ok (.iadd, 1) := by decide +kernel
theorem dX10_hex_60 : decode cX10_hex 60 = .ok (.goto 4, 3) := by decide +kernel
theorem dX10_hex_63 : decode cX10_hex 63 = .ok (.iconst (-1), 1) := by decide +kernel
theorem dX10_hex_64 : decode cX10_hex 64 = .ok (.ireturn, 1) := by decide +kernel
theorem dX10_escaped_0 : decode cX10_escaped 0 = .ok (.aload_n 0, 1) := by decide +kernel
theorem dX10_escaped_1 : decode cX10_escaped 1 = .ok (.getfield 95, 3) := by decide +kernel
theorem dX10_escaped_4 : decode cX10_escaped 4 = .ok (.istore_n 1, 1) := by decide +kernel
theorem dX10_escaped_5 : decode cX10_escaped 5 = .ok (.aload_n 0, 1) := by decide +kernel
theorem dX10_escaped_6 : decode cX10_escaped 6 = .ok (.dup, 1) := by decide +kernel
theorem dX10_escaped_7 : decode cX10_escaped 7 = .ok (.getfield 95, 3) := by decide +kernel
theorem dX10_escaped_10 : decode cX10_escaped 10 = .ok (.iconst 1, 1) := by decide +kernel
theorem dX10_escaped_11 : decode cX10_escaped 11 = .ok (.iadd, 1) := by decide +kernel
theorem dX10_escaped_12 : decode cX10_escaped 12 = .ok (.putfield 95, 3) := by decide +kernel
theorem dX10_escaped_15 : decode cX10_escaped 15 = .ok (.aload_n 0, 1) := by decide +kernel
theorem dX10_escaped_16 : decode cX10_escaped 16 = .ok (.invokevirtual 101, 3) := by decide +kernel
theorem dX10_escaped_19 : decode cX10_escaped 19 = .ok (.istore_n 2, 1) := by decide +kernel
theorem dX10_escaped_20 : decode cX10_escaped 20 = .ok (.iload_n 2, 1) := by decide +kernel
theorem dX10_escaped_21 : decode cX10_escaped 21 = .ok (.ifCond .ge 7, 3) := by decide +kernel
theorem dX10_escaped_24 : decode cX10_escaped 24 = .ok (.iconst (-1), 1) := by decide +kernel
theorem dX10_escaped_25 : decode cX10_escaped 25 = .ok (.goto 10, 3) := by decide +kernel
theorem dX10_escaped_28 : decode cX10_escaped 28 = .ok (.ldc 159, 2) := by decide +kernel
theorem dX10_escaped_30 : decode cX10_escaped 30 = .ok (.iload_n 2, 1) := by decide +kernel
theorem dX10_escaped_31 : decode cX10_escaped 31 = .ok (.i2c, 1) := by decide +kernel
theorem dX10_escaped_32 : decode cX10_escaped 32 = .ok (.invokevirtual 161, 3) := by decide +kernel
theorem dX10_escaped_35 : decode cX10_escaped 35 = .ok (.istore_n 3, 1) := by decide +kernel
theorem dX10_escaped_36 : decode cX10_escaped 36 = .ok (.iload_n 3, 1) := by decide +kernel
theorem dX10_escaped_37 : decode cX10_escaped 37 = .ok (.ifCond .lt 86, 3) := by decide +kernel
theorem dX10_escaped_40 : decode cX10_escaped 40 = .ok (.aload_n 0, 1) := by decide +kernel
theorem dX10_escaped_41 : decode cX10_escaped 41 = .ok (.dup, 1) := by decide +kernel
theorem dX10_escaped_42 : decode cX10_escaped 42 = .ok (.getfield 95, 3) := by decide +kernel
theorem dX10_escaped_45 : decode cX10_escaped 45 = .ok (.iconst 1, 1) := by decide +kernel
theorem dX10_escaped_46 : decode cX10_escaped 46 = .ok (.iadd, 1) := by decide +kernel
theorem dX10_escaped_47 : decode cX10_escaped 47 = .ok (.putfield 95, 3) := by decide +kernel
theorem dX10_escaped_50 : decode cX10_escaped 50 = .ok (.iload_n 3, 1) := by decide +kernel
theorem dX10_escaped_51 : decode cX10_escaped 51 = .ok (.ifCond .ne 8, 3) := by decide +kernel
theorem dX10_escaped_54 : decode cX10_escaped 54 = .ok (.bipush 34, 2) := by decide +kernel
theorem dX10_escaped_56 : decode cX10_escaped 56 = .ok (.goto 66, 3) := by decide +kernel
theorem dX10_escaped_59 : decode cX10_escaped 59 = .ok (.iload_n 3, 1) := by decide +kernel
theorem dX10_escaped_60 : decode cX10_escaped 60 = .ok (.iconst 1, 1) := by decide +kernel
theorem dX10_escaped_61 : decode cX10_escaped 61 = .ok (.if_icmp .ne 8, 3) := by decide +kernel
theorem dX10_escaped_64 : decode cX10_escaped 64 = .ok (.bipush 92, 2) := by decide +kernel
theorem dX10_escaped_66 : decode cX10_escaped 66 = .ok (.goto 56, 3) := by decide +kernel
theorem dX10_escaped_69 : decode cX10_escaped 69 = .ok (.iload_n 3, 1) := by decide +kernel
theorem dX10_escaped_70 : decode cX10_escaped 70 = .ok (.iconst 2, 1) := by decide +kernel
theorem dX10_escaped_71 : decode cX10_escaped 71 = .ok (.if_icmp .ne 8, 3) := by decide +kernel
theorem dX10_escaped_74 : decode cX10_escaped 74 = .ok (.bipush 47, 2) := by decide +kernel
theorem dX10_escaped_76 : decode cX10_escaped 76 = .ok (.goto 46, 3) := by decide +kernel
theorem dX10_escaped_79 : decode cX10_escaped 79 = .ok (.iload_n 3, 1) := by decide +kernel
theorem dX10_escaped_80 : decode cX10_escaped 80 = .ok (.iconst 3, 1) := by decide +kernel
theorem dX10_escaped_81 : decode cX10_escaped 81 = .ok (.if_icmp .ne 8, 3) := by decide +kernel
theorem dX10_escaped_84 : decode cX10_escaped 84 = .ok (.bipush 8, 2) := by decide +kernel
theorem dX10_escaped_86 : decode cX10_escaped 86 = .ok (.goto 36, 3) := by decide +kernel
theorem dX10_escaped_89 : decode cX10_escaped 89 = .ok (.iload_n 3, 1) := by decide +kernel
theorem dX10_escaped_90 : decode cX10_escaped 90 = .ok (.iconst 4, 1) := by decide +kernel
theorem dX10_escaped_91 : decode cX10_escaped 91 = .ok (.if_icmp .ne 8, 3) := by decide +kernel
theorem dX10_escaped_94 : decode cX10_escaped 94 = .ok (.bipush 12, 2) := by decide +kernel
theorem dX10_escaped_96 : decode cX10_escaped 96 = .ok (.goto 26, 3) := by decide +kernel
theorem dX10_escaped_99 : decode cX10_escaped 99 = .ok (.iload_n 3, 1) := by decide +kernel
theorem dX10_escaped_100 : decode cX10_escaped 100 = .ok (.iconst 5, 1) := by decide +kernel
theorem dX10_escaped_101 : decode cX10_escaped 101 = .ok (.if_icmp .ne 8, 3) := by decide +kernel
theorem dX10_escaped_104 : decode cX10_escaped 104 = .ok (.bipush 10, 2) := by decide +kernel
theorem dX10_escaped_106 : decode cX10_escaped 106 = .ok (.goto 16, 3) := by decide +kernel
theorem dX10_escaped_109 : decode cX10_escaped 109 = .ok (.iload_n 3, 1) := by decide +kernel
theorem dX10_escaped_110 : decode cX10_escaped 110 = .ok (.bipush 6, 2) := by decide +kernel
theorem dX10_escaped_112 : decode cX10_escaped 112 = .ok (.if_icmp .ne 8, 3) := by decide +kernel
theorem dX10_escaped_115 : decode cX10_escaped 115 = .ok (.bipush 13, 2) := by decide +kernel
theorem dX10_escaped_117 : decode cX10_escaped 117 = .ok (.goto 5, 3) := by decide +kernel
theorem dX10_escaped_120 : decode cX10_escaped 120 = .ok (.bipush 9, 2) := by decide +kernel
theorem dX10_escaped_122 : decode cX10_escaped 122 = .ok (.ireturn, 1) := by decide +kernel
theorem dX10_escaped_123 : decode cX10_escaped 123 = .ok (.aload_n 0, 1) := by decide +kernel
theorem dX10_escaped_124 : decode cX10_escaped 124 = .ok (.bipush 117, 2) := by decide +kernel
theorem dX10_escaped_126 : decode cX10_escaped 126 = .ok (.invokevirtual 145, 3) := by decide +kernel
theorem dX10_escaped_129 : decode cX10_escaped 129 = .ok (.iconst 0, 1) := by decide +kernel
theorem dX10_escaped_130 : decode cX10_escaped 130 = .ok (.istore 4, 2) := by decide +kernel
theorem dX10_escaped_132 : decode cX10_escaped 132 = .ok (.iconst 0, 1) := by decide +kernel
theorem dX10_escaped_133 : decode cX10_escaped 133 = .ok (.istore 5, 2) := by decide +kernel
theorem dX10_escaped_135 : decode cX10_escaped 135 = .ok (.iload 5, 2) := by decide +kernel
theorem dX10_escaped_137 : decode cX10_escaped 137 = .ok (.iconst 4, 1) := by decide +kernel
theorem dX10_escaped_138 : decode cX10_escaped 138 = .ok (.if_icmp .ge 58, 3) := by decide +kernel
theorem dX10_escaped_141 : decode cX10_escaped 141 = .ok (.aload_n 0, 1) := by decide +kernel
theorem dX10_escaped_142 : decode cX10_escaped 142 = .ok (.aload_n 0, 1) := by decide +kernel
theorem dX10_escaped_143 : decode cX10_escaped 143 = .ok (.invokevirtual 101, 3) := by decide +kernel
theorem dX10_escaped_146 : decode cX10_escaped 146 = .ok (.invokestatic 164, 3) := by decide +kernel
theorem dX10_escaped_149 : decode cX10_escaped 149 = .ok (.ifCond .lt 7, 3) := by decide +kernel
theorem dX10_escaped_152 : decode cX10_escaped 152 = .ok (.iconst 1, 1) := by decide +kernel
theorem dX10_escaped_153 : decode cX10_escaped 153 = .ok (.goto 4, 3) := by decide +kernel
theorem dX10_escaped_156 : decode cX10_escaped 156 = .ok (.iconst 0, 1) := by decide +kernel
theorem dX10_escaped_157 : decode cX10_escaped 157 = .ok (.iconst 1, 1) := by decide +kernel
theorem dX10_escaped_158 : decode cX10_escaped 158 = .ok (.aload_n 0, 1) := by decide +kernel
theorem dX10_escaped_159 : decode cX10_escaped 159 = .ok (.getfield 95, 3) := by decide +kernel
theorem dX10_escaped_162 : decode cX10_escaped 162 = .ok (.invokevirtual 105, 3) := by decide +kernel
theorem dX10_escaped_165 : decode cX10_escaped 165 = .ok (.bipush 16, 2) := by decide +kernel
theorem dX10_escaped_167 : decode cX10_escaped 167 = .ok (.iload 4, 2) := by decide +kernel
theorem dX10_escaped_169 : decode cX10_escaped 169 = .ok (.imul, 1) := by decide +kernel
theorem dX10_escaped_170 : decode cX10_escaped 170 = .ok (.aload_n 0, 1) := by decide +kernel
theorem dX10_escaped_171 : decode cX10_escaped 171 = .ok (.invokevirtual 101, 3) := by decide +kernel
theorem dX10_escaped_174 : decode cX10_escaped 174 = .ok (.invokestatic 164, 3) := by decide +kernel
theorem dX10_escaped_177 : decode cX10_escaped 177 = .ok (.iadd, 1) := by decide +kernel
theorem dX10_escaped_178 : decode cX10_escaped 178 = .ok (.istore 4, 2) := by decide +kernel
theorem dX10_escaped_180 : decode cX10_escaped 180 = .ok (.aload_n 0, 1) := by decide +kernel
theorem dX10_escaped_181 : decode cX10_escaped 181 = .ok (.dup, 1) := by decide +kernel
theorem dX10_escaped_182 : decode cX10_escaped 182 = .ok (.getfield 95, 3) := by decide +kernel
theorem dX10_escaped_185 : decode cX10_escaped 185 = .ok (.iconst 1, 1) := by decide +kernel
theorem dX10_escaped_186 : decode cX10_escaped 186 = .ok (.iadd, 1) := by decide +kernel
theorem dX10_escaped_187 : decode cX10_escaped 187 = .ok (.putfield 95, 3) := by decide +kernel
theorem dX10_escaped_190 : decode cX10_escaped 190 = .ok (.iinc 5 1, 3) := by decide +kernel
theorem dX10_escaped_193 : decode cX10_escaped 193 = .ok (.goto (-58), 3) := by decide +kernel
theorem dX10_escaped_196 : decode cX10_escaped 196 = .ok (.aload_n 0, 1) := by decide +kernel
theorem dX10_escaped_197 : decode cX10_escaped 197 = .ok (.iload 4, 2) := by decide +kernel
theorem dX10_escaped_199 : decode cX10_escaped 199 = .ok (.sipush 256, 3) := by decide +kernel
theorem dX10_escaped_202 : decode cX10_escaped 202 = .ok (.if_icmp .ge 7, 3) := by decide +kernel
theorem dX10_escaped_205 : decode cX10_escaped 205 = .ok (.iconst 1, 1) := by decide +kernel
theorem dX10_escaped_206 : decode cX10_escaped 206 = .ok (.goto 4, 3) := by decide +kernel
theorem dX10_escaped_209 : decode cX10_escaped 209 = .ok (.iconst 0, 1) := by decide +kernel
theorem dX10_escaped_210 : decode cX10_escaped 210 = .ok (.iconst 1, 1) := by decide +kernel
theorem dX10_escaped_211 : decode cX10_escaped 211 = .ok (.iload_n 1, 1) := by decide +kernel
theorem dX10_escaped_212 : decode cX10_escaped 212 = .ok (.invokevirtual 105, 3) := by decide +kernel
theorem dX10_escaped_215 : decode cX10_escaped 215 = .ok (.iload 4, 2) := by decide +kernel
theorem dX10_escaped_217 : decode cX10_escaped 217 = .ok (.ireturn, 1) := by decide +kernel
theorem dX10_string_0 : decode cX10_string 0 = .ok (.aload_n 0, 1) := by decide +kernel
theorem dX10_string_1 : decode cX10_string 1 = .ok (.iconst 2, 1) := by decide +kernel
theorem dX10_string_2 : decode cX10_string 2 = .ok (.invokevirtual 127, 3) := by decide +kernel
theorem dX10_string_5 : decode cX10_string 5 = .ok (.istore_n 1, 1) := by decide +kernel
theorem dX10_string_6 : decode cX10_string 6 = .ok (.aload_n 0, 1) := by decide +kernel
theorem dX10_string_7 : decode cX10_string 7 = .ok (.getfield 22, 3) := by decide +kernel
theorem dX10_string_10 : decode cX10_string 10 = .ok (.iload_n 1, 1) := by decide +kernel
theorem dX10_string_11 : decode cX10_string 11 = .ok (.aload_n 0, 1) := by decide +kernel
theorem dX10_string_12 : decode cX10_string 12 = .ok (.getfield 167, 3) := by decide +kernel
theorem dX10_string_15 : decode cX10_string 15 = .ok (.i2l, 1) := by decide +kernel
theorem dX10_string_16 : decode cX10_string 16 = .ok (.lastore, 1) := by decide +kernel
theorem dX10_string_17 : decode cX10_string 17 = .ok (.aload_n 0, 1) := by decide +kernel
theorem dX10_string_18 : decode cX10_string 18 = .ok (.dup, 1) := by decide +kernel
theorem dX10_string_19 : decode cX10_string 19 = .ok (.getfield 95, 3) := by decide +kernel
theorem dX10_string_22 : decode cX10_string 22 = .ok (.iconst 1, 1) := by decide +kernel
theorem dX10_string_23 : decode cX10_string 23 = .ok (.iadd, 1) := by decide +kernel
theorem dX10_string_24 : decode cX10_string 24 = .ok (.putfield 95, 3) := by decide +kernel
theorem dX10_string_27 : decode cX10_string 27 = .ok (.aload_n 0, 1) := by decide +kernel
theorem dX10_string_28 : decode cX10_string 28 = .ok (.invokevirtual 101, 3) := by decide +kernel
theorem dX10_string_31 : decode cX10_string 31 = .ok (.bipush 34, 2) := by decide +kernel
theorem dX10_string_33 : decode cX10_string 33 = .ok (.if_icmp .eq 92, 3) := by decide +kernel
theorem dX10_string_36 : decode cX10_string 36 = .ok (.aload_n 0, 1) := by decide +kernel
theorem dX10_string_37 : decode cX10_string 37 = .ok (.invokevirtual 101, 3) := by decide +kernel
theorem dX10_string_40 : decode cX10_string 40 = .ok (.istore_n 2, 1) := by decide +kernel
theorem dX10_string_41 : decode cX10_string 41 = .ok (.aload_n 0, 1) := by decide +kernel
theorem dX10_string_42 : decode cX10_string 42 = .ok (.iload_n 2, 1) := by decide +kernel
theorem dX10_string_43 : decode cX10_string 43 = .ok (.bipush 32, 2) := by decide +kernel
theorem dX10_string_45 : decode cX10_string 45 = .ok (.if_icmp .lt 13, 3) := by decide +kernel
theorem dX10_string_48 : decode cX10_string 48 = .ok (.iload_n 2, 1) := by decide +kernel
theorem dX10_string_49 : decode cX10_string 49 = .ok (.bipush 126, 2) := by decide +kernel
theorem dX10_string_51 : decode cX10_string 51 = .ok (.if_icmp .gt 7, 3) := by decide +kernel
theorem dX10_string_54 : decode cX10_string 54 = .ok (.iconst 1, 1) := by decide +kernel
theorem dX10_string_55 : decode cX10_string 55 = .ok (.goto 4, 3) := by decide +kernel
theorem dX10_string_58 : decode cX10_string 58 = .ok (.iconst 0, 1) := by decide +kernel
theorem dX10_string_59 : decode cX10_string 59 = .ok (.iconst 1, 1) := by decide +kernel
theorem dX10_string_60 : decode cX10_string 60 = .ok (.aload_n 0, 1) := by decide +kernel
theorem dX10_string_61 : decode cX10_string 61 = .ok (.getfield 95, 3) := by decide +kernel
theorem dX10_string_64 : decode cX10_string 64 = .ok (.invokevirtual 105, 3) := by decide +kernel
theorem dX10_string_67 : decode cX10_string 67 = .ok (.iload_n 2, 1) := by decide +kernel
theorem dX10_string_68 : decode cX10_string 68 = .ok (.bipush 92, 2) := by decide +kernel
theorem dX10_string_70 : decode cX10_string 70 = .ok (.if_icmp .ne 11, 3) := by decide +kernel
theorem dX10_string_73 : decode cX10_string 73 = .ok (.aload_n 0, 1) := by decide +kernel
theorem dX10_string_74 : decode cX10_string 74 = .ok (.invokevirtual 170, 3) := by decide +kernel
theorem dX10_string_77 : decode cX10_string 77 = .ok (.istore_n 2, 1) := by decide +kernel
theorem dX10_string_78 : decode cX10_string 78 = .ok (.goto 13, 3) := by decide +kernel
theorem dX10_string_81 : decode cX10_string 81 = .ok (.aload_n 0, 1) := by decide +kernel
theorem dX10_string_82 : decode cX10_string 82 = .ok (.dup, 1) := by decide +kernel
theorem dX10_string_83 : decode cX10_string 83 = .ok (.getfield 95, 3) := by decide +kernel
theorem dX10_string_86 : decode cX10_string 86 = .ok (.iconst 1, 1) := by decide +kernel
theorem dX10_string_87 : decode cX10_string 87 = .ok (.iadd, 1) := by decide +kernel
theorem dX10_string_88 : decode cX10_string 88 = .ok (.putfield 95, 3) := by decide +kernel
theorem dX10_string_91 : decode cX10_string 91 = .ok (.aload_n 0, 1) := by decide +kernel
theorem dX10_string_92 : decode cX10_string 92 = .ok (.getfield 35, 3) := by decide +kernel
theorem dX10_string_95 : decode cX10_string 95 = .ok (.aload_n 0, 1) := by decide +kernel
theorem dX10_string_96 : decode cX10_string 96 = .ok (.getfield 167, 3) := by decide +kernel
theorem dX10_string_99 : decode cX10_string 99 = .ok (.iload_n 2, 1) := by decide +kernel
theorem dX10_string_100 : decode cX10_string 100 = .ok (.i2b, 1) := by decide +kernel
theorem dX10_string_101 : decode cX10_string 101 = .ok (.bastore, 1) := by decide +kernel
theorem dX10_string_102 : decode cX10_string 102 = .ok (.aload_n 0, 1) := by decide +kernel
theorem dX10_string_103 : decode cX10_string 103 = .ok (.dup, 1) := by decide +kernel
theorem dX10_string_104 : decode cX10_string 104 = .ok (.getfield 167, 3) := by decide +kernel
theorem dX10_string_107 : decode cX10_string 107 = .ok (.iconst 1, 1) := by decide +kernel
theorem dX10_string_108 : decode cX10_string 108 = .ok (.iadd, 1) := by decide +kernel
theorem dX10_string_109 : decode cX10_string 109 = .ok (.putfield 167, 3) := by decide +kernel
theorem dX10_string_112 : decode cX10_string 112 = .ok (.aload_n 0, 1) := by decide +kernel
theorem dX10_string_113 : decode cX10_string 113 = .ok (.getfield 26, 3) := by decide +kernel
theorem dX10_string_116 : decode cX10_string 116 = .ok (.iload_n 1, 1) := by decide +kernel
theorem dX10_string_117 : decode cX10_string 117 = .ok (.dup2, 1) := by decide +kernel
theorem dX10_string_118 : decode cX10_string 118 = .ok (.iaload, 1) := by decide +kernel
theorem dX10_string_119 : decode cX10_string 119 = .ok (.iconst 1, 1) := by decide +kernel
theorem dX10_string_120 : decode cX10_string 120 = .ok (.iadd, 1) := by decide +kernel
theorem dX10_string_121 : decode cX10_string 121 = .ok (.iastore, 1) := by decide +kernel
theorem dX10_string_122 : decode cX10_string 122 = .ok (.goto (-95), 3) := by decide +kernel
theorem dX10_string_125 : decode cX10_string 125 = .ok (.aload_n 0, 1) := by decide +kernel
theorem dX10_string_126 : decode cX10_string 126 = .ok (.dup, 1) := by decide +kernel
theorem dX10_string_127 : decode cX10_string 127 = .ok (.getfield 95, 3) := by decide +kernel
theorem dX10_string_130 : decode cX10_string 130 = .ok (.iconst 1, 1) := by decide +kernel
theorem dX10_string_131 : decode cX10_string 131 = .ok (.iadd, 1) := by decide +kernel
theorem dX10_string_132 : decode cX10_string 132 = .ok (.putfield 95, 3) := by decide +kernel
theorem dX10_string_135 : decode cX10_string 135 = .ok (.iload_n 1, 1) := by decide +kernel
theorem dX10_string_136 : decode cX10_string 136 = .ok (.ireturn, 1) := by decide +kernel
theorem dX10_number_0 : decode cX10_number 0 = .ok (.aload_n 0, 1) := by decide +kernel
theorem dX10_number_1 : decode cX10_number 1 = .ok (.iconst 3, 1) := by decide +kernel
theorem dX10_number_2 : decode cX10_number 2 = .ok (.invokevirtual 127, 3) := by decide +kernel
theorem dX10_number_5 : decode cX10_number 5 = .ok (.istore_n 1, 1) := by decide +kernel
theorem dX10_number_6 : decode cX10_number 6 = .ok (.aload_n 0, 1) := by decide +kernel
theorem dX10_number_7 : decode cX10_number 7 = .ok (.invokevirtual 101, 3) := by decide +kernel
theorem dX10_number_10 : decode cX10_number 10 = .ok (.bipush 45, 2) := by decide +kernel
theorem dX10_number_12 : decode cX10_number 12 = .ok (.if_icmp .ne 7, 3) := by decide +kernel
theorem dX10_number_15 : decode cX10_number 15 = .ok (.iconst 1, 1) := by decide +kernel
theorem dX10_number_16 : decode cX10_number 16 = .ok (.goto 4, 3) := by decide +kernel
theorem dX10_number_19 : decode cX10_number 19 = .ok (.iconst 0, 1) := by decide +kernel
theorem dX10_number_20 : decode cX10_number 20 = .ok (.istore_n 2, 1) := by decide +kernel
theorem dX10_number_21 : decode cX10_number 21 = .ok (.aload_n 0, 1) := by decide +kernel
theorem dX10_number_22 : decode cX10_number 22 = .ok (.iload_n 2, 1) := by decide +kernel
theorem dX10_number_23 : decode cX10_number 23 = .ok (.ifCond .eq 12, 3) := by decide +kernel
theorem dX10_number_26 : decode cX10_number 26 = .ok (.aload_n 0, 1) := by decide +kernel
theorem dX10_number_27 : decode cX10_number 27 = .ok (.getfield 95, 3) := by decide +kernel
theorem dX10_number_30 : decode cX10_number 30 = .ok (.iconst 1, 1) := by decide +kernel
theorem dX10_number_31 : decode cX10_number 31 = .ok (.iadd, 1) := by decide +kernel
theorem dX10_number_32 : decode cX10_number 32 = .ok (.goto 7, 3) := by decide +kernel
theorem dX10_number_35 : decode cX10_number 35 = .ok (.aload_n 0, 1) := by decide +kernel
theorem dX10_number_36 : decode cX10_number 36 = .ok (.getfield 95, 3) := by decide +kernel
theorem dX10_number_39 : decode cX10_number 39 = .ok (.putfield 95, 3) := by decide +kernel
theorem dX10_number_42 : decode cX10_number 42 = .ok (.aload_n 0, 1) := by decide +kernel
theorem dX10_number_43 : decode cX10_number 43 = .ok (.aload_n 0, 1) := by decide +kernel
theorem dX10_number_44 : decode cX10_number 44 = .ok (.invokevirtual 101, 3) := by decide +kernel
theorem dX10_number_47 : decode cX10_number 47 = .ok (.bipush 48, 2) := by decide +kernel
theorem dX10_number_49 : decode cX10_number 49 = .ok (.if_icmp .lt 16, 3) := by decide +kernel
theorem dX10_number_52 : decode cX10_number 52 = .ok (.aload_n 0, 1) := by decide +kernel
theorem dX10_number_53 : decode cX10_number 53 = .ok (.invokevirtual 101, 3) := by decide +kernel
theorem dX10_number_56 : decode cX10_number 56 = .ok (.bipush 57, 2) := by decide +kernel
theorem dX10_number_58 : decode cX10_number 58 = .ok (.if_icmp .gt 7, 3) := by decide +kernel
theorem dX10_number_61 : decode cX10_number 61 = .ok (.iconst 1, 1) := by decide +kernel
theorem dX10_number_62 : decode cX10_number 62 = .ok (.goto 4, 3) := by decide +kernel
theorem dX10_number_65 : decode cX10_number 65 = .ok (.iconst 0, 1) := by decide +kernel
theorem dX10_number_66 : decode cX10_number 66 = .ok (.iconst 1, 1) := by decide +kernel
theorem dX10_number_67 : decode cX10_number 67 = .ok (.aload_n 0, 1) := by decide +kernel
theorem dX10_number_68 : decode cX10_number 68 = .ok (.getfield 95, 3) := by decide +kernel
theorem dX10_number_71 : decode cX10_number 71 = .ok (.invokevirtual 105, 3) := by decide +kernel
theorem dX10_number_74 : decode cX10_number 74 = .ok (.aload_n 0, 1) := by decide +kernel
theorem dX10_number_75 : decode cX10_number 75 = .ok (.invokevirtual 101, 3) := by decide +kernel
theorem dX10_number_78 : decode cX10_number 78 = .ok (.bipush 48, 2) := by decide +kernel
theorem dX10_number_80 : decode cX10_number 80 = .ok (.if_icmp .ne 7, 3) := by decide +kernel
theorem dX10_number_83 : decode cX10_number 83 = .ok (.iconst 1, 1) := by decide +kernel
theorem dX10_number_84 : decode cX10_number 84 = .ok (.goto 4, 3) := by decide +kernel
theorem dX10_number_87 : decode cX10_number 87 = .ok (.iconst 0, 1) := by decide +kernel
theorem dX10_number_88 : decode cX10_number 88 = .ok (.istore_n 3, 1) := by decide +kernel
theorem dX10_number_89 : decode cX10_number 89 = .ok (.iconst 1, 1) := by decide +kernel
theorem dX10_number_90 : decode cX10_number 90 = .ok (.istore 4, 2) := by decide +kernel
theorem dX10_number_92 : decode cX10_number 92 = .ok (.lconst 0, 1) := by decide +kernel
theorem dX10_number_93 : decode cX10_number 93 = .ok (.lstore 5, 2) := by decide +kernel
theorem dX10_number_95 : decode cX10_number 95 = .ok (.aload_n 0, 1) := by decide +kernel
theorem dX10_number_96 : decode cX10_number 96 = .ok (.invokevirtual 101, 3) := by decide +kernel
theorem dX10_number_99 : decode cX10_number 99 = .ok (.bipush 48, 2) := by decide +kernel
theorem dX10_number_101 : decode cX10_number 101 = .ok (.if_icmp .lt 142, 3) := by decide +kernel
theorem dX10_number_104 : decode cX10_number 104 = .ok (.aload_n 0, 1) := by decide +kernel
theorem dX10_number_105 : decode cX10_number 105 = .ok (.invokevirtual 101, 3) := by decide +kernel
theorem dX10_number_108 : decode cX10_number 108 = .ok (.bipush 57, 2) := by decide +kernel
theorem dX10_number_110 : decode cX10_number 110 = .ok (.if_icmp .gt 133, 3) := by decide +kernel
theorem dX10_number_113 : decode cX10_number 113 = .ok (.iload_n 3, 1) := by decide +kernel
theorem dX10_number_114 : decode cX10_number 114 = .ok (.ifCond .eq 29, 3) := by decide +kernel
theorem dX10_number_117 : decode cX10_number 117 = .ok (.lload 5, 2) := by decide +kernel
theorem dX10_number_119 : decode cX10_number 119 = .ok (.lconst 0, 1) := by decide +kernel
theorem dX10_number_120 : decode cX10_number 120 = .ok (.lcmp, 1) := by decide +kernel
theorem dX10_number_121 : decode cX10_number 121 = .ok (.ifCond .ne 122, 3) := by decide +kernel
theorem dX10_number_124 : decode cX10_number 124 = .ok (.aload_n 0, 1) := by decide +kernel
theorem dX10_number_125 : decode cX10_number 125 = .ok (.getfield 15, 3) := by decide +kernel
theorem dX10_number_128 : decode cX10_number 128 = .ok (.iload_n 1, 1) := by decide +kernel
theorem dX10_number_129 : decode cX10_number 129 = .ok (.iaload, 1) := by decide +kernel
theorem dX10_number_130 : decode cX10_number 130 = .ok (.iconst 3, 1) := by decide +kernel
theorem dX10_number_131 : decode cX10_number 131 = .ok (.if_icmp .ne 112, 3) := by decide +kernel
theorem dX10_number_134 : decode cX10_number 134 = .ok (.aload_n 0, 1) := by decide +kernel
theorem dX10_number_135 : decode cX10_number 135 = .ok (.getfield 26, 3) := by decide +kernel
theorem dX10_number_138 : decode cX10_number 138 = .ok (.iload_n 1, 1) := by decide +kernel
theorem dX10_number_139 : decode cX10_number 139 = .ok (.iaload, 1) := by decide +kernel
theorem dX10_number_140 : decode cX10_number 140 = .ok (.ifCond .ne 103, 3) := by decide +kernel
theorem dX10_number_143 : decode cX10_number 143 = .ok (.aload_n 0, 1) := by decide +kernel
theorem dX10_number_144 : decode cX10_number 144 = .ok (.invokevirtual 101, 3) := by decide +kernel
theorem dX10_number_147 : decode cX10_number 147 = .ok (.bipush 48, 2) := by decide +kernel
theorem dX10_number_149 : decode cX10_number 149 = .ok (.isub, 1) := by decide +kernel
theorem dX10_number_150 : decode cX10_number 150 = .ok (.istore 7, 2) := by decide +kernel
theorem dX10_number_152 : decode cX10_number 152 = .ok (.iload 4, 2) := by decide +kernel
theorem dX10_number_154 : decode cX10_number 154 = .ok (.ifCond .eq 41, 3) := by decide +kernel
theorem dX10_number_157 : decode cX10_number 157 = .ok (.lload 5, 2) := by decide +kernel
theorem dX10_number_159 : decode cX10_number 159 = .ok (.ldc2_w 173, 3) := by decide +kernel
theorem dX10_number_162 : decode cX10_number 162 = .ok (.lcmp, 1) := by decide +kernel
theorem dX10_number_163 : decode cX10_number 163 = .ok (.ifCond .gt 28, 3) := by decide +kernel
theorem dX10_number_166 : decode cX10_number 166 = .ok (.lload 5, 2) := by decide +kernel
theorem dX10_number_168 : decode cX10_number 168 = .ok (.ldc2_w 173, 3) := by decide +kernel
theorem dX10_number_171 : decode cX10_number 171 = .ok (.lcmp, 1) := by decide +kernel
theorem dX10_number_172 : decode cX10_number 172 = .ok (.ifCond .ne 23, 3) := by decide +kernel
theorem dX10_number_175 : decode cX10_number 175 = .ok (.iload 7, 2) := by decide +kernel
theorem dX10_number_177 : decode cX10_number 177 = .ok (.iload_n 2, 1) := by decide +kernel
theorem dX10_number_178 : decode cX10_number 178 = .ok (.ifCond .eq 8, 3) := by decide +kernel
theorem dX10_number_181 : decode cX10_number 181 = .ok (.bipush 8, 2) := by decide +kernel
theorem dX10_number_183 : decode cX10_number 183 = .ok (.goto 5, 3) := by decide +kernel
theorem dX10_number_186 : decode cX10_number 186 = .ok (.bipush 7, 2) := by decide +kernel
theorem dX10_number_188 : decode cX10_number 188 = .ok (.if_icmp .gt 7, 3) := by decide +kernel
theorem dX10_number_191 : decode cX10_number 191 = .ok (.iconst 1, 1) := by decide +kernel
theorem dX10_number_192 : decode cX10_number 192 = .ok (.goto 4, 3) := by decide +kernel
theorem dX10_number_195 : decode cX10_number 195 = .ok (.iconst 0, 1) := by decide +kernel
theorem dX10_number_196 : decode cX10_number 196 = .ok (.istore 4, 2) := by decide +kernel
theorem dX10_number_198 : decode cX10_number 198 = .ok (.iload 4, 2) := by decide +kernel
theorem dX10_number_200 : decode cX10_number 200 = .ok (.ifCond .eq 16, 3) := by decide +kernel
theorem dX10_number_203 : decode cX10_number 203 = .ok (.ldc2_w 175, 3) := by decide +kernel
theorem dX10_number_206 : decode cX10_number 206 = .ok (.lload 5, 2) := by decide +kernel
theorem dX10_number_208 : decode cX10_number 208 = .ok (.lmul, 1) := by decide +kernel
theorem dX10_number_209 : decode cX10_number 209 = .ok (.iload 7, 2) := by decide +kernel
theorem dX10_number_211 : decode cX10_number 211 = .ok (.i2l, 1) := by decide +kernel
theorem dX10_number_212 : decode cX10_number 212 = .ok (.lsub, 1) := by decide +kernel
theorem dX10_number_213 : decode cX10_number 213 = .ok (.goto 5, 3) := by decide +kernel
theorem dX10_number_216 : decode cX10_number 216 = .ok (.lload 5, 2) := by decide +kernel
theorem dX10_number_218 : decode cX10_number 218 = .ok (.lstore 5, 2) := by decide +kernel
theorem dX10_number_220 : decode cX10_number 220 = .ok (.aload_n 0, 1) := by decide +kernel
theorem dX10_number_221 : decode cX10_number 221 = .ok (.getfield 26, 3) := by decide +kernel
theorem dX10_number_224 : decode cX10_number 224 = .ok (.iload_n 1, 1) := by decide +kernel
theorem dX10_number_225 : decode cX10_number 225 = .ok (.dup2, 1) := by decide +kernel
theorem dX10_number_226 : decode cX10_number 226 = .ok (.iaload, 1) := by decide +kernel
theorem dX10_number_227 : decode cX10_number 227 = .ok (.iconst 1, 1) := by decide +kernel
theorem dX10_number_228 : decode cX10_number 228 = .ok (.iadd, 1) := by decide +kernel
theorem dX10_number_229 : decode cX10_number 229 = .ok (.iastore, 1) := by decide +kernel
theorem dX10_number_230 : decode cX10_number 230 = .ok (.aload_n 0, 1) := by decide +kernel
theorem dX10_number_231 : decode cX10_number 231 = .ok (.dup, 1) := by decide +kernel
theorem dX10_number_232 : decode cX10_number 232 = .ok (.getfield 95, 3) := by decide +kernel
theorem dX10_number_235 : decode cX10_number 235 = .ok (.iconst 1, 1) := by decide +kernel
theorem dX10_number_236 : decode cX10_number 236 = .ok (.iadd, 1) := by decide +kernel
theorem dX10_number_237 : decode cX10_number 237 = .ok (.putfield 95, 3) := by decide +kernel
theorem dX10_number_240 : decode cX10_number 240 = .ok (.goto (-145), 3) := by decide +kernel
theorem dX10_number_243 : decode cX10_number 243 = .ok (.aload_n 0, 1) := by decide +kernel
theorem dX10_number_244 : decode cX10_number 244 = .ok (.iload 4, 2) := by decide +kernel
theorem dX10_number_246 : decode cX10_number 246 = .ok (.iconst 1, 1) := by decide +kernel
theorem dX10_number_247 : decode cX10_number 247 = .ok (.aload_n 0, 1) := by decide +kernel
theorem dX10_number_248 : decode cX10_number 248 = .ok (.getfield 19, 3) := by decide +kernel
theorem dX10_number_251 : decode cX10_number 251 = .ok (.iload_n 1, 1) := by decide +kernel
theorem dX10_number_252 : decode cX10_number 252 = .ok (.iaload, 1) := by decide +kernel
theorem dX10_number_253 : decode cX10_number 253 = .ok (.invokevirtual 105, 3) := by decide +kernel
theorem dX10_number_256 : decode cX10_number 256 = .ok (.aload_n 0, 1) := by decide +kernel
theorem dX10_number_257 : decode cX10_number 257 = .ok (.getfield 22, 3) := by decide +kernel
theorem dX10_number_260 : decode cX10_number 260 = .ok (.iload_n 1, 1) := by decide +kernel
theorem dX10_number_261 : decode cX10_number 261 = .ok (.iload_n 2, 1) := by decide +kernel
theorem dX10_number_262 : decode cX10_number 262 = .ok (.ifCond .eq 8, 3) := by decide +kernel
theorem dX10_number_265 : decode cX10_number 265 = .ok (.lload 5, 2) := by decide +kernel
theorem dX10_number_267 : decode cX10_number 267 = .ok (.goto 6, 3) := by decide +kernel
theorem dX10_number_270 : decode cX10_number 270 = .ok (.lload 5, 2) := by decide +kernel
theorem dX10_number_272 : decode cX10_number 272 = .ok (.lneg, 1) := by decide +kernel
theorem dX10_number_273 : decode cX10_number 273 = .ok (.lastore, 1) := by decide +kernel
theorem dX10_number_274 : decode cX10_number 274 = .ok (.iload_n 1, 1) := by decide +kernel
theorem dX10_number_275 : decode cX10_number 275 = .ok (.ireturn, 1) := by decide +kernel
theorem dX10_same_0 : decode cX10_same 0 = .ok (.aload_n 0, 1) := by decide +kernel
theorem dX10_same_1 : decode cX10_same 1 = .ok (.getfield 26, 3) := by decide +kernel
theorem dX10_same_4 : decode cX10_same 4 = .ok (.iload_n 1, 1) := by decide +kernel
theorem dX10_same_5 : decode cX10_same 5 = .ok (.iaload, 1) := by decide +kernel
theorem dX10_same_6 : decode cX10_same 6 = .ok (.aload_n 2, 1) := by decide +kernel
theorem dX10_same_7 : decode cX10_same 7 = .ok (.getfield 26, 3) := by decide +kernel
theorem dX10_same_10 : decode cX10_same 10 = .ok (.iload_n 3, 1) := by decide +kernel
theorem dX10_same_11 : decode cX10_same 11 = .ok (.iaload, 1) := by decide +kernel
theorem dX10_same_12 : decode cX10_same 12 = .ok (.if_icmp .eq 5, 3) := by decide +kernel
theorem dX10_same_15 : decode cX10_same 15 = .ok (.iconst 0, 1) := by decide +kernel
theorem dX10_same_16 : decode cX10_same 16 = .ok (.ireturn, 1) := by decide +kernel
theorem dX10_same_17 : decode cX10_same 17 = .ok (.iconst 0, 1) := by decide +kernel
theorem dX10_same_18 : decode cX10_same 18 = .ok (.istore 4, 2) := by decide +kernel
theorem dX10_same_20 : decode cX10_same 20 = .ok (.iload 4, 2) := by decide +kernel
theorem dX10_same_22 : decode cX10_same 22 = .ok (.aload_n 0, 1) := by decide +kernel
theorem dX10_same_23 : decode cX10_same 23 = .ok (.getfield 26, 3) := by decide +kernel
theorem dX10_same_26 : decode cX10_same 26 = .ok (.iload_n 1, 1) := by decide +kernel
theorem dX10_same_27 : decode cX10_same 27 = .ok (.iaload, 1) := by decide +kernel
theorem dX10_same_28 : decode cX10_same 28 = .ok (.if_icmp .ge 44, 3) := by decide +kernel
theorem dX10_same_31 : decode cX10_same 31 = .ok (.aload_n 0, 1) := by decide +kernel
theorem dX10_same_32 : decode cX10_same 32 = .ok (.getfield 35, 3) := by decide +kernel
theorem dX10_same_35 : decode cX10_same 35 = .ok (.aload_n 0, 1) := by decide +kernel
theorem dX10_same_36 : decode cX10_same 36 = .ok (.getfield 22, 3) := by decide +kernel
theorem dX10_same_39 : decode cX10_same 39 = .ok (.iload_n 1, 1) := by decide +kernel
theorem dX10_same_40 : decode cX10_same 40 = .ok (.laload, 1) := by decide +kernel
theorem dX10_same_41 : decode cX10_same 41 = .ok (.l2i, 1) := by decide +kernel
theorem dX10_same_42 : decode cX10_same 42 = .ok (.iload 4, 2) := by decide +kernel
theorem dX10_same_44 : decode cX10_same 44 = .ok (.iadd, 1) := by decide +kernel
theorem dX10_same_45 : decode cX10_same 45 = .ok (.baload, 1) := by decide +kernel
theorem dX10_same_46 : decode cX10_same 46 = .ok (.aload_n 2, 1) := by decide +kernel
theorem dX10_same_47 : decode cX10_same 47 = .ok (.getfield 35, 3) := by decide +kernel
theorem dX10_same_50 : decode cX10_same 50 = .ok (.aload_n 2, 1) := by decide +kernel
theorem dX10_same_51 : decode cX10_same 51 = .ok (.getfield 22, 3) := by decide +kernel
theorem dX10_same_54 : decode cX10_same 54 = .ok (.iload_n 3, 1) := by decide +kernel
theorem dX10_same_55 : decode cX10_same 55 = .ok (.laload, 1) := by decide +kernel
theorem dX10_same_56 : decode cX10_same 56 = .ok (.l2i, 1) := by decide +kernel
theorem dX10_same_57 : decode cX10_same 57 = .ok (.iload 4, 2) := by decide +kernel
theorem dX10_same_59 : decode cX10_same 59 = .ok (.iadd, 1) := by decide +kernel
theorem dX10_same_60 : decode cX10_same 60 = .ok (.baload, 1) := by decide +kernel
theorem dX10_same_61 : decode cX10_same 61 = .ok (.if_icmp .eq 5, 3) := by decide +kernel
theorem dX10_same_64 : decode cX10_same 64 = .ok (.iconst 0, 1) := by decide +kernel
theorem dX10_same_65 : decode cX10_same 65 = .ok (.ireturn, 1) := by decide +kernel
theorem dX10_same_66 : decode cX10_same 66 = .ok (.iinc 4 1, 3) := by decide +kernel
theorem dX10_same_69 : decode cX10_same 69 = .ok (.goto (-49), 3) := by decide +kernel
theorem dX10_same_72 : decode cX10_same 72 = .ok (.iconst 1, 1) := by decide +kernel
theorem dX10_same_73 : decode cX10_same 73 = .ok (.ireturn, 1) := by decide +kernel
theorem dX10_is_0 : decode cX10_is 0 = .ok (.aload_n 0, 1) := by decide +kernel
theorem dX10_is_1 : decode cX10_is 1 = .ok (.getfield 15, 3) := by decide +kernel
theorem dX10_is_4 : decode cX10_is 4 = .ok (.iload_n 1, 1) := by decide +kernel
theorem dX10_is_5 : decode cX10_is 5 = .ok (.iaload, 1) := by decide +kernel
theorem dX10_is_6 : decode cX10_is 6 = .ok (.iconst 2, 1) := by decide +kernel
theorem dX10_is_7 : decode cX10_is 7 = .ok (.if_icmp .ne 20, 3) := by decide +kernel
theorem dX10_is_10 : decode cX10_is 10 = .ok (.aload_n 0, 1) := by decide +kernel
theorem dX10_is_11 : decode cX10_is 11 = .ok (.getfield 26, 3) := by decide +kernel
theorem dX10_is_14 : decode cX10_is 14 = .ok (.iload_n 1, 1) := by decide +kernel
theorem dX10_is_15 : decode cX10_is 15 = .ok (.iaload, 1) := by decide +kernel
theorem dX10_is_16 : decode cX10_is 16 = .ok (.aload_n 2, 1) := by decide +kernel
theorem dX10_is_17 : decode cX10_is 17 = .ok (.invokevirtual 137, 3) := by decide +kernel
theorem dX10_is_20 : decode cX10_is 20 = .ok (.if_icmp .ne 7, 3) := by decide +kernel
theorem dX10_is_23 : decode cX10_is 23 = .ok (.iconst 1, 1) := by decide +kernel
theorem dX10_is_24 : decode cX10_is 24 = .ok (.goto 4, 3) := by decide +kernel
theorem dX10_is_27 : decode cX10_is 27 = .ok (.iconst 0, 1) := by decide +kernel
theorem dX10_is_28 : decode cX10_is 28 = .ok (.istore_n 3, 1) := by decide +kernel
theorem dX10_is_29 : decode cX10_is 29 = .ok (.iconst 0, 1) := by decide +kernel
theorem dX10_is_30 : decode cX10_is 30 = .ok (.istore 4, 2) := by decide +kernel
theorem dX10_is_32 : decode cX10_is 32 = .ok (.iload 4, 2) := by decide +kernel
theorem dX10_is_34 : decode cX10_is 34 = .ok (.aload_n 2, 1) := by decide +kernel
theorem dX10_is_35 : decode cX10_is 35 = .ok (.invokevirtual 137, 3) := by decide +kernel
theorem dX10_is_38 : decode cX10_is 38 = .ok (.if_icmp .ge 43, 3) := by decide +kernel
theorem dX10_is_41 : decode cX10_is 41 = .ok (.iload_n 3, 1) := by decide +kernel
theorem dX10_is_42 : decode cX10_is 42 = .ok (.ifCond .eq 39, 3) := by decide +kernel
theorem dX10_is_45 : decode cX10_is 45 = .ok (.aload_n 0, 1) := by decide +kernel
theorem dX10_is_46 : decode cX10_is 46 = .ok (.getfield 35, 3) := by decide +kernel
theorem dX10_is_49 : decode cX10_is 49 = .ok (.aload_n 0, 1) := by decide +kernel
theorem dX10_is_50 : decode cX10_is 50 = .ok (.getfield 22, 3) := by decide +kernel
theorem dX10_is_53 : decode cX10_is 53 = .ok (.iload_n 1, 1) := by decide +kernel
theorem dX10_is_54 : decode cX10_is 54 = .ok (.laload, 1) := by decide +kernel
theorem dX10_is_55 : decode cX10_is 55 = .ok (.l2i, 1) := by decide +kernel
theorem dX10_is_56 : decode cX10_is 56 = .ok (.iload 4, 2) := by decide +kernel
theorem dX10_is_58 : decode cX10_is 58 = .ok (.iadd, 1) := by decide +kernel
theorem dX10_is_59 : decode cX10_is 59 = .ok (.baload, 1) := by decide +kernel
theorem dX10_is_60 : decode cX10_is 60 = .ok (.aload_n 2, 1) := by decide +kernel
theorem dX10_is_61 : decode cX10_is 61 = .ok (.iload 4, 2) := by decide +kernel
theorem dX10_is_63 : decode cX10_is 63 = .ok (.invokevirtual 141, 3) := by decide +kernel
theorem dX10_is_66 : decode cX10_is 66 = .ok (.if_icmp .ne 7, 3) := by decide +kernel
theorem dX10_is_69 : decode cX10_is 69 = .ok (.iconst 1, 1) := by decide +kernel
theorem dX10_is_70 : decode cX10_is 70 = .ok (.goto 4, 3) := by decide +kernel
theorem dX10_is_73 : decode cX10_is 73 = .ok (.iconst 0, 1) := by decide +kernel
theorem dX10_is_74 : decode cX10_is 74 = .ok (.istore_n 3, 1) := by decide +kernel
theorem dX10_is_75 : decode cX10_is 75 = .ok (.iinc 4 1, 3) := by decide +kernel
theorem dX10_is_78 : decode cX10_is 78 = .ok (.goto (-46), 3) := by decide +kernel
theorem dX10_is_81 : decode cX10_is 81 = .ok (.iload_n 3, 1) := by decide +kernel
theorem dX10_is_82 : decode cX10_is 82 = .ok (.ireturn, 1) := by decide +kernel
theorem dX10_member_0 : decode cX10_member 0 = .ok (.aload_n 0, 1) := by decide +kernel
theorem dX10_member_1 : decode cX10_member 1 = .ok (.getfield 29, 3) := by decide +kernel
theorem dX10_member_4 : decode cX10_member 4 = .ok (.iload_n 1, 1) := by decide +kernel
theorem dX10_member_5 : decode cX10_member 5 = .ok (.iaload, 1) := by decide +kernel
theorem dX10_member_6 : decode cX10_member 6 = .ok (.istore_n 3, 1) := by decide +kernel
theorem dX10_member_7 : decode cX10_member 7 = .ok (.iload_n 3, 1) := by decide +kernel
theorem dX10_member_8 : decode cX10_member 8 = .ok (.ifCond .lt 34, 3) := by decide +kernel
theorem dX10_member_11 : decode cX10_member 11 = .ok (.aload_n 0, 1) := by decide +kernel
theorem dX10_member_12 : decode cX10_member 12 = .ok (.iload_n 3, 1) := by decide +kernel
theorem dX10_member_13 : decode cX10_member 13 = .ok (.aload_n 2, 1) := by decide +kernel
theorem dX10_member_14 : decode cX10_member 14 = .ok (.invokevirtual 177, 3) := by decide +kernel
theorem dX10_member_17 : decode cX10_member 17 = .ok (.ifCond .eq 10, 3) := by decide +kernel
theorem dX10_member_20 : decode cX10_member 20 = .ok (.aload_n 0, 1) := by decide +kernel
theorem dX10_member_21 : decode cX10_member 21 = .ok (.getfield 32, 3) := by decide +kernel
theorem dX10_member_24 : decode cX10_member 24 = .ok (.iload_n 3, 1) := by decide +kernel
theorem dX10_member_25 : decode cX10_member 25 = .ok (.iaload, 1) := by decide +kernel
theorem dX10_member_26 : decode cX10_member 26 = .ok (.ireturn, 1) := by decide +kernel
theorem dX10_member_27 : decode cX10_member 27 = .ok (.aload_n 0, 1) := by decide +kernel
theorem dX10_member_28 : decode cX10_member 28 = .ok (.getfield 32, 3) := by decide +kernel
theorem dX10_member_31 : decode cX10_member 31 = .ok (.aload_n 0, 1) := by decide +kernel
theorem dX10_member_32 : decode cX10_member 32 = .ok (.getfield 32, 3) := by decide +kernel
theorem dX10_member_35 : decode cX10_member 35 = .ok (.iload_n 3, 1) := by decide +kernel
theorem dX10_member_36 : decode cX10_member 36 = .ok (.iaload, 1) := by decide +kernel
theorem dX10_member_37 : decode cX10_member 37 = .ok (.iaload, 1) := by decide +kernel
theorem dX10_member_38 : decode cX10_member 38 = .ok (.istore_n 3, 1) := by decide +kernel
theorem dX10_member_39 : decode cX10_member 39 = .ok (.goto (-32), 3) := by decide +kernel
theorem dX10_member_42 : decode cX10_member 42 = .ok (.iconst (-1), 1) := by decide +kernel
theorem dX10_member_43 : decode cX10_member 43 = .ok (.ireturn, 1) := by decide +kernel
theorem dX10_isName_0 : decode cX10_isName 0 = .ok (.aload_n 0, 1) := by decide +kernel
theorem dX10_isName_1 : decode cX10_isName 1 = .ok (.getfield 15, 3) := by decide +kernel
theorem dX10_isName_4 : decode cX10_isName 4 = .ok (.iload_n 1, 1) := by decide +kernel
theorem dX10_isName_5 : decode cX10_isName 5 = .ok (.iaload, 1) := by decide +kernel
theorem dX10_isName_6 : decode cX10_isName 6 = .ok (.iconst 2, 1) := by decide +kernel
theorem dX10_isName_7 : decode cX10_isName 7 = .ok (.if_icmp .ne 27, 3) := by decide +kernel
theorem dX10_isName_10 : decode cX10_isName 10 = .ok (.aload_n 0, 1) := by decide +kernel
theorem dX10_isName_11 : decode cX10_isName 11 = .ok (.getfield 26, 3) := by decide +kernel
theorem dX10_isName_14 : decode cX10_isName 14 = .ok (.iload_n 1, 1) := by decide +kernel
theorem dX10_isName_15 : decode cX10_isName 15 = .ok (.iaload, 1) := by decide +kernel
theorem dX10_isName_16 : decode cX10_isName 16 = .ok (.ifCond .le 18, 3) := by decide +kernel
theorem dX10_isName_19 : decode cX10_isName 19 = .ok (.aload_n 0, 1) := by decide +kernel
theorem dX10_isName_20 : decode cX10_isName 20 = .ok (.getfield 26, 3) := by decide +kernel
theorem dX10_isName_23 : decode cX10_isName 23 = .ok (.iload_n 1, 1) := by decide +kernel
theorem dX10_isName_24 : decode cX10_isName 24 = .ok (.iaload, 1) := by decide +kernel
theorem dX10_isName_25 : decode cX10_isName 25 = .ok (.bipush 33, 2) := by decide +kernel
theorem dX10_isName_27 : decode cX10_isName 27 = .ok (.if_icmp .ge 7, 3) := by decide +kernel
theorem dX10_isName_30 : decode cX10_isName 30 = .ok (.iconst 1, 1) := by decide +kernel
theorem dX10_isName_31 : decode cX10_isName 31 = .ok (.goto 4, 3) := by decide +kernel
theorem dX10_isName_34 : decode cX10_isName 34 = .ok (.iconst 0, 1) := by decide +kernel
theorem dX10_isName_35 : decode cX10_isName 35 = .ok (.istore_n 2, 1) := by decide +kernel
theorem dX10_isName_36 : decode cX10_isName 36 = .ok (.iconst 0, 1) := by decide +kernel
theorem dX10_isName_37 : decode cX10_isName 37 = .ok (.istore_n 3, 1) := by decide +kernel
theorem dX10_isName_38 : decode cX10_isName 38 = .ok (.iload_n 3, 1) := by decide +kernel
theorem dX10_isName_39 : decode cX10_isName 39 = .ok (.aload_n 0, 1) := by decide +kernel
theorem dX10_isName_40 : decode cX10_isName 40 = .ok (.getfield 26, 3) := by decide +kernel
theorem dX10_isName_43 : decode cX10_isName 43 = .ok (.iload_n 1, 1) := by decide +kernel
theorem dX10_isName_44 : decode cX10_isName 44 = .ok (.iaload, 1) := by decide +kernel
theorem dX10_isName_45 : decode cX10_isName 45 = .ok (.if_icmp .ge 100, 3) := by decide +kernel
theorem dX10_isName_48 : decode cX10_isName 48 = .ok (.iload_n 2, 1) := by decide +kernel
theorem dX10_isName_49 : decode cX10_isName 49 = .ok (.ifCond .eq 96, 3) := by decide +kernel
theorem dX10_isName_52 : decode cX10_isName 52 = .ok (.aload_n 0, 1) := by decide +kernel
theorem dX10_isName_53 : decode cX10_isName 53 = .ok (.getfield 35, 3) := by decide +kernel
theorem dX10_isName_56 : decode cX10_isName 56 = .ok (.aload_n 0, 1) := by decide +kernel
theorem dX10_isName_57 : decode cX10_isName 57 = .ok (.getfield 22, 3) := by decide +kernel
theorem dX10_isName_60 : decode cX10_isName 60 = .ok (.iload_n 1, 1) := by decide +kernel
theorem dX10_isName_61 : decode cX10_isName 61 = .ok (.laload, 1) := by decide +kernel
theorem dX10_isName_62 : decode cX10_isName 62 = .ok (.l2i, 1) := by decide +kernel
theorem dX10_isName_63 : decode cX10_isName 63 = .ok (.iload_n 3, 1) := by decide +kernel
theorem dX10_isName_64 : decode cX10_isName 64 = .ok (.iadd, 1) := by decide +kernel
theorem dX10_isName_65 : decode cX10_isName 65 = .ok (.baload, 1) := by decide +kernel
theorem dX10_isName_66 : decode cX10_isName 66 = .ok (.istore 4, 2) := by decide +kernel
theorem dX10_isName_68 : decode cX10_isName 68 = .ok (.iload 4, 2) := by decide +kernel
theorem dX10_isName_70 : decode cX10_isName 70 = .ok (.bipush 48, 2) := by decide +kernel
theorem dX10_isName_72 : decode cX10_isName 72 = .ok (.if_icmp .lt 14, 3) := by decide +kernel
theorem dX10_isName_75 : decode cX10_isName 75 = .ok (.iload 4, 2) := by decide +kernel
theorem dX10_isName_77 : decode cX10_isName 77 = .ok (.bipush 57, 2) := by decide +kernel
theorem dX10_isName_79 : decode cX10_isName 79 = .ok (.if_icmp .gt 7, 3) := by decide +kernel
theorem dX10_isName_82 : decode cX10_isName 82 = .ok (.iconst 1, 1) := by decide +kernel
theorem dX10_isName_83 : decode cX10_isName 83 = .ok (.goto 4, 3) := by decide +kernel
theorem dX10_isName_86 : decode cX10_isName 86 = .ok (.iconst 0, 1) := by decide +kernel
theorem dX10_isName_87 : decode cX10_isName 87 = .ok (.istore 5, 2) := by decide +kernel
theorem dX10_isName_89 : decode cX10_isName 89 = .ok (.iload 4, 2) := by decide +kernel
theorem dX10_isName_91 : decode cX10_isName 91 = .ok (.bipush 97, 2) := by decide +kernel
theorem dX10_isName_93 : decode cX10_isName 93 = .ok (.if_icmp .lt 10, 3) := by decide +kernel
theorem dX10_isName_96 : decode cX10_isName 96 = .ok (.iload 4, 2) := by decide +kernel
theorem dX10_isName_98 : decode cX10_isName 98 = .ok (.bipush 122, 2) := by decide +kernel
theorem dX10_isName_100 : decode cX10_isName 100 = .ok (.if_icmp .le 33, 3) := by decide +kernel
theorem dX10_isName_103 : decode cX10_isName 103 = .ok (.iload 4, 2) := by decide +kernel
theorem dX10_isName_105 : decode cX10_isName 105 = .ok (.bipush 65, 2) := by decide +kernel
theorem dX10_isName_107 : decode cX10_isName 107 = .ok (.if_icmp .lt 10, 3) := by decide +kernel
theorem dX10_isName_110 : decode cX10_isName 110 = .ok (.iload 4, 2) := by decide +kernel
theorem dX10_isName_112 : decode cX10_isName 112 = .ok (.bipush 90, 2) := by decide +kernel
theorem dX10_isName_114 : decode cX10_isName 114 = .ok (.if_icmp .le 19, 3) := by decide +kernel
theorem dX10_isName_117 : decode cX10_isName 117 = .ok (.iload 4, 2) := by decide +kernel
theorem dX10_isName_119 : decode cX10_isName 119 = .ok (.bipush 95, 2) := by decide +kernel
theorem dX10_isName_121 : decode cX10_isName 121 = .ok (.if_icmp .eq 12, 3) := by decide +kernel
theorem dX10_isName_124 : decode cX10_isName 124 = .ok (.iload 5, 2) := by decide +kernel
theorem dX10_isName_126 : decode cX10_isName 126 = .ok (.ifCond .eq 11, 3) := by decide +kernel
theorem dX10_isName_129 : decode cX10_isName 129 = .ok (.iload_n 3, 1) := by decide +kernel
theorem dX10_isName_130 : decode cX10_isName 130 = .ok (.ifCond .le 7, 3) := by decide +kernel
theorem dX10_isName_133 : decode cX10_isName 133 = .ok (.iconst 1, 1) := by decide +kernel
theorem dX10_isName_134 : decode cX10_isName 134 = .ok (.goto 4, 3) := by decide +kernel
theorem dX10_isName_137 : decode cX10_isName 137 = .ok (.iconst 0, 1) := by decide +kernel
theorem dX10_isName_138 : decode cX10_isName 138 = .ok (.istore_n 2, 1) := by decide +kernel
theorem dX10_isName_139 : decode cX10_isName 139 = .ok (.iinc 3 1, 3) := by decide +kernel
theorem dX10_isName_142 : decode cX10_isName 142 = .ok (.goto (-104), 3) := by decide +kernel
theorem dX10_isName_145 : decode cX10_isName 145 = .ok (.iload_n 2, 1) := by decide +kernel
theorem dX10_isName_146 : decode cX10_isName 146 = .ok (.ireturn, 1) := by decide +kernel
theorem dX10_word_0 : decode cX10_word 0 = .ok (.aload_n 0, 1) := by decide +kernel
theorem dX10_word_1 : decode cX10_word 1 = .ok (.iload_n 1, 1) := by decide +kernel
theorem dX10_word_2 : decode cX10_word 2 = .ok (.ldc 135, 2) := by decide +kernel
theorem dX10_word_4 : decode cX10_word 4 = .ok (.invokevirtual 177, 3) := by decide +kernel
theorem dX10_word_7 : decode cX10_word 7 = .ok (.ifCond .eq 7, 3) := by decide +kernel
theorem dX10_word_10 : decode cX10_word 10 = .ok (.iconst 0, 1) := by decide +kernel
theorem dX10_word_11 : decode cX10_word 11 = .ok (.goto 74, 3) := by decide +kernel
theorem dX10_word_14 : decode cX10_word 14 = .ok (.aload_n 0, 1) := by decide +kernel
theorem dX10_word_15 : decode cX10_word 15 = .ok (.iload_n 1, 1) := by decide +kernel
theorem dX10_word_16 : decode cX10_word 16 = .ok (.ldc 181, 2) := by decide +kernel
theorem dX10_word_18 : decode cX10_word 18 = .ok (.invokevirtual 177, 3) := by decide +kernel
theorem dX10_word_21 : decode cX10_word 21 = .ok (.ifCond .eq 7, 3) := by decide +kernel
theorem dX10_word_24 : decode cX10_word 24 = .ok (.iconst 1, 1) := by decide +kernel
theorem dX10_word_25 : decode cX10_word 25 = .ok (.goto 60, 3) := by decide +kernel
theorem dX10_word_28 : decode cX10_word 28 = .ok (.aload_n 0, 1) := by decide +kernel
theorem dX10_word_29 : decode cX10_word 29 = .ok (.iload_n 1, 1) := by decide +kernel
theorem dX10_word_30 : decode cX10_word 30 = .ok (.ldc 183, 2) := by decide +kernel
theorem dX10_word_32 : decode cX10_word 32 = .ok (.invokevirtual 177, 3) := by decide +kernel
theorem dX10_word_35 : decode cX10_word 35 = .ok (.ifCond .eq 7, 3) := by decide +kernel
theorem dX10_word_38 : decode cX10_word 38 = .ok (.iconst 2, 1) := by decide +kernel
theorem dX10_word_39 : decode cX10_word 39 = .ok (.goto 46, 3) := by decide +kernel
theorem dX10_word_42 : decode cX10_word 42 = .ok (.aload_n 0, 1) := by decide +kernel
theorem dX10_word_43 : decode cX10_word 43 = .ok (.iload_n 1, 1) := by decide +kernel
theorem dX10_word_44 : decode cX10_word 44 = .ok (.ldc 185, 2) := by decide +kernel
theorem dX10_word_46 : decode cX10_word 46 = .ok (.invokevirtual 177, 3) := by decide +kernel
theorem dX10_word_49 : decode cX10_word 49 = .ok (.ifCond .eq 7, 3) := by decide +kernel
theorem dX10_word_52 : decode cX10_word 52 = .ok (.iconst 3, 1) := by decide +kernel
theorem dX10_word_53 : decode cX10_word 53 = .ok (.goto 32, 3) := by decide +kernel
theorem dX10_word_56 : decode cX10_word 56 = .ok (.aload_n 0, 1) := by decide +kernel
theorem dX10_word_57 : decode cX10_word 57 = .ok (.iload_n 1, 1) := by decide +kernel
theorem dX10_word_58 : decode cX10_word 58 = .ok (.ldc 187, 2) := by decide +kernel
theorem dX10_word_60 : decode cX10_word 60 = .ok (.invokevirtual 177, 3) := by decide +kernel
theorem dX10_word_63 : decode cX10_word 63 = .ok (.ifCond .eq 7, 3) := by decide +kernel
theorem dX10_word_66 : decode cX10_word 66 = .ok (.iconst 4, 1) := by decide +kernel
theorem dX10_word_67 : decode cX10_word 67 = .ok (.goto 18, 3) := by decide +kernel
theorem dX10_word_70 : decode cX10_word 70 = .ok (.aload_n 0, 1) := by decide +kernel
theorem dX10_word_71 : decode cX10_word 71 = .ok (.iload_n 1, 1) := by decide +kernel
theorem dX10_word_72 : decode cX10_word 72 = .ok (.ldc 188, 2) := by decide +kernel
theorem dX10_word_74 : decode cX10_word 74 = .ok (.invokevirtual 177, 3) := by decide +kernel
theorem dX10_word_77 : decode cX10_word 77 = .ok (.ifCond .eq 7, 3) := by decide +kernel
theorem dX10_word_80 : decode cX10_word 80 = .ok (.iconst 5, 1) := by decide +kernel
theorem dX10_word_81 : decode cX10_word 81 = .ok (.goto 4, 3) := by decide +kernel
theorem dX10_word_84 : decode cX10_word 84 = .ok (.iconst (-1), 1) := by decide +kernel
theorem dX10_word_85 : decode cX10_word 85 = .ok (.ireturn, 1) := by decide +kernel
theorem dX10_defined_0 : decode cX10_defined 0 = .ok (.bipush 6, 2) := by decide +kernel
theorem dX10_defined_2 : decode cX10_defined 2 = .ok (.istore_n 2, 1) := by decide +kernel
theorem dX10_defined_3 : decode cX10_defined 3 = .ok (.iload_n 2, 1) := by decide +kernel
theorem dX10_defined_4 : decode cX10_defined 4 = .ok (.aload_n 0, 1) := by decide +kernel
theorem dX10_defined_5 : decode cX10_defined 5 = .ok (.getfield 189, 3) := by decide +kernel
theorem dX10_defined_8 : decode cX10_defined 8 = .ok (.if_icmp .ge 35, 3) := by decide +kernel
theorem dX10_defined_11 : decode cX10_defined 11 = .ok (.aload_n 0, 1) := by decide +kernel
theorem dX10_defined_12 : decode cX10_defined 12 = .ok (.getfield 41, 3) := by decide +kernel
theorem dX10_defined_15 : decode cX10_defined 15 = .ok (.iload_n 2, 1) := by decide +kernel
theorem dX10_defined_16 : decode cX10_defined 16 = .ok (.iaload, 1) := by decide +kernel
theorem dX10_defined_17 : decode cX10_defined 17 = .ok (.ifCond .lt 20, 3) := by decide +kernel
theorem dX10_defined_20 : decode cX10_defined 20 = .ok (.aload_n 0, 1) := by decide +kernel
theorem dX10_defined_21 : decode cX10_defined 21 = .ok (.aload_n 0, 1) := by decide +kernel
theorem dX10_defined_22 : decode cX10_defined 22 = .ok (.getfield 41, 3) := by decide +kernel
theorem dX10_defined_25 : decode cX10_defined 25 = .ok (.iload_n 2, 1) := by decide +kernel
theorem dX10_defined_26 : decode cX10_defined 26 = .ok (.iaload, 1) := by decide +kernel
theorem dX10_defined_27 : decode cX10_defined 27 = .ok (.aload_n 0, 1) := by decide +kernel
theorem dX10_defined_28 : decode cX10_defined 28 = .ok (.iload_n 1, 1) := by decide +kernel
theorem dX10_defined_29 : decode cX10_defined 29 = .ok (.invokevirtual 155, 3) := by decide +kernel
theorem dX10_defined_32 : decode cX10_defined 32 = .ok (.ifCond .eq 5, 3) := by decide +kernel
theorem dX10_defined_35 : decode cX10_defined 35 = .ok (.iload_n 2, 1) := by decide +kernel
theorem dX10_defined_36 : decode cX10_defined 36 = .ok (.ireturn, 1) := by decide +kernel
theorem dX10_defined_37 : decode cX10_defined 37 = .ok (.iinc 2 1, 3) := by decide +kernel
theorem dX10_defined_40 : decode cX10_defined 40 = .ok (.goto (-37), 3) := by decide +kernel
theorem dX10_defined_43 : decode cX10_defined 43 = .ok (.iconst (-1), 1) := by decide +kernel
theorem dX10_defined_44 : decode cX10_defined 44 = .ok (.ireturn, 1) := by decide +kernel
theorem dX10_shape_0 : decode cX10_shape 0 = .ok (.aload_n 0, 1) := by decide +kernel
theorem dX10_shape_1 : decode cX10_shape 1 = .ok (.getfield 38, 3) := by decide +kernel
theorem dX10_shape_4 : decode cX10_shape 4 = .ok (.aload_n 0, 1) := by decide +kernel
theorem dX10_shape_5 : decode cX10_shape 5 = .ok (.getfield 189, 3) := by decide +kernel
theorem dX10_shape_8 : decode cX10_shape 8 = .ok (.iload_n 1, 1) := by decide +kernel
theorem dX10_shape_9 : decode cX10_shape 9 = .ok (.iastore, 1) := by decide +kernel
theorem dX10_shape_10 : decode cX10_shape 10 = .ok (.aload_n 0, 1) := by decide +kernel
theorem dX10_shape_11 : decode cX10_shape 11 = .ok (.getfield 41, 3) := by decide +kernel
theorem dX10_shape_14 : decode cX10_shape 14 = .ok (.aload_n 0, 1) := by decide +kernel
theorem dX10_shape_15 : decode cX10_shape 15 = .ok (.getfield 189, 3) := by decide +kernel
theorem dX10_shape_18 : decode cX10_shape 18 = .ok (.iconst (-1), 1) := by decide +kernel
theorem dX10_shape_19 : decode cX10_shape 19 = .ok (.iastore, 1) := by decide +kernel
theorem dX10_shape_20 : decode cX10_shape 20 = .ok (.aload_n 0, 1) := by decide +kernel
theorem dX10_shape_21 : decode cX10_shape 21 = .ok (.getfield 44, 3) := by decide +kernel
theorem dX10_shape_24 : decode cX10_shape 24 = .ok (.aload_n 0, 1) := by decide +kernel
theorem dX10_shape_25 : decode cX10_shape 25 = .ok (.getfield 189, 3) := by decide +kernel
theorem dX10_shape_28 : decode cX10_shape 28 = .ok (.iconst 0, 1) := by decide +kernel
theorem dX10_shape_29 : decode cX10_shape 29 = .ok (.iastore, 1) := by decide +kernel
theorem dX10_shape_30 : decode cX10_shape 30 = .ok (.aload_n 0, 1) := by decide +kernel
theorem dX10_shape_31 : decode cX10_shape 31 = .ok (.getfield 47, 3) := by decide +kernel
theorem dX10_shape_34 : decode cX10_shape 34 = .ok (.aload_n 0, 1) := by decide +kernel
theorem dX10_shape_35 : decode cX10_shape 35 = .ok (.getfield 189, 3) := by decide +kernel
theorem dX10_shape_38 : decode cX10_shape 38 = .ok (.iconst (-1), 1) := by decide +kernel
theorem dX10_shape_39 : decode cX10_shape 39 = .ok (.iastore, 1) := by decide +kernel
theorem dX10_shape_40 : decode cX10_shape 40 = .ok (.aload_n 0, 1) := by decide +kernel
theorem dX10_shape_41 : decode cX10_shape 41 = .ok (.getfield 50, 3) := by decide +kernel
theorem dX10_shape_44 : decode cX10_shape 44 = .ok (.aload_n 0, 1) := by decide +kernel
theorem dX10_shape_45 : decode cX10_shape 45 = .ok (.getfield 189, 3) := by decide +kernel
theorem dX10_shape_48 : decode cX10_shape 48 = .ok (.iconst 0, 1) := by decide +kernel
theorem dX10_shape_49 : decode cX10_shape 49 = .ok (.iastore, 1) := by decide +kernel
theorem dX10_shape_50 : decode cX10_shape 50 = .ok (.aload_n 0, 1) := by decide +kernel
theorem dX10_shape_51 : decode cX10_shape 51 = .ok (.getfield 53, 3) := by decide +kernel
theorem dX10_shape_54 : decode cX10_shape 54 = .ok (.aload_n 0, 1) := by decide +kernel
theorem dX10_shape_55 : decode cX10_shape 55 = .ok (.getfield 189, 3) := by decide +kernel
theorem dX10_shape_58 : decode cX10_shape 58 = .ok (.iconst (-1), 1) := by decide +kernel
theorem dX10_shape_59 : decode cX10_shape 59 = .ok (.iastore, 1) := by decide +kernel
theorem dX10_shape_60 : decode cX10_shape 60 = .ok (.aload_n 0, 1) := by decide +kernel
theorem dX10_shape_61 : decode cX10_shape 61 = .ok (.dup, 1) := by decide +kernel
theorem dX10_shape_62 : decode cX10_shape 62 = .ok (.getfield 189, 3) := by decide +kernel
theorem dX10_shape_65 : decode cX10_shape 65 = .ok (.iconst 1, 1) := by decide +kernel
theorem dX10_shape_66 : decode cX10_shape 66 = .ok (.iadd, 1) := by decide +kernel
theorem dX10_shape_67 : decode cX10_shape 67 = .ok (.putfield 189, 3) := by decide +kernel
theorem dX10_shape_70 : decode cX10_shape 70 = .ok (.aload_n 0, 1) := by decide +kernel
theorem dX10_shape_71 : decode cX10_shape 71 = .ok (.getfield 189, 3) := by decide +kernel
theorem dX10_shape_74 : decode cX10_shape 74 = .ok (.iconst 1, 1) := by decide +kernel
theorem dX10_shape_75 : decode cX10_shape 75 = .ok (.isub, 1) := by decide +kernel
theorem dX10_shape_76 : decode cX10_shape 76 = .ok (.ireturn, 1) := by decide +kernel
theorem dX10_addKid_0 : decode cX10_addKid 0 = .ok (.aload_n 0, 1) := by decide +kernel
theorem dX10_addKid_1 : decode cX10_addKid 1 = .ok (.getfield 192, 3) := by decide +kernel
theorem dX10_addKid_4 : decode cX10_addKid 4 = .ok (.istore_n 3, 1) := by decide +kernel
theorem dX10_addKid_5 : decode cX10_addKid 5 = .ok (.aload_n 0, 1) := by decide +kernel
theorem dX10_addKid_6 : decode cX10_addKid 6 = .ok (.dup, 1) := by decide +kernel
theorem dX10_addKid_7 : decode cX10_addKid 7 = .ok (.getfield 192, 3) := by decide +kernel
theorem dX10_addKid_10 : decode cX10_addKid 10 = .ok (.iconst 1, 1) := by decide +kernel
theorem dX10_addKid_11 : decode cX10_addKid 11 = .ok (.iadd, 1) := by decide +kernel
theorem dX10_addKid_12 : decode cX10_addKid 12 = .ok (.putfield 192, 3) := by decide +kernel
theorem dX10_addKid_15 : decode cX10_addKid 15 = .ok (.aload_n 0, 1) := by decide +kernel
theorem dX10_addKid_16 : decode cX10_addKid 16 = .ok (.getfield 56, 3) := by decide +kernel
theorem dX10_addKid_19 : decode cX10_addKid 19 = .ok (.iload_n 3, 1) := by decide +kernel
theorem dX10_addKid_20 : decode cX10_addKid 20 = .ok (.iconst (-1), 1) := by decide +kernel
theorem dX10_addKid_21 : decode cX10_addKid 21 = .ok (.iastore, 1) := by decide +kernel
theorem dX10_addKid_22 : decode cX10_addKid 22 = .ok (.aload_n 0, 1) := by decide +kernel
theorem dX10_addKid_23 : decode cX10_addKid 23 = .ok (.getfield 59, 3) := by decide +kernel
theorem dX10_addKid_26 : decode cX10_addKid 26 = .ok (.iload_n 3, 1) := by decide +kernel
theorem dX10_addKid_27 : decode cX10_addKid 27 = .ok (.iconst (-1), 1) := by decide +kernel
theorem dX10_addKid_28 : decode cX10_addKid 28 = .ok (.iastore, 1) := by decide +kernel
theorem dX10_addKid_29 : decode cX10_addKid 29 = .ok (.aload_n 0, 1) := by decide +kernel
theorem dX10_addKid_30 : decode cX10_addKid 30 = .ok (.getfield 62, 3) := by decide +kernel
theorem dX10_addKid_33 : decode cX10_addKid 33 = .ok (.iload_n 3, 1) := by decide +kernel
theorem dX10_addKid_34 : decode cX10_addKid 34 = .ok (.iconst (-1), 1) := by decide +kernel
theorem dX10_addKid_35 : decode cX10_addKid 35 = .ok (.iastore, 1) := by decide +kernel
theorem dX10_addKid_36 : decode cX10_addKid 36 = .ok (.aload_n 0, 1) := by decide +kernel
theorem dX10_addKid_37 : decode cX10_addKid 37 = .ok (.getfield 65, 3) := by decide +kernel
theorem dX10_addKid_40 : decode cX10_addKid 40 = .ok (.iload_n 3, 1) := by decide +kernel
theorem dX10_addKid_41 : decode cX10_addKid 41 = .ok (.iconst (-1), 1) := by decide +kernel
theorem dX10_addKid_42 : decode cX10_addKid 42 = .ok (.iastore, 1) := by decide +kernel
theorem dX10_addKid_43 : decode cX10_addKid 43 = .ok (.iload_n 2, 1) := by decide +kernel
theorem dX10_addKid_44 : decode cX10_addKid 44 = .ok (.ifCond .ge 13, 3) := by decide +kernel
theorem dX10_addKid_47 : decode cX10_addKid 47 = .ok (.aload_n 0, 1) := by decide +kernel
theorem dX10_addKid_48 : decode cX10_addKid 48 = .ok (.getfield 47, 3) := by decide +kernel
theorem dX10_addKid_51 : decode cX10_addKid 51 = .ok (.iload_n 1, 1) := by decide +kernel
theorem dX10_addKid_52 : decode cX10_addKid 52 = .ok (.iload_n 3, 1) := by decide +kernel
theorem dX10_addKid_53 : decode cX10_addKid 53 = .ok (.iastore, 1) := by decide +kernel
theorem dX10_addKid_54 : decode cX10_addKid 54 = .ok (.goto 10, 3) := by decide +kernel
theorem dX10_addKid_57 : decode cX10_addKid 57 = .ok (.aload_n 0, 1) := by decide +kernel
theorem dX10_addKid_58 : decode cX10_addKid 58 = .ok (.getfield 65, 3) := by decide +kernel
theorem dX10_addKid_61 : decode cX10_addKid 61 = .ok (.iload_n 2, 1) := by decide +kernel
theorem dX10_addKid_62 : decode cX10_addKid 62 = .ok (.iload_n 3, 1) := by decide +kernel
theorem dX10_addKid_63 : decode cX10_addKid 63 = .ok (.iastore, 1) := by decide +kernel
theorem dX10_addKid_64 : decode cX10_addKid 64 = .ok (.aload_n 0, 1) := by decide +kernel
theorem dX10_addKid_65 : decode cX10_addKid 65 = .ok (.getfield 50, 3) := by decide +kernel
theorem dX10_addKid_68 : decode cX10_addKid 68 = .ok (.iload_n 1, 1) := by decide +kernel
theorem dX10_addKid_69 : decode cX10_addKid 69 = .ok (.dup2, 1) := by decide +kernel
theorem dX10_addKid_70 : decode cX10_addKid 70 = .ok (.iaload, 1) := by decide +kernel
theorem dX10_addKid_71 : decode cX10_addKid 71 = .ok (.iconst 1, 1) := by decide +kernel
theorem dX10_addKid_72 : decode cX10_addKid 72 = .ok (.iadd, 1) := by decide +kernel
theorem dX10_addKid_73 : decode cX10_addKid 73 = .ok (.iastore, 1) := by decide +kernel
theorem dX10_addKid_74 : decode cX10_addKid 74 = .ok (.iload_n 3, 1) := by decide +kernel
theorem dX10_addKid_75 : decode cX10_addKid 75 = .ok (.ireturn, 1) := by decide +kernel
theorem dX10_schemaOf_0 : decode cX10_schemaOf 0 = .ok (.aload_n 0, 1) := by decide +kernel
theorem dX10_schemaOf_1 : decode cX10_schemaOf 1 = .ok (.aload_n 0, 1) := by decide +kernel
theorem dX10_schemaOf_2 : decode cX10_schemaOf 2 = .ok (.getfield 195, 3) := by decide +kernel
theorem dX10_schemaOf_5 : decode cX10_schemaOf 5 = .ok (.sipush 128, 3) := by decide +kernel
theorem dX10_schemaOf_8 : decode cX10_schemaOf 8 = .ok (.if_icmp .ge 7, 3) := by decide +kernel
theorem dX10_schemaOf_11 : decode cX10_schemaOf 11 = .ok (.iconst 1, 1) := by decide +kernel
theorem dX10_schemaOf_12 : decode cX10_schemaOf 12 = .ok (.goto 4, 3) := by decide +kernel
theorem dX10_schemaOf_15 : decode cX10_schemaOf 15 = .ok (.iconst 0, 1) := by decide +kernel
theorem dX10_schemaOf_16 : decode cX10_schemaOf 16 = .ok (.bipush 13, 2) := by decide +kernel
theorem dX10_schemaOf_18 : decode cX10_schemaOf 18 = .ok (.aload_n 0, 1) := by decide +kernel
theorem dX10_schemaOf_19 : decode cX10_schemaOf 19 = .ok (.getfield 19, 3) := by decide +kernel
theorem dX10_schemaOf_22 : decode cX10_schemaOf 22 = .ok (.iload_n 1, 1) := by decide +kernel
theorem dX10_schemaOf_23 : decode cX10_schemaOf 23 = .ok (.iaload, 1) := by decide +kernel
theorem dX10_schemaOf_24 : decode cX10_schemaOf 24 = .ok (.invokevirtual 105, 3) := by decide +kernel
theorem dX10_schemaOf_27 : decode cX10_schemaOf 27 = .ok (.aload_n 0, 1) := by decide +kernel
theorem dX10_schemaOf_28 : decode cX10_schemaOf 28 = .ok (.dup, 1) := by decide +kernel
theorem dX10_schemaOf_29 : decode cX10_schemaOf 29 = .ok (.getfield 195, 3) := by decide +kernel
theorem dX10_schemaOf_32 : decode cX10_schemaOf 32 = .ok (.iconst 1, 1) := by decide +kernel
theorem dX10_schemaOf_33 : decode cX10_schemaOf 33 = .ok (.iadd, 1) := by decide +kernel
theorem dX10_schemaOf_34 : decode cX10_schemaOf 34 = .ok (.putfield 195, 3) := by decide +kernel
theorem dX10_schemaOf_37 : decode cX10_schemaOf 37 = .ok (.aload_n 0, 1) := by decide +kernel
theorem dX10_schemaOf_38 : decode cX10_schemaOf 38 = .ok (.iload_n 2, 1) := by decide +kernel
theorem dX10_schemaOf_39 : decode cX10_schemaOf 39 = .ok (.bipush 16, 2) := by decide +kernel
theorem dX10_schemaOf_41 : decode cX10_schemaOf 41 = .ok (.if_icmp .ge 7, 3) := by decide +kernel
theorem dX10_schemaOf_44 : decode cX10_schemaOf 44 = .ok (.iconst 1, 1) := by decide +kernel
theorem dX10_schemaOf_45 : decode cX10_schemaOf 45 = .ok (.goto 4, 3) := by decide +kernel
theorem dX10_schemaOf_48 : decode cX10_schemaOf 48 = .ok (.iconst 0, 1) := by decide +kernel
theorem dX10_schemaOf_49 : decode cX10_schemaOf 49 = .ok (.bipush 14, 2) := by decide +kernel
theorem dX10_schemaOf_51 : decode cX10_schemaOf 51 = .ok (.aload_n 0, 1) := by decide +kernel
theorem dX10_schemaOf_52 : decode cX10_schemaOf 52 = .ok (.getfield 19, 3) := by decide +kernel
theorem dX10_schemaOf_55 : decode cX10_schemaOf 55 = .ok (.iload_n 1, 1) := by decide +kernel
theorem dX10_schemaOf_56 : decode cX10_schemaOf 56 = .ok (.iaload, 1) := by decide +kernel
theorem dX10_schemaOf_57 : decode cX10_schemaOf 57 = .ok (.invokevirtual 105, 3) := by decide +kernel
theorem dX10_schemaOf_60 : decode cX10_schemaOf 60 = .ok (.aload_n 0, 1) := by decide +kernel
theorem dX10_schemaOf_61 : decode cX10_schemaOf 61 = .ok (.getfield 15, 3) := by decide +kernel
theorem dX10_schemaOf_64 : decode cX10_schemaOf 64 = .ok (.iload_n 1, 1) := by decide +kernel
theorem dX10_schemaOf_65 : decode cX10_schemaOf 65 = .ok (.iaload, 1) := by decide +kernel
theorem dX10_schemaOf_66 : decode cX10_schemaOf 66 = .ok (.iconst 2, 1) := by decide +kernel
theorem dX10_schemaOf_67 : decode cX10_schemaOf 67 = .ok (.if_icmp .ne 51, 3) := by decide +kernel
theorem dX10_schemaOf_70 : decode cX10_schemaOf 70 = .ok (.aload_n 0, 1) := by decide +kernel
theorem dX10_schemaOf_71 : decode cX10_schemaOf 71 = .ok (.iload_n 1, 1) := by decide +kernel
theorem dX10_schemaOf_72 : decode cX10_schemaOf 72 = .ok (.invokevirtual 198, 3) := by decide +kernel
theorem dX10_schemaOf_75 : decode cX10_schemaOf 75 = .ok (.istore 4, 2) := by decide +kernel
theorem dX10_schemaOf_77 : decode cX10_schemaOf 77 = .ok (.iload 4, 2) := by decide +kernel
theorem dX10_schemaOf_79 : decode cX10_schemaOf 79 = .ok (.ifCond .lt 8, 3) := by decide +kernel
theorem dX10_schemaOf_82 : decode cX10_schemaOf 82 = .ok (.iload 4, 2) := by decide +kernel
theorem dX10_schemaOf_84 : decode cX10_schemaOf 84 = .ok (.goto 8, 3) := by decide +kernel
theorem dX10_schemaOf_87 : decode cX10_schemaOf 87 = .ok (.aload_n 0, 1) := by decide +kernel
theorem dX10_schemaOf_88 : decode cX10_schemaOf 88 = .ok (.iload_n 1, 1) := by decide +kernel
theorem dX10_schemaOf_89 : decode cX10_schemaOf 89 = .ok (.invokevirtual 201, 3) := by decide +kernel
theorem dX10_schemaOf_92 : decode cX10_schemaOf 92 = .ok (.istore 5, 2) := by decide +kernel
theorem dX10_schemaOf_94 : decode cX10_schemaOf 94 = .ok (.aload_n 0, 1) := by decide +kernel
theorem dX10_schemaOf_95 : decode cX10_schemaOf 95 = .ok (.iload 5, 2) := by decide +kernel
theorem dX10_schemaOf_97 : decode cX10_schemaOf 97 = .ok (.ifCond .lt 7, 3) := by decide +kernel
theorem dX10_schemaOf_100 : decode cX10_schemaOf 100 = .ok (.iconst 1, 1) := by decide +kernel
theorem dX10_schemaOf_101 : decode cX10_schemaOf 101 = .ok (.goto 4, 3) := by decide +kernel
theorem dX10_schemaOf_104 : decode cX10_schemaOf 104 = .ok (.iconst 0, 1) := by decide +kernel
theorem dX10_schemaOf_105 : decode cX10_schemaOf 105 = .ok (.iconst 3, 1) := by decide +kernel
theorem dX10_schemaOf_106 : decode cX10_schemaOf 106 = .ok (.aload_n 0, 1) := by decide +kernel
theorem dX10_schemaOf_107 : decode cX10_schemaOf 107 = .ok (.getfield 19, 3) := by decide +kernel
theorem dX10_schemaOf_110 : decode cX10_schemaOf 110 = .ok (.iload_n 1, 1) := by decide +kernel
theorem dX10_schemaOf_111 : decode cX10_schemaOf 111 = .ok (.iaload, 1) := by decide +kernel
theorem dX10_schemaOf_112 : decode cX10_schemaOf 112 = .ok (.invokevirtual 105, 3) := by decide +kernel
theorem dX10_schemaOf_115 : decode cX10_schemaOf 115 = .ok (.iload 5, 2) := by decide +kernel
theorem dX10_schemaOf_117 : decode cX10_schemaOf 117 = .ok (.ireturn, 1) := by decide +kernel
theorem dX10_schemaOf_118 : decode cX10_schemaOf 118 = .ok (.aload_n 0, 1) := by decide +kernel
theorem dX10_schemaOf_119 : decode cX10_schemaOf 119 = .ok (.getfield 15, 3) := by decide +kernel
theorem dX10_schemaOf_122 : decode cX10_schemaOf 122 = .ok (.iload_n 1, 1) := by decide +kernel
theorem dX10_schemaOf_123 : decode cX10_schemaOf 123 = .ok (.iaload, 1) := by decide +kernel
theorem dX10_schemaOf_124 : decode cX10_schemaOf 124 = .ok (.iconst 1, 1) := by decide +kernel
theorem dX10_schemaOf_125 : decode cX10_schemaOf 125 = .ok (.if_icmp .ne 11, 3) := by decide +kernel
theorem dX10_schemaOf_128 : decode cX10_schemaOf 128 = .ok (.aload_n 0, 1) := by decide +kernel
theorem dX10_schemaOf_129 : decode cX10_schemaOf 129 = .ok (.iload_n 1, 1) := by decide +kernel
theorem dX10_schemaOf_130 : decode cX10_schemaOf 130 = .ok (.iload_n 2, 1) := by decide +kernel
theorem dX10_schemaOf_131 : decode cX10_schemaOf 131 = .ok (.iload_n 3, 1) := by decide +kernel
theorem dX10_schemaOf_132 : decode cX10_schemaOf 132 = .ok (.invokevirtual 204, 3) := by decide +kernel
theorem dX10_schemaOf_135 : decode cX10_schemaOf 135 = .ok (.ireturn, 1) := by decide +kernel
theorem dX10_schemaOf_136 : decode cX10_schemaOf 136 = .ok (.aload_n 0, 1) := by decide +kernel
theorem dX10_schemaOf_137 : decode cX10_schemaOf 137 = .ok (.aload_n 0, 1) := by decide +kernel
theorem dX10_schemaOf_138 : decode cX10_schemaOf 138 = .ok (.getfield 15, 3) := by decide +kernel
theorem dX10_schemaOf_141 : decode cX10_schemaOf 141 = .ok (.iload_n 1, 1) := by decide +kernel
theorem dX10_schemaOf_142 : decode cX10_schemaOf 142 = .ok (.iaload, 1) := by decide +kernel
theorem dX10_schemaOf_143 : decode cX10_schemaOf 143 = .ok (.ifCond .ne 7, 3) := by decide +kernel
theorem dX10_schemaOf_146 : decode cX10_schemaOf 146 = .ok (.iconst 1, 1) := by decide +kernel
theorem dX10_schemaOf_147 : decode cX10_schemaOf 147 = .ok (.goto 4, 3) := by decide +kernel
theorem dX10_schemaOf_150 : decode cX10_schemaOf 150 = .ok (.iconst 0, 1) := by decide +kernel
theorem dX10_schemaOf_151 : decode cX10_schemaOf 151 = .ok (.iconst 2, 1) := by decide +kernel
theorem dX10_schemaOf_152 : decode cX10_schemaOf 152 = .ok (.aload_n 0, 1) := by decide +kernel
theorem dX10_schemaOf_153 : decode cX10_schemaOf 153 = .ok (.getfield 19, 3) := by decide +kernel
theorem dX10_schemaOf_156 : decode cX10_schemaOf 156 = .ok (.iload_n 1, 1) := by decide +kernel
theorem dX10_schemaOf_157 : decode cX10_schemaOf 157 = .ok (.iaload, 1) := by decide +kernel
theorem dX10_schemaOf_158 : decode cX10_schemaOf 158 = .ok (.invokevirtual 105, 3) := by decide +kernel
theorem dX10_schemaOf_161 : decode cX10_schemaOf 161 = .ok (.aload_n 0, 1) := by decide +kernel
theorem dX10_schemaOf_162 : decode cX10_schemaOf 162 = .ok (.iload_n 1, 1) := by decide +kernel
theorem dX10_schemaOf_163 : decode cX10_schemaOf 163 = .ok (.ldc 208, 2) := by decide +kernel
theorem dX10_schemaOf_165 : decode cX10_schemaOf 165 = .ok (.invokevirtual 210, 3) := by decide +kernel
theorem dX10_schemaOf_168 : decode cX10_schemaOf 168 = .ok (.istore 4, 2) := by decide +kernel
theorem dX10_schemaOf_170 : decode cX10_schemaOf 170 = .ok (.aload_n 0, 1) := by decide +kernel
theorem dX10_schemaOf_171 : decode cX10_schemaOf 171 = .ok (.iload 4, 2) := by decide +kernel
theorem dX10_schemaOf_173 : decode cX10_schemaOf 173 = .ok (.ifCond .lt 18, 3) := by decide +kernel
theorem dX10_schemaOf_176 : decode cX10_schemaOf 176 = .ok (.aload_n 0, 1) := by decide +kernel
theorem dX10_schemaOf_177 : decode cX10_schemaOf 177 = .ok (.getfield 15, 3) := by decide +kernel
theorem dX10_schemaOf_180 : decode cX10_schemaOf 180 = .ok (.iload 4, 2) := by decide +kernel
theorem dX10_schemaOf_182 : decode cX10_schemaOf 182 = .ok (.iaload, 1) := by decide +kernel
theorem dX10_schemaOf_183 : decode cX10_schemaOf 183 = .ok (.iconst 2, 1) := by decide +kernel
theorem dX10_schemaOf_184 : decode cX10_schemaOf 184 = .ok (.if_icmp .ne 7, 3) := by decide +kernel
theorem dX10_schemaOf_187 : decode cX10_schemaOf 187 = .ok (.iconst 1, 1) := by decide +kernel
theorem dX10_schemaOf_188 : decode cX10_schemaOf 188 = .ok (.goto 4, 3) := by decide +kernel
theorem dX10_schemaOf_191 : decode cX10_schemaOf 191 = .ok (.iconst 0, 1) := by decide +kernel
theorem dX10_schemaOf_192 : decode cX10_schemaOf 192 = .ok (.bipush 7, 2) := by decide +kernel
theorem dX10_schemaOf_194 : decode cX10_schemaOf 194 = .ok (.aload_n 0, 1) := by decide +kernel
theorem dX10_schemaOf_195 : decode cX10_schemaOf 195 = .ok (.getfield 19, 3) := by decide +kernel
theorem dX10_schemaOf_198 : decode cX10_schemaOf 198 = .ok (.iload_n 1, 1) := by decide +kernel
theorem dX10_schemaOf_199 : decode cX10_schemaOf 199 = .ok (.iaload, 1) := by decide +kernel
theorem dX10_schemaOf_200 : decode cX10_schemaOf 200 = .ok (.invokevirtual 105, 3) := by decide +kernel
theorem dX10_schemaOf_203 : decode cX10_schemaOf 203 = .ok (.aload_n 0, 1) := by decide +kernel
theorem dX10_schemaOf_204 : decode cX10_schemaOf 204 = .ok (.iload 4, 2) := by decide +kernel
theorem dX10_schemaOf_206 : decode cX10_schemaOf 206 = .ok (.invokevirtual 198, 3) := by decide +kernel
theorem dX10_schemaOf_209 : decode cX10_schemaOf 209 = .ok (.ifCond .lt 10, 3) := by decide +kernel
theorem dX10_schemaOf_212 : decode cX10_schemaOf 212 = .ok (.aload_n 0, 1) := by decide +kernel
theorem dX10_schemaOf_213 : decode cX10_schemaOf 213 = .ok (.iload 4, 2) := by decide +kernel
theorem dX10_schemaOf_215 : decode cX10_schemaOf 215 = .ok (.invokevirtual 198, 3) := by decide +kernel
theorem dX10_schemaOf_218 : decode cX10_schemaOf 218 = .ok (.ireturn, 1) := by decide +kernel
theorem dX10_schemaOf_219 : decode cX10_schemaOf 219 = .ok (.aload_n 0, 1) := by decide +kernel
theorem dX10_schemaOf_220 : decode cX10_schemaOf 220 = .ok (.iload 4, 2) := by decide +kernel
theorem dX10_schemaOf_222 : decode cX10_schemaOf 222 = .ok (.ldc 214, 2) := by decide +kernel
theorem dX10_schemaOf_224 : decode cX10_schemaOf 224 = .ok (.invokevirtual 177, 3) := by decide +kernel
theorem dX10_schemaOf_227 : decode cX10_schemaOf 227 = .ok (.ifCond .ne 14, 3) := by decide +kernel
theorem dX10_schemaOf_230 : decode cX10_schemaOf 230 = .ok (.aload_n 0, 1) := by decide +kernel
theorem dX10_schemaOf_231 : decode cX10_schemaOf 231 = .ok (.iload 4, 2) := by decide +kernel
theorem dX10_schemaOf_233 : decode cX10_schemaOf 233 = .ok (.ldc 216, 2) := by decide +kernel
theorem dX10_schemaOf_235 : decode cX10_schemaOf 235 = .ok (.invokevirtual 177, 3) := by decide +kernel
theorem dX10_schemaOf_238 : decode cX10_schemaOf 238 = .ok (.ifCond .eq 101, 3) := by decide +kernel
theorem dX10_schemaOf_241 : decode cX10_schemaOf 241 = .ok (.aload_n 0, 1) := by decide +kernel
theorem dX10_schemaOf_242 : decode cX10_schemaOf 242 = .ok (.iload 4, 2) := by decide +kernel
theorem dX10_schemaOf_244 : decode cX10_schemaOf 244 = .ok (.ldc 214, 2) := by decide +kernel
theorem dX10_schemaOf_246 : decode cX10_schemaOf 246 = .ok (.invokevirtual 177, 3) := by decide +kernel
theorem dX10_schemaOf_249 : decode cX10_schemaOf 249 = .ok (.istore 5, 2) := by decide +kernel
theorem dX10_schemaOf_251 : decode cX10_schemaOf 251 = .ok (.aload_n 0, 1) := by decide +kernel
theorem dX10_schemaOf_252 : decode cX10_schemaOf 252 = .ok (.iload_n 1, 1) := by decide +kernel
theorem dX10_schemaOf_253 : decode cX10_schemaOf 253 = .ok (.iload 5, 2) := by decide +kernel
theorem dX10_schemaOf_255 : decode cX10_schemaOf 255 = .ok (.ifCond .eq 8, 3) := by decide +kernel
theorem dX10_schemaOf_258 : decode cX10_schemaOf 258 = .ok (.ldc 218, 2) := by decide +kernel
theorem dX10_schemaOf_260 : decode cX10_schemaOf 260 = .ok (.goto 5, 3) := by decide +kernel
theorem dX10_schemaOf_263 : decode cX10_schemaOf 263 = .ok (.ldc 220, 2) := by decide +kernel
theorem dX10_schemaOf_265 : decode cX10_schemaOf 265 = .ok (.invokevirtual 210, 3) := by decide +kernel
theorem dX10_schemaOf_268 : decode cX10_schemaOf 268 = .ok (.istore 6, 2) := by decide +kernel
theorem dX10_schemaOf_270 : decode cX10_schemaOf 270 = .ok (.aload_n 0, 1) := by decide +kernel
theorem dX10_schemaOf_271 : decode cX10_schemaOf 271 = .ok (.iload 6, 2) := by decide +kernel
theorem dX10_schemaOf_273 : decode cX10_schemaOf 273 = .ok (.ifCond .lt 7, 3) := by decide +kernel
theorem dX10_schemaOf_276 : decode cX10_schemaOf 276 = .ok (.iconst 1, 1) := by decide +kernel
theorem dX10_schemaOf_277 : decode cX10_schemaOf 277 = .ok (.goto 4, 3) := by decide +kernel
theorem dX10_schemaOf_280 : decode cX10_schemaOf 280 = .ok (.iconst 0, 1) := by decide +kernel
theorem dX10_schemaOf_281 : decode cX10_schemaOf 281 = .ok (.bipush 8, 2) := by decide +kernel
theorem dX10_schemaOf_283 : decode cX10_schemaOf 283 = .ok (.aload_n 0, 1) := by decide +kernel
theorem dX10_schemaOf_284 : decode cX10_schemaOf 284 = .ok (.getfield 19, 3) := by decide +kernel
theorem dX10_schemaOf_287 : decode cX10_schemaOf 287 = .ok (.iload_n 1, 1) := by decide +kernel
theorem dX10_schemaOf_288 : decode cX10_schemaOf 288 = .ok (.iaload, 1) := by decide +kernel
theorem dX10_schemaOf_289 : decode cX10_schemaOf 289 = .ok (.invokevirtual 105, 3) := by decide +kernel
theorem dX10_schemaOf_292 : decode cX10_schemaOf 292 = .ok (.aload_n 0, 1) := by decide +kernel
theorem dX10_schemaOf_293 : decode cX10_schemaOf 293 = .ok (.iload 5, 2) := by decide +kernel
theorem dX10_schemaOf_295 : decode cX10_schemaOf 295 = .ok (.ifCond .eq 8, 3) := by decide +kernel
theorem dX10_schemaOf_298 : decode cX10_schemaOf 298 = .ok (.bipush 6, 2) := by decide +kernel
theorem dX10_schemaOf_300 : decode cX10_schemaOf 300 = .ok (.goto 5, 3) := by decide +kernel
theorem dX10_schemaOf_303 : decode cX10_schemaOf 303 = .ok (.bipush 7, 2) := by decide +kernel
theorem dX10_schemaOf_305 : decode cX10_schemaOf 305 = .ok (.invokevirtual 222, 3) := by decide +kernel
theorem dX10_schemaOf_308 : decode cX10_schemaOf 308 = .ok (.istore 7, 2) := by decide +kernel
theorem dX10_schemaOf_310 : decode cX10_schemaOf 310 = .ok (.aload_n 0, 1) := by decide +kernel
theorem dX10_schemaOf_311 : decode cX10_schemaOf 311 = .ok (.iload 7, 2) := by decide +kernel
theorem dX10_schemaOf_313 : decode cX10_schemaOf 313 = .ok (.iconst (-1), 1) := by decide +kernel
theorem dX10_schemaOf_314 : decode cX10_schemaOf 314 = .ok (.invokevirtual 225, 3) := by decide +kernel
theorem dX10_schemaOf_317 : decode cX10_schemaOf 317 = .ok (.istore 8, 2) := by decide +kernel
theorem dX10_schemaOf_319 : decode cX10_schemaOf 319 = .ok (.aload_n 0, 1) := by decide +kernel
theorem dX10_schemaOf_320 : decode cX10_schemaOf 320 = .ok (.getfield 56, 3) := by decide +kernel
theorem dX10_schemaOf_323 : decode cX10_schemaOf 323 = .ok (.iload 8, 2) := by decide +kernel
theorem dX10_schemaOf_325 : decode cX10_schemaOf 325 = .ok (.aload_n 0, 1) := by decide +kernel
theorem dX10_schemaOf_326 : decode cX10_schemaOf 326 = .ok (.iload 6, 2) := by decide +kernel
theorem dX10_schemaOf_328 : decode cX10_schemaOf 328 = .ok (.iload_n 2, 1) := by decide +kernel
theorem dX10_schemaOf_329 : decode cX10_schemaOf 329 = .ok (.iconst 1, 1) := by decide +kernel
theorem dX10_schemaOf_330 : decode cX10_schemaOf 330 = .ok (.iadd, 1) := by decide +kernel
theorem dX10_schemaOf_331 : decode cX10_schemaOf 331 = .ok (.iconst 0, 1) := by decide +kernel
theorem dX10_schemaOf_332 : decode cX10_schemaOf 332 = .ok (.invokevirtual 229, 3) := by decide +kernel
theorem dX10_schemaOf_335 : decode cX10_schemaOf 335 = .ok (.iastore, 1) := by decide +kernel
theorem dX10_schemaOf_336 : decode cX10_schemaOf 336 = .ok (.iload 7, 2) := by decide +kernel
theorem dX10_schemaOf_338 : decode cX10_schemaOf 338 = .ok (.ireturn, 1) := by decide +kernel
theorem dX10_schemaOf_339 : decode cX10_schemaOf 339 = .ok (.aload_n 0, 1) := by decide +kernel
theorem dX10_schemaOf_340 : decode cX10_schemaOf 340 = .ok (.iload 4, 2) := by decide +kernel
theorem dX10_schemaOf_342 : decode cX10_schemaOf 342 = .ok (.ldc 232, 2) := by decide +kernel
theorem dX10_schemaOf_344 : decode cX10_schemaOf 344 = .ok (.invokevirtual 177, 3) := by decide +kernel
theorem dX10_schemaOf_347 : decode cX10_schemaOf 347 = .ok (.ifCond .ne 25, 3) := by decide +kernel
theorem dX10_schemaOf_350 : decode cX10_schemaOf 350 = .ok (.aload_n 0, 1) := by decide +kernel
theorem dX10_schemaOf_351 : decode cX10_schemaOf 351 = .ok (.iload 4, 2) := by decide +kernel
theorem dX10_schemaOf_353 : decode cX10_schemaOf 353 = .ok (.ldc 234, 2) := by decide +kernel
theorem dX10_schemaOf_355 : decode cX10_schemaOf 355 = .ok (.invokevirtual 177, 3) := by decide +kernel
theorem dX10_schemaOf_358 : decode cX10_schemaOf 358 = .ok (.ifCond .ne 14, 3) := by decide +kernel
theorem dX10_schemaOf_361 : decode cX10_schemaOf 361 = .ok (.aload_n 0, 1) := by decide +kernel
theorem dX10_schemaOf_362 : decode cX10_schemaOf 362 = .ok (.iload 4, 2) := by decide +kernel
theorem dX10_schemaOf_364 : decode cX10_schemaOf 364 = .ok (.ldc 236, 2) := by decide +kernel
theorem dX10_schemaOf_366 : decode cX10_schemaOf 366 = .ok (.invokevirtual 177, 3) := by decide +kernel
theorem dX10_schemaOf_369 : decode cX10_schemaOf 369 = .ok (.ifCond .eq 12, 3) := by decide +kernel
theorem dX10_schemaOf_372 : decode cX10_schemaOf 372 = .ok (.aload_n 0, 1) := by decide +kernel
theorem dX10_schemaOf_373 : decode cX10_schemaOf 373 = .ok (.iload_n 1, 1) := by decide +kernel
theorem dX10_schemaOf_374 : decode cX10_schemaOf 374 = .ok (.iload 4, 2) := by decide +kernel
theorem dX10_schemaOf_376 : decode cX10_schemaOf 376 = .ok (.iload_n 2, 1) := by decide +kernel
theorem dX10_schemaOf_377 : decode cX10_schemaOf 377 = .ok (.invokevirtual 238, 3) := by decide +kernel
theorem dX10_schemaOf_380 : decode cX10_schemaOf 380 = .ok (.ireturn, 1) := by decide +kernel
theorem dX10_schemaOf_381 : decode cX10_schemaOf 381 = .ok (.aload_n 0, 1) := by decide +kernel
theorem dX10_schemaOf_382 : decode cX10_schemaOf 382 = .ok (.iload 4, 2) := by decide +kernel
theorem dX10_schemaOf_384 : decode cX10_schemaOf 384 = .ok (.invokevirtual 201, 3) := by decide +kernel
theorem dX10_schemaOf_387 : decode cX10_schemaOf 387 = .ok (.istore 5, 2) := by decide +kernel
theorem dX10_schemaOf_389 : decode cX10_schemaOf 389 = .ok (.aload_n 0, 1) := by decide +kernel
theorem dX10_schemaOf_390 : decode cX10_schemaOf 390 = .ok (.iload 5, 2) := by decide +kernel
theorem dX10_schemaOf_392 : decode cX10_schemaOf 392 = .ok (.ifCond .lt 7, 3) := by decide +kernel
theorem dX10_schemaOf_395 : decode cX10_schemaOf 395 = .ok (.iconst 1, 1) := by decide +kernel
theorem dX10_schemaOf_396 : decode cX10_schemaOf 396 = .ok (.goto 4, 3) := by decide +kernel
theorem dX10_schemaOf_399 : decode cX10_schemaOf 399 = .ok (.iconst 0, 1) := by decide +kernel
theorem dX10_schemaOf_400 : decode cX10_schemaOf 400 = .ok (.iconst 3, 1) := by decide +kernel
theorem dX10_schemaOf_401 : decode cX10_schemaOf 401 = .ok (.aload_n 0, 1) := by decide +kernel
theorem dX10_schemaOf_402 : decode cX10_schemaOf 402 = .ok (.getfield 19, 3) := by decide +kernel
theorem dX10_schemaOf_405 : decode cX10_schemaOf 405 = .ok (.iload 4, 2) := by decide +kernel
theorem dX10_schemaOf_407 : decode cX10_schemaOf 407 = .ok (.iaload, 1) := by decide +kernel
theorem dX10_schemaOf_408 : decode cX10_schemaOf 408 = .ok (.invokevirtual 105, 3) := by decide +kernel
theorem dX10_schemaOf_411 : decode cX10_schemaOf 411 = .ok (.iload 5, 2) := by decide +kernel
theorem dX10_schemaOf_413 : decode cX10_schemaOf 413 = .ok (.ireturn, 1) := by decide +kernel
theorem dX10_alike_0 : decode cX10_alike 0 = .ok (.iload_n 1, 1) := by decide +kernel
theorem dX10_alike_1 : decode cX10_alike 1 = .ok (.iload_n 2, 1) := by decide +kernel
theorem dX10_alike_2 : decode cX10_alike 2 = .ok (.if_icmp .ne 5, 3) := by decide +kernel
theorem dX10_alike_5 : decode cX10_alike 5 = .ok (.iconst 1, 1) := by decide +kernel
theorem dX10_alike_6 : decode cX10_alike 6 = .ok (.ireturn, 1) := by decide +kernel
theorem dX10_alike_7 : decode cX10_alike 7 = .ok (.aload_n 0, 1) := by decide +kernel
theorem dX10_alike_8 : decode cX10_alike 8 = .ok (.getfield 38, 3) := by decide +kernel
theorem dX10_alike_11 : decode cX10_alike 11 = .ok (.iload_n 1, 1) := by decide +kernel
theorem dX10_alike_12 : decode cX10_alike 12 = .ok (.iaload, 1) := by decide +kernel
theorem dX10_alike_13 : decode cX10_alike 13 = .ok (.aload_n 0, 1) := by decide +kernel
theorem dX10_alike_14 : decode cX10_alike 14 = .ok (.getfield 38, 3) := by decide +kernel
theorem dX10_alike_17 : decode cX10_alike 17 = .ok (.iload_n 2, 1) := by decide +kernel
theorem dX10_alike_18 : decode cX10_alike 18 = .ok (.iaload, 1) := by decide +kernel
theorem dX10_alike_19 : decode cX10_alike 19 = .ok (.if_icmp .ne 29, 3) := by decide +kernel
theorem dX10_alike_22 : decode cX10_alike 22 = .ok (.aload_n 0, 1) := by decide +kernel
theorem dX10_alike_23 : decode cX10_alike 23 = .ok (.getfield 38, 3) := by decide +kernel
theorem dX10_alike_26 : decode cX10_alike 26 = .ok (.iload_n 1, 1) := by decide +kernel
theorem dX10_alike_27 : decode cX10_alike 27 = .ok (.iaload, 1) := by decide +kernel
theorem dX10_alike_28 : decode cX10_alike 28 = .ok (.bipush 6, 2) := by decide +kernel
theorem dX10_alike_30 : decode cX10_alike 30 = .ok (.if_icmp .eq 14, 3) := by decide +kernel
theorem dX10_alike_33 : decode cX10_alike 33 = .ok (.aload_n 0, 1) := by decide +kernel
theorem dX10_alike_34 : decode cX10_alike 34 = .ok (.getfield 38, 3) := by decide +kernel
theorem dX10_alike_37 : decode cX10_alike 37 = .ok (.iload_n 1, 1) := by decide +kernel
theorem dX10_alike_38 : decode cX10_alike 38 = .ok (.iaload, 1) := by decide +kernel
theorem dX10_alike_39 : decode cX10_alike 39 = .ok (.bipush 7, 2) := by decide +kernel
theorem dX10_alike_41 : decode cX10_alike 41 = .ok (.if_icmp .ne 7, 3) := by decide +kernel
theorem dX10_alike_44 : decode cX10_alike 44 = .ok (.iconst 1, 1) := by decide +kernel
theorem dX10_alike_45 : decode cX10_alike 45 = .ok (.goto 4, 3) := by decide +kernel
theorem dX10_alike_48 : decode cX10_alike 48 = .ok (.iconst 0, 1) := by decide +kernel
theorem dX10_alike_49 : decode cX10_alike 49 = .ok (.ireturn, 1) := by decide +kernel
theorem dX10_union_0 : decode cX10_union 0 = .ok (.aload_n 0, 1) := by decide +kernel
theorem dX10_union_1 : decode cX10_union 1 = .ok (.iload_n 3, 1) := by decide +kernel
theorem dX10_union_2 : decode cX10_union 2 = .ok (.ifCond .ne 7, 3) := by decide +kernel
theorem dX10_union_5 : decode cX10_union 5 = .ok (.iconst 1, 1) := by decide +kernel
theorem dX10_union_6 : decode cX10_union 6 = .ok (.goto 4, 3) := by decide +kernel
theorem dX10_union_9 : decode cX10_union 9 = .ok (.iconst 0, 1) := by decide +kernel
theorem dX10_union_10 : decode cX10_union 10 = .ok (.iconst 4, 1) := by decide +kernel
theorem dX10_union_11 : decode cX10_union 11 = .ok (.aload_n 0, 1) := by decide +kernel
theorem dX10_union_12 : decode cX10_union 12 = .ok (.getfield 19, 3) := by decide +kernel
theorem dX10_union_15 : decode cX10_union 15 = .ok (.iload_n 1, 1) := by decide +kernel
theorem dX10_union_16 : decode cX10_union 16 = .ok (.iaload, 1) := by decide +kernel
theorem dX10_union_17 : decode cX10_union 17 = .ok (.invokevirtual 105, 3) := by decide +kernel
theorem dX10_union_20 : decode cX10_union 20 = .ok (.aload_n 0, 1) := by decide +kernel
theorem dX10_union_21 : decode cX10_union 21 = .ok (.aload_n 0, 1) := by decide +kernel
theorem dX10_union_22 : decode cX10_union 22 = .ok (.getfield 26, 3) := by decide +kernel
theorem dX10_union_25 : decode cX10_union 25 = .ok (.iload_n 1, 1) := by decide +kernel
theorem dX10_union_26 : decode cX10_union 26 = .ok (.iaload, 1) := by decide +kernel
theorem dX10_union_27 : decode cX10_union 27 = .ok (.ifCond .le 18, 3) := by decide +kernel
theorem dX10_union_30 : decode cX10_union 30 = .ok (.aload_n 0, 1) := by decide +kernel
theorem dX10_union_31 : decode cX10_union 31 = .ok (.getfield 26, 3) := by decide +kernel
theorem dX10_union_34 : decode cX10_union 34 = .ok (.iload_n 1, 1) := by decide +kernel
theorem dX10_union_35 : decode cX10_union 35 = .ok (.iaload, 1) := by decide +kernel
theorem dX10_union_36 : decode cX10_union 36 = .ok (.bipush 17, 2) := by decide +kernel
theorem dX10_union_38 : decode cX10_union 38 = .ok (.if_icmp .ge 7, 3) := by decide +kernel
theorem dX10_union_41 : decode cX10_union 41 = .ok (.iconst 1, 1) := by decide +kernel
theorem dX10_union_42 : decode cX10_union 42 = .ok (.goto 4, 3) := by decide +kernel
theorem dX10_union_45 : decode cX10_union 45 = .ok (.iconst 0, 1) := by decide +kernel
theorem dX10_union_46 : decode cX10_union 46 = .ok (.iconst 5, 1) := by decide +kernel
theorem dX10_union_47 : decode cX10_union 47 = .ok (.aload_n 0, 1) := by decide +kernel
theorem dX10_union_48 : decode cX10_union 48 = .ok (.getfield 19, 3) := by decide +kernel
theorem dX10_union_51 : decode cX10_union 51 = .ok (.iload_n 1, 1) := by decide +kernel
theorem dX10_union_52 : decode cX10_union 52 = .ok (.iaload, 1) := by decide +kernel
theorem dX10_union_53 : decode cX10_union 53 = .ok (.invokevirtual 105, 3) := by decide +kernel
theorem dX10_union_56 : decode cX10_union 56 = .ok (.aload_n 0, 1) := by decide +kernel
theorem dX10_union_57 : decode cX10_union 57 = .ok (.bipush 8, 2) := by decide +kernel
theorem dX10_union_59 : decode cX10_union 59 = .ok (.invokevirtual 222, 3) := by decide +kernel
theorem dX10_union_62 : decode cX10_union 62 = .ok (.istore 4, 2) := by decide +kernel
theorem dX10_union_64 : decode cX10_union 64 = .ok (.iconst (-1), 1) := by decide +kernel
theorem dX10_union_65 : decode cX10_union 65 = .ok (.istore 5, 2) := by decide +kernel
theorem dX10_union_67 : decode cX10_union 67 = .ok (.aload_n 0, 1) := by decide +kernel
theorem dX10_union_68 : decode cX10_union 68 = .ok (.getfield 29, 3) := by decide +kernel
theorem dX10_union_71 : decode cX10_union 71 = .ok (.iload_n 1, 1) := by decide +kernel
theorem dX10_union_72 : decode cX10_union 72 = .ok (.iaload, 1) := by decide +kernel
theorem dX10_union_73 : decode cX10_union 73 = .ok (.istore 6, 2) := by decide +kernel
theorem dX10_union_75 : decode cX10_union 75 = .ok (.iload 6, 2) := by decide +kernel
theorem dX10_union_77 : decode cX10_union 77 = .ok (.ifCond .lt 106, 3) := by decide +kernel
theorem dX10_union_80 : decode cX10_union 80 = .ok (.aload_n 0, 1) := by decide +kernel
theorem dX10_union_81 : decode cX10_union 81 = .ok (.iload 6, 2) := by decide +kernel
theorem dX10_union_83 : decode cX10_union 83 = .ok (.iload_n 2, 1) := by decide +kernel
theorem dX10_union_84 : decode cX10_union 84 = .ok (.iconst 1, 1) := by decide +kernel
theorem dX10_union_85 : decode cX10_union 85 = .ok (.iadd, 1) := by decide +kernel
theorem dX10_union_86 : decode cX10_union 86 = .ok (.iconst 1, 1) := by decide +kernel
theorem dX10_union_87 : decode cX10_union 87 = .ok (.invokevirtual 229, 3) := by decide +kernel
theorem dX10_union_90 : decode cX10_union 90 = .ok (.istore 7, 2) := by decide +kernel
theorem dX10_union_92 : decode cX10_union 92 = .ok (.aload_n 0, 1) := by decide +kernel
theorem dX10_union_93 : decode cX10_union 93 = .ok (.getfield 47, 3) := by decide +kernel
theorem dX10_union_96 : decode cX10_union 96 = .ok (.iload 4, 2) := by decide +kernel
theorem dX10_union_98 : decode cX10_union 98 = .ok (.iaload, 1) := by decide +kernel
theorem dX10_union_99 : decode cX10_union 99 = .ok (.istore 8, 2) := by decide +kernel
theorem dX10_union_101 : decode cX10_union 101 = .ok (.iload 8, 2) := by decide +kernel
theorem dX10_union_103 : decode cX10_union 103 = .ok (.ifCond .lt 49, 3) := by decide +kernel
theorem dX10_union_106 : decode cX10_union 106 = .ok (.aload_n 0, 1) := by decide +kernel
theorem dX10_union_107 : decode cX10_union 107 = .ok (.aload_n 0, 1) := by decide +kernel
theorem dX10_union_108 : decode cX10_union 108 = .ok (.aload_n 0, 1) := by decide +kernel
theorem dX10_union_109 : decode cX10_union 109 = .ok (.getfield 56, 3) := by decide +kernel
theorem dX10_union_112 : decode cX10_union 112 = .ok (.iload 8, 2) := by decide +kernel
theorem dX10_union_114 : decode cX10_union 114 = .ok (.iaload, 1) := by decide +kernel
theorem dX10_union_115 : decode cX10_union 115 = .ok (.iload 7, 2) := by decide +kernel
theorem dX10_union_117 : decode cX10_union 117 = .ok (.invokevirtual 242, 3) := by decide +kernel
theorem dX10_union_120 : decode cX10_union 120 = .ok (.ifCond .ne 7, 3) := by decide +kernel
theorem dX10_union_123 : decode cX10_union 123 = .ok (.iconst 1, 1) := by decide +kernel
theorem dX10_union_124 : decode cX10_union 124 = .ok (.goto 4, 3) := by decide +kernel
theorem dX10_union_127 : decode cX10_union 127 = .ok (.iconst 0, 1) := by decide +kernel
theorem dX10_union_128 : decode cX10_union 128 = .ok (.bipush 6, 2) := by decide +kernel
theorem dX10_union_130 : decode cX10_union 130 = .ok (.aload_n 0, 1) := by decide +kernel
theorem dX10_union_131 : decode cX10_union 131 = .ok (.getfield 19, 3) := by decide +kernel
theorem dX10_union_134 : decode cX10_union 134 = .ok (.iload 6, 2) := by decide +kernel
theorem dX10_union_136 : decode cX10_union 136 = .ok (.iaload, 1) := by decide +kernel
theorem dX10_union_137 : decode cX10_union 137 = .ok (.invokevirtual 105, 3) := by decide +kernel
theorem dX10_union_140 : decode cX10_union 140 = .ok (.aload_n 0, 1) := by decide +kernel
theorem dX10_union_141 : decode cX10_union 141 = .ok (.getfield 65, 3) := by decide +kernel
theorem dX10_union_144 : decode cX10_union 144 = .ok (.iload 8, 2) := by decide +kernel
theorem dX10_union_146 : decode cX10_union 146 = .ok (.iaload, 1) := by decide +kernel
theorem dX10_union_147 : decode cX10_union 147 = .ok (.istore 8, 2) := by decide +kernel
theorem dX10_union_149 : decode cX10_union 149 = .ok (.goto (-48), 3) := by decide +kernel
theorem dX10_union_152 : decode cX10_union 152 = .ok (.aload_n 0, 1) := by decide +kernel
theorem dX10_union_153 : decode cX10_union 153 = .ok (.iload 4, 2) := by decide +kernel
theorem dX10_union_155 : decode cX10_union 155 = .ok (.iload 5, 2) := by decide +kernel
theorem dX10_union_157 : decode cX10_union 157 = .ok (.invokevirtual 225, 3) := by decide +kernel
theorem dX10_union_160 : decode cX10_union 160 = .ok (.istore 5, 2) := by decide +kernel
theorem dX10_union_162 : decode cX10_union 162 = .ok (.aload_n 0, 1) := by decide +kernel
theorem dX10_union_163 : decode cX10_union 163 = .ok (.getfield 56, 3) := by decide +kernel
theorem dX10_union_166 : decode cX10_union 166 = .ok (.iload 5, 2) := by decide +kernel
theorem dX10_union_168 : decode cX10_union 168 = .ok (.iload 7, 2) := by decide +kernel
theorem dX10_union_170 : decode cX10_union 170 = .ok (.iastore, 1) := by decide +kernel
theorem dX10_union_171 : decode cX10_union 171 = .ok (.aload_n 0, 1) := by decide +kernel
theorem dX10_union_172 : decode cX10_union 172 = .ok (.getfield 32, 3) := by decide +kernel
theorem dX10_union_175 : decode cX10_union 175 = .ok (.iload 6, 2) := by decide +kernel
theorem dX10_union_177 : decode cX10_union 177 = .ok (.iaload, 1) := by decide +kernel
theorem dX10_union_178 : decode cX10_union 178 = .ok (.istore 6, 2) := by decide +kernel
theorem dX10_union_180 : decode cX10_union 180 = .ok (.goto (-105), 3) := by decide +kernel
theorem dX10_union_183 : decode cX10_union 183 = .ok (.iload 4, 2) := by decide +kernel
theorem dX10_union_185 : decode cX10_union 185 = .ok (.ireturn, 1) := by decide +kernel
theorem dX10_named_0 : decode cX10_named 0 = .ok (.aload_n 0, 1) := by decide +kernel
theorem dX10_named_1 : decode cX10_named 1 = .ok (.iload_n 1, 1) := by decide +kernel
theorem dX10_named_2 : decode cX10_named 2 = .ok (.ldc 246, 2) := by decide +kernel
theorem dX10_named_4 : decode cX10_named 4 = .ok (.invokevirtual 210, 3) := by decide +kernel
theorem dX10_named_7 : decode cX10_named 7 = .ok (.istore 4, 2) := by decide +kernel
theorem dX10_named_9 : decode cX10_named 9 = .ok (.aload_n 0, 1) := by decide +kernel
theorem dX10_named_10 : decode cX10_named 10 = .ok (.iload 4, 2) := by decide +kernel
theorem dX10_named_12 : decode cX10_named 12 = .ok (.ifCond .lt 18, 3) := by decide +kernel
theorem dX10_named_15 : decode cX10_named 15 = .ok (.aload_n 0, 1) := by decide +kernel
theorem dX10_named_16 : decode cX10_named 16 = .ok (.getfield 15, 3) := by decide +kernel
theorem dX10_named_19 : decode cX10_named 19 = .ok (.iload 4, 2) := by decide +kernel
theorem dX10_named_21 : decode cX10_named 21 = .ok (.iaload, 1) := by decide +kernel
theorem dX10_named_22 : decode cX10_named 22 = .ok (.iconst 2, 1) := by decide +kernel
theorem dX10_named_23 : decode cX10_named 23 = .ok (.if_icmp .ne 7, 3) := by decide +kernel
theorem dX10_named_26 : decode cX10_named 26 = .ok (.iconst 1, 1) := by decide +kernel
theorem dX10_named_27 : decode cX10_named 27 = .ok (.goto 4, 3) := by decide +kernel
theorem dX10_named_30 : decode cX10_named 30 = .ok (.iconst 0, 1) := by decide +kernel
theorem dX10_named_31 : decode cX10_named 31 = .ok (.bipush 8, 2) := by decide +kernel
theorem dX10_named_33 : decode cX10_named 33 = .ok (.aload_n 0, 1) := by decide +kernel
theorem dX10_named_34 : decode cX10_named 34 = .ok (.getfield 19, 3) := by decide +kernel
theorem dX10_named_37 : decode cX10_named 37 = .ok (.iload_n 1, 1) := by decide +kernel
theorem dX10_named_38 : decode cX10_named 38 = .ok (.iaload, 1) := by decide +kernel
theorem dX10_named_39 : decode cX10_named 39 = .ok (.invokevirtual 105, 3) := by decide +kernel
theorem dX10_named_42 : decode cX10_named 42 = .ok (.aload_n 0, 1) := by decide +kernel
theorem dX10_named_43 : decode cX10_named 43 = .ok (.iload 4, 2) := by decide +kernel
theorem dX10_named_45 : decode cX10_named 45 = .ok (.invokevirtual 248, 3) := by decide +kernel
theorem dX10_named_48 : decode cX10_named 48 = .ok (.ifCond .eq 80, 3) := by decide +kernel
theorem dX10_named_51 : decode cX10_named 51 = .ok (.aload_n 0, 1) := by decide +kernel
theorem dX10_named_52 : decode cX10_named 52 = .ok (.iload 4, 2) := by decide +kernel
theorem dX10_named_54 : decode cX10_named 54 = .ok (.invokevirtual 198, 3) := by decide +kernel
theorem dX10_named_57 : decode cX10_named 57 = .ok (.ifCond .ge 71, 3) := by decide +kernel
theorem dX10_named_60 : decode cX10_named 60 = .ok (.aload_n 0, 1) := by decide +kernel
theorem dX10_named_61 : decode cX10_named 61 = .ok (.iload 4, 2) := by decide +kernel
theorem dX10_named_63 : decode cX10_named 63 = .ok (.ldc 214, 2) := by decide +kernel
theorem dX10_named_65 : decode cX10_named 65 = .ok (.invokevirtual 177, 3) := by decide +kernel
theorem dX10_named_68 : decode cX10_named 68 = .ok (.ifCond .ne 60, 3) := by decide +kernel
theorem dX10_named_71 : decode cX10_named 71 = .ok (.aload_n 0, 1) := by decide +kernel
theorem dX10_named_72 : decode cX10_named 72 = .ok (.iload 4, 2) := by decide +kernel
theorem dX10_named_74 : decode cX10_named 74 = .ok (.ldc 216, 2) := by decide +kernel
theorem dX10_named_76 : decode cX10_named 76 = .ok (.invokevirtual 177, 3) := by decide +kernel
theorem dX10_named_79 : decode cX10_named 79 = .ok (.ifCond .ne 49, 3) := by decide +kernel
theorem dX10_named_82 : decode cX10_named 82 = .ok (.aload_n 0, 1) := by decide +kernel
theorem dX10_named_83 : decode cX10_named 83 = .ok (.iload 4, 2) := by decide +kernel
theorem dX10_named_85 : decode cX10_named 85 = .ok (.ldc 232, 2) := by decide +kernel
theorem dX10_named_87 : decode cX10_named 87 = .ok (.invokevirtual 177, 3) := by decide +kernel
theorem dX10_named_90 : decode cX10_named 90 = .ok (.ifCond .ne 38, 3) := by decide +kernel
theorem dX10_named_93 : decode cX10_named 93 = .ok (.aload_n 0, 1) := by decide +kernel
theorem dX10_named_94 : decode cX10_named 94 = .ok (.iload 4, 2) := by decide +kernel
theorem dX10_named_96 : decode cX10_named 96 = .ok (.ldc 234, 2) := by decide +kernel
theorem dX10_named_98 : decode cX10_named 98 = .ok (.invokevirtual 177, 3) := by decide +kernel
theorem dX10_named_101 : decode cX10_named 101 = .ok (.ifCond .ne 27, 3) := by decide +kernel
theorem dX10_named_104 : decode cX10_named 104 = .ok (.aload_n 0, 1) := by decide +kernel
theorem dX10_named_105 : decode cX10_named 105 = .ok (.iload 4, 2) := by decide +kernel
theorem dX10_named_107 : decode cX10_named 107 = .ok (.ldc 236, 2) := by decide +kernel
theorem dX10_named_109 : decode cX10_named 109 = .ok (.invokevirtual 177, 3) := by decide +kernel
theorem dX10_named_112 : decode cX10_named 112 = .ok (.ifCond .ne 16, 3) := by decide +kernel
theorem dX10_named_115 : decode cX10_named 115 = .ok (.aload_n 0, 1) := by decide +kernel
theorem dX10_named_116 : decode cX10_named 116 = .ok (.iload 4, 2) := by decide +kernel
theorem dX10_named_118 : decode cX10_named 118 = .ok (.invokevirtual 201, 3) := by decide +kernel
theorem dX10_named_121 : decode cX10_named 121 = .ok (.ifCond .ge 7, 3) := by decide +kernel
theorem dX10_named_124 : decode cX10_named 124 = .ok (.iconst 1, 1) := by decide +kernel
theorem dX10_named_125 : decode cX10_named 125 = .ok (.goto 4, 3) := by decide +kernel
theorem dX10_named_128 : decode cX10_named 128 = .ok (.iconst 0, 1) := by decide +kernel
theorem dX10_named_129 : decode cX10_named 129 = .ok (.istore 5, 2) := by decide +kernel
theorem dX10_named_131 : decode cX10_named 131 = .ok (.aload_n 0, 1) := by decide +kernel
theorem dX10_named_132 : decode cX10_named 132 = .ok (.iload 5, 2) := by decide +kernel
theorem dX10_named_134 : decode cX10_named 134 = .ok (.bipush 9, 2) := by decide +kernel
theorem dX10_named_136 : decode cX10_named 136 = .ok (.aload_n 0, 1) := by decide +kernel
theorem dX10_named_137 : decode cX10_named 137 = .ok (.getfield 19, 3) := by decide +kernel
theorem dX10_named_140 : decode cX10_named 140 = .ok (.iload 4, 2) := by decide +kernel
theorem dX10_named_142 : decode cX10_named 142 = .ok (.iaload, 1) := by decide +kernel
theorem dX10_named_143 : decode cX10_named 143 = .ok (.invokevirtual 105, 3) := by decide +kernel
theorem dX10_named_146 : decode cX10_named 146 = .ok (.aload_n 0, 1) := by decide +kernel
theorem dX10_named_147 : decode cX10_named 147 = .ok (.aload_n 0, 1) := by decide +kernel
theorem dX10_named_148 : decode cX10_named 148 = .ok (.iload_n 2, 1) := by decide +kernel
theorem dX10_named_149 : decode cX10_named 149 = .ok (.ldc 232, 2) := by decide +kernel
theorem dX10_named_151 : decode cX10_named 151 = .ok (.invokevirtual 177, 3) := by decide +kernel
theorem dX10_named_154 : decode cX10_named 154 = .ok (.ifCond .eq 8, 3) := by decide +kernel
theorem dX10_named_157 : decode cX10_named 157 = .ok (.bipush 9, 2) := by decide +kernel
theorem dX10_named_159 : decode cX10_named 159 = .ok (.goto 20, 3) := by decide +kernel
theorem dX10_named_162 : decode cX10_named 162 = .ok (.aload_n 0, 1) := by decide +kernel
theorem dX10_named_163 : decode cX10_named 163 = .ok (.iload_n 2, 1) := by decide +kernel
theorem dX10_named_164 : decode cX10_named 164 = .ok (.ldc 234, 2) := by decide +kernel
theorem dX10_named_166 : decode cX10_named 166 = .ok (.invokevirtual 177, 3) := by decide +kernel
theorem dX10_named_169 : decode cX10_named 169 = .ok (.ifCond .eq 8, 3) := by decide +kernel
theorem dX10_named_172 : decode cX10_named 172 = .ok (.bipush 10, 2) := by decide +kernel
theorem dX10_named_174 : decode cX10_named 174 = .ok (.goto 5, 3) := by decide +kernel
theorem dX10_named_177 : decode cX10_named 177 = .ok (.bipush 11, 2) := by decide +kernel
theorem dX10_named_179 : decode cX10_named 179 = .ok (.invokevirtual 222, 3) := by decide +kernel
theorem dX10_named_182 : decode cX10_named 182 = .ok (.istore 6, 2) := by decide +kernel
theorem dX10_named_184 : decode cX10_named 184 = .ok (.aload_n 0, 1) := by decide +kernel
theorem dX10_named_185 : decode cX10_named 185 = .ok (.getfield 41, 3) := by decide +kernel
theorem dX10_named_188 : decode cX10_named 188 = .ok (.iload 6, 2) := by decide +kernel
theorem dX10_named_190 : decode cX10_named 190 = .ok (.iload 4, 2) := by decide +kernel
theorem dX10_named_192 : decode cX10_named 192 = .ok (.iastore, 1) := by decide +kernel
theorem dX10_named_193 : decode cX10_named 193 = .ok (.aload_n 0, 1) := by decide +kernel
theorem dX10_named_194 : decode cX10_named 194 = .ok (.getfield 38, 3) := by decide +kernel
theorem dX10_named_197 : decode cX10_named 197 = .ok (.iload 6, 2) := by decide +kernel
theorem dX10_named_199 : decode cX10_named 199 = .ok (.iaload, 1) := by decide +kernel
theorem dX10_named_200 : decode cX10_named 200 = .ok (.bipush 9, 2) := by decide +kernel
theorem dX10_named_202 : decode cX10_named 202 = .ok (.if_icmp .ne 107, 3) := by decide +kernel
theorem dX10_named_205 : decode cX10_named 205 = .ok (.aload_n 0, 1) := by decide +kernel
theorem dX10_named_206 : decode cX10_named 206 = .ok (.iload_n 1, 1) := by decide +kernel
theorem dX10_named_207 : decode cX10_named 207 = .ok (.ldc 252, 2) := by decide +kernel
theorem dX10_named_209 : decode cX10_named 209 = .ok (.invokevirtual 210, 3) := by decide +kernel
theorem dX10_named_212 : decode cX10_named 212 = .ok (.istore 7, 2) := by decide +kernel
theorem dX10_named_214 : decode cX10_named 214 = .ok (.aload_n 0, 1) := by decide +kernel
theorem dX10_named_215 : decode cX10_named 215 = .ok (.iload 7, 2) := by decide +kernel
theorem dX10_named_217 : decode cX10_named 217 = .ok (.ifCond .lt 7, 3) := by decide +kernel
theorem dX10_named_220 : decode cX10_named 220 = .ok (.iconst 1, 1) := by decide +kernel
theorem dX10_named_221 : decode cX10_named 221 = .ok (.goto 4, 3) := by decide +kernel
theorem dX10_named_224 : decode cX10_named 224 = .ok (.iconst 0, 1) := by decide +kernel
theorem dX10_named_225 : decode cX10_named 225 = .ok (.bipush 8, 2) := by decide +kernel
theorem dX10_named_227 : decode cX10_named 227 = .ok (.aload_n 0, 1) := by decide +kernel
theorem dX10_named_228 : decode cX10_named 228 = .ok (.getfield 19, 3) := by decide +kernel
theorem dX10_named_231 : decode cX10_named 231 = .ok (.iload_n 1, 1) := by decide +kernel
theorem dX10_named_232 : decode cX10_named 232 = .ok (.iaload, 1) := by decide +kernel
theorem dX10_named_233 : decode cX10_named 233 = .ok (.invokevirtual 105, 3) := by decide +kernel
theorem dX10_named_236 : decode cX10_named 236 = .ok (.aload_n 0, 1) := by decide +kernel
theorem dX10_named_237 : decode cX10_named 237 = .ok (.aload_n 0, 1) := by decide +kernel
theorem dX10_named_238 : decode cX10_named 238 = .ok (.getfield 15, 3) := by decide +kernel
theorem dX10_named_241 : decode cX10_named 241 = .ok (.iload 7, 2) := by decide +kernel
theorem dX10_named_243 : decode cX10_named 243 = .ok (.iaload, 1) := by decide +kernel
theorem dX10_named_244 : decode cX10_named 244 = .ok (.iconst 3, 1) := by decide +kernel
theorem dX10_named_245 : decode cX10_named 245 = .ok (.if_icmp .ne 33, 3) := by decide +kernel
theorem dX10_named_248 : decode cX10_named 248 = .ok (.aload_n 0, 1) := by decide +kernel
theorem dX10_named_249 : decode cX10_named 249 = .ok (.getfield 22, 3) := by decide +kernel
theorem dX10_named_252 : decode cX10_named 252 = .ok (.iload 7, 2) := by decide +kernel
theorem dX10_named_254 : decode cX10_named 254 = .ok (.laload, 1) := by decide +kernel
theorem dX10_named_255 : decode cX10_named 255 = .ok (.lconst 0, 1) := by decide +kernel
theorem dX10_named_256 : decode cX10_named 256 = .ok (.lcmp, 1) := by decide +kernel
theorem dX10_named_257 : decode cX10_named 257 = .ok (.ifCond .lt 21, 3) := by decide +kernel
theorem dX10_named_260 : decode cX10_named 260 = .ok (.aload_n 0, 1) := by decide +kernel
theorem dX10_named_261 : decode cX10_named 261 = .ok (.getfield 22, 3) := by decide +kernel
theorem dX10_named_264 : decode cX10_named 264 = .ok (.iload 7, 2) := by decide +kernel
theorem dX10_named_266 : decode cX10_named 266 = .ok (.laload, 1) := by decide +kernel
theorem dX10_named_267 : decode cX10_named 267 = .ok (.ldc2_w 254, 3) := by decide +kernel
theorem dX10_named_270 : decode cX10_named 270 = .ok (.lcmp, 1) := by decide +kernel
theorem dX10_named_271 : decode cX10_named 271 = .ok (.ifCond .gt 7, 3) := by decide +kernel
theorem dX10_named_274 : decode cX10_named 274 = .ok (.iconst 1, 1) := by decide +kernel
theorem dX10_named_275 : decode cX10_named 275 = .ok (.goto 4, 3) := by decide +kernel
theorem dX10_named_278 : decode cX10_named 278 = .ok (.iconst 0, 1) := by decide +kernel
theorem dX10_named_279 : decode cX10_named 279 = .ok (.bipush 10, 2) := by decide +kernel
theorem dX10_named_281 : decode cX10_named 281 = .ok (.aload_n 0, 1) := by decide +kernel
theorem dX10_named_282 : decode cX10_named 282 = .ok (.getfield 19, 3) := by decide +kernel
theorem dX10_named_285 : decode cX10_named 285 = .ok (.iload 7, 2) := by decide +kernel
theorem dX10_named_287 : decode cX10_named 287 = .ok (.iaload, 1) := by decide +kernel
theorem dX10_named_288 : decode cX10_named 288 = .ok (.invokevirtual 105, 3) := by decide +kernel
theorem dX10_named_291 : decode cX10_named 291 = .ok (.aload_n 0, 1) := by decide +kernel
theorem dX10_named_292 : decode cX10_named 292 = .ok (.getfield 44, 3) := by decide +kernel
theorem dX10_named_295 : decode cX10_named 295 = .ok (.iload 6, 2) := by decide +kernel
theorem dX10_named_297 : decode cX10_named 297 = .ok (.aload_n 0, 1) := by decide +kernel
theorem dX10_named_298 : decode cX10_named 298 = .ok (.getfield 22, 3) := by decide +kernel
theorem dX10_named_301 : decode cX10_named 301 = .ok (.iload 7, 2) := by decide +kernel
theorem dX10_named_303 : decode cX10_named 303 = .ok (.laload, 1) := by decide +kernel
theorem dX10_named_304 : decode cX10_named 304 = .ok (.l2i, 1) := by decide +kernel
theorem dX10_named_305 : decode cX10_named 305 = .ok (.iastore, 1) := by decide +kernel
theorem dX10_named_306 : decode cX10_named 306 = .ok (.goto 33, 3) := by decide +kernel
theorem dX10_named_309 : decode cX10_named 309 = .ok (.aload_n 0, 1) := by decide +kernel
theorem dX10_named_310 : decode cX10_named 310 = .ok (.getfield 38, 3) := by decide +kernel
theorem dX10_named_313 : decode cX10_named 313 = .ok (.iload 6, 2) := by decide +kernel
theorem dX10_named_315 : decode cX10_named 315 = .ok (.iaload, 1) := by decide +kernel
theorem dX10_named_316 : decode cX10_named 316 = .ok (.bipush 10, 2) := by decide +kernel
theorem dX10_named_318 : decode cX10_named 318 = .ok (.if_icmp .ne 13, 3) := by decide +kernel
theorem dX10_named_321 : decode cX10_named 321 = .ok (.aload_n 0, 1) := by decide +kernel
theorem dX10_named_322 : decode cX10_named 322 = .ok (.iload 6, 2) := by decide +kernel
theorem dX10_named_324 : decode cX10_named 324 = .ok (.iload_n 1, 1) := by decide +kernel
theorem dX10_named_325 : decode cX10_named 325 = .ok (.invokevirtual 256, 3) := by decide +kernel
theorem dX10_named_328 : decode cX10_named 328 = .ok (.goto 11, 3) := by decide +kernel
theorem dX10_named_331 : decode cX10_named 331 = .ok (.aload_n 0, 1) := by decide +kernel
theorem dX10_named_332 : decode cX10_named 332 = .ok (.iload 6, 2) := by decide +kernel
theorem dX10_named_334 : decode cX10_named 334 = .ok (.iload_n 1, 1) := by decide +kernel
theorem dX10_named_335 : decode cX10_named 335 = .ok (.iload_n 3, 1) := by decide +kernel
theorem dX10_named_336 : decode cX10_named 336 = .ok (.invokevirtual 259, 3) := by decide +kernel
theorem dX10_named_339 : decode cX10_named 339 = .ok (.iload 6, 2) := by decide +kernel
theorem dX10_named_341 : decode cX10_named 341 = .ok (.ireturn, 1) := by decide +kernel
theorem dX10_symbols_0 : decode cX10_symbols 0 = .ok (.aload_n 0, 1) := by decide +kernel
theorem dX10_symbols_1 : decode cX10_symbols 1 = .ok (.iload_n 2, 1) := by decide +kernel
theorem dX10_symbols_2 : decode cX10_symbols 2 = .ok (.ldc_w 263, 3) := by decide +kernel
theorem dX10_symbols_5 : decode cX10_symbols 5 = .ok (.invokevirtual 210, 3) := by decide +kernel
theorem dX10_symbols_8 : decode cX10_symbols 8 = .ok (.istore_n 3, 1) := by decide +kernel
theorem dX10_symbols_9 : decode cX10_symbols 9 = .ok (.aload_n 0, 1) := by decide +kernel
theorem dX10_symbols_10 : decode cX10_symbols 10 = .ok (.iload_n 3, 1) := by decide +kernel
theorem dX10_symbols_11 : decode cX10_symbols 11 = .ok (.ifCond .lt 7, 3) := by decide +kernel
theorem dX10_symbols_14 : decode cX10_symbols 14 = .ok (.iconst 1, 1) := by decide +kernel
theorem dX10_symbols_15 : decode cX10_symbols 15 = .ok (.goto 4, 3) := by decide +kernel
theorem dX10_symbols_18 : decode cX10_symbols 18 = .ok (.iconst 0, 1) := by decide +kernel
theorem dX10_symbols_19 : decode cX10_symbols 19 = .ok (.bipush 8, 2) := by decide +kernel
theorem dX10_symbols_21 : decode cX10_symbols 21 = .ok (.aload_n 0, 1) := by decide +kernel
theorem dX10_symbols_22 : decode cX10_symbols 22 = .ok (.getfield 19, 3) := by decide +kernel
theorem dX10_symbols_25 : decode cX10_symbols 25 = .ok (.iload_n 2, 1) := by decide +kernel
theorem dX10_symbols_26 : decode cX10_symbols 26 = .ok (.iaload, 1) := by decide +kernel
theorem dX10_symbols_27 : decode cX10_symbols 27 = .ok (.invokevirtual 105, 3) := by decide +kernel
theorem dX10_symbols_30 : decode cX10_symbols 30 = .ok (.aload_n 0, 1) := by decide +kernel
theorem dX10_symbols_31 : decode cX10_symbols 31 = .ok (.aload_n 0, 1) := by decide +kernel
theorem dX10_symbols_32 : decode cX10_symbols 32 = .ok (.getfield 15, 3) := by decide +kernel
theorem dX10_symbols_35 : decode cX10_symbols 35 = .ok (.iload_n 3, 1) := by decide +kernel
theorem dX10_symbols_36 : decode cX10_symbols 36 = .ok (.iaload, 1) := by decide +kernel
theorem dX10_symbols_37 : decode cX10_symbols 37 = .ok (.iconst 1, 1) := by decide +kernel
theorem dX10_symbols_38 : decode cX10_symbols 38 = .ok (.if_icmp .ne 27, 3) := by decide +kernel
theorem dX10_symbols_41 : decode cX10_symbols 41 = .ok (.aload_n 0, 1) := by decide +kernel
theorem dX10_symbols_42 : decode cX10_symbols 42 = .ok (.getfield 26, 3) := by decide +kernel
theorem dX10_symbols_45 : decode cX10_symbols 45 = .ok (.iload_n 3, 1) := by decide +kernel
theorem dX10_symbols_46 : decode cX10_symbols 46 = .ok (.iaload, 1) := by decide +kernel
theorem dX10_symbols_47 : decode cX10_symbols 47 = .ok (.ifCond .le 18, 3) := by decide +kernel
theorem dX10_symbols_50 : decode cX10_symbols 50 = .ok (.aload_n 0, 1) := by decide +kernel
theorem dX10_symbols_51 : decode cX10_symbols 51 = .ok (.getfield 26, 3) := by decide +kernel
theorem dX10_symbols_54 : decode cX10_symbols 54 = .ok (.iload_n 3, 1) := by decide +kernel
theorem dX10_symbols_55 : decode cX10_symbols 55 = .ok (.iaload, 1) := by decide +kernel
theorem dX10_symbols_56 : decode cX10_symbols 56 = .ok (.bipush 33, 2) := by decide +kernel
theorem dX10_symbols_58 : decode cX10_symbols 58 = .ok (.if_icmp .ge 7, 3) := by decide +kernel
theorem dX10_symbols_61 : decode cX10_symbols 61 = .ok (.iconst 1, 1) := by decide +kernel
theorem dX10_symbols_62 : decode cX10_symbols 62 = .ok (.goto 4, 3) := by decide +kernel
theorem dX10_symbols_65 : decode cX10_symbols 65 = .ok (.iconst 0, 1) := by decide +kernel
theorem dX10_symbols_66 : decode cX10_symbols 66 = .ok (.bipush 11, 2) := by decide +kernel
theorem dX10_symbols_68 : decode cX10_symbols 68 = .ok (.aload_n 0, 1) := by decide +kernel
theorem dX10_symbols_69 : decode cX10_symbols 69 = .ok (.getfield 19, 3) := by decide +kernel
theorem dX10_symbols_72 : decode cX10_symbols 72 = .ok (.iload_n 3, 1) := by decide +kernel
theorem dX10_symbols_73 : decode cX10_symbols 73 = .ok (.iaload, 1) := by decide +kernel
theorem dX10_symbols_74 : decode cX10_symbols 74 = .ok (.invokevirtual 105, 3) := by decide +kernel
theorem dX10_symbols_77 : decode cX10_symbols 77 = .ok (.iconst (-1), 1) := by decide +kernel
theorem dX10_symbols_78 : decode cX10_symbols 78 = .ok (.istore 4, 2) := by decide +kernel
theorem dX10_symbols_80 : decode cX10_symbols 80 = .ok (.aload_n 0, 1) := by decide +kernel
theorem dX10_symbols_81 : decode cX10_symbols 81 = .ok (.getfield 29, 3) := by decide +kernel
theorem dX10_symbols_84 : decode cX10_symbols 84 = .ok (.iload_n 3, 1) := by decide +kernel
theorem dX10_symbols_85 : decode cX10_symbols 85 = .ok (.iaload, 1) := by decide +kernel
theorem dX10_symbols_86 : decode cX10_symbols 86 = .ok (.istore 5, 2) := by decide +kernel
theorem dX10_symbols_88 : decode cX10_symbols 88 = .ok (.iload 5, 2) := by decide +kernel
theorem dX10_symbols_90 : decode cX10_symbols 90 = .ok (.ifCond .lt 112, 3) := by decide +kernel
theorem dX10_symbols_93 : decode cX10_symbols 93 = .ok (.aload_n 0, 1) := by decide +kernel
theorem dX10_symbols_94 : decode cX10_symbols 94 = .ok (.aload_n 0, 1) := by decide +kernel
theorem dX10_symbols_95 : decode cX10_symbols 95 = .ok (.iload 5, 2) := by decide +kernel
theorem dX10_symbols_97 : decode cX10_symbols 97 = .ok (.invokevirtual 248, 3) := by decide +kernel
theorem dX10_symbols_100 : decode cX10_symbols 100 = .ok (.bipush 11, 2) := by decide +kernel
theorem dX10_symbols_102 : decode cX10_symbols 102 = .ok (.aload_n 0, 1) := by decide +kernel
theorem dX10_symbols_103 : decode cX10_symbols 103 = .ok (.getfield 19, 3) := by decide +kernel
theorem dX10_symbols_106 : decode cX10_symbols 106 = .ok (.iload 5, 2) := by decide +kernel
theorem dX10_symbols_108 : decode cX10_symbols 108 = .ok (.iaload, 1) := by decide +kernel
theorem dX10_symbols_109 : decode cX10_symbols 109 = .ok (.invokevirtual 105, 3) := by decide +kernel
theorem dX10_symbols_112 : decode cX10_symbols 112 = .ok (.aload_n 0, 1) := by decide +kernel
theorem dX10_symbols_113 : decode cX10_symbols 113 = .ok (.getfield 47, 3) := by decide +kernel
theorem dX10_symbols_116 : decode cX10_symbols 116 = .ok (.iload_n 1, 1) := by decide +kernel
theorem dX10_symbols_117 : decode cX10_symbols 117 = .ok (.iaload, 1) := by decide +kernel
theorem dX10_symbols_118 : decode cX10_symbols 118 = .ok (.istore 6, 2) := by decide +kernel
theorem dX10_symbols_120 : decode cX10_symbols 120 = .ok (.iload 6, 2) := by decide +kernel
theorem dX10_symbols_122 : decode cX10_symbols 122 = .ok (.ifCond .lt 50, 3) := by decide +kernel
theorem dX10_symbols_125 : decode cX10_symbols 125 = .ok (.aload_n 0, 1) := by decide +kernel
theorem dX10_symbols_126 : decode cX10_symbols 126 = .ok (.aload_n 0, 1) := by decide +kernel
theorem dX10_symbols_127 : decode cX10_symbols 127 = .ok (.aload_n 0, 1) := by decide +kernel
theorem dX10_symbols_128 : decode cX10_symbols 128 = .ok (.getfield 59, 3) := by decide +kernel
theorem dX10_symbols_131 : decode cX10_symbols 131 = .ok (.iload 6, 2) := by decide +kernel
theorem dX10_symbols_133 : decode cX10_symbols 133 = .ok (.iaload, 1) := by decide +kernel
theorem dX10_symbols_134 : decode cX10_symbols 134 = .ok (.aload_n 0, 1) := by decide +kernel
theorem dX10_symbols_135 : decode cX10_symbols 135 = .ok (.iload 5, 2) := by decide +kernel
theorem dX10_symbols_137 : decode cX10_symbols 137 = .ok (.invokevirtual 155, 3) := by decide +kernel
theorem dX10_symbols_140 : decode cX10_symbols 140 = .ok (.ifCond .ne 7, 3) := by decide +kernel
theorem dX10_symbols_143 : decode cX10_symbols 143 = .ok (.iconst 1, 1) := by decide +kernel
theorem dX10_symbols_144 : decode cX10_symbols 144 = .ok (.goto 4, 3) := by decide +kernel
theorem dX10_symbols_147 : decode cX10_symbols 147 = .ok (.iconst 0, 1) := by decide +kernel
theorem dX10_symbols_148 : decode cX10_symbols 148 = .ok (.bipush 11, 2) := by decide +kernel
theorem dX10_symbols_150 : decode cX10_symbols 150 = .ok (.aload_n 0, 1) := by decide +kernel
theorem dX10_symbols_151 : decode cX10_symbols 151 = .ok (.getfield 19, 3) := by decide +kernel
theorem dX10_symbols_154 : decode cX10_symbols 154 = .ok (.iload 5, 2) := by decide +kernel
theorem dX10_symbols_156 : decode cX10_symbols 156 = .ok (.iaload, 1) := by decide +kernel
theorem dX10_symbols_157 : decode cX10_symbols 157 = .ok (.invokevirtual 105, 3) := by decide +kernel
theorem dX10_symbols_160 : decode cX10_symbols 160 = .ok (.aload_n 0, 1) := by decide +kernel
theorem dX10_symbols_161 : decode cX10_symbols 161 = .ok (.getfield 65, 3) := by decide +kernel
theorem dX10_symbols_164 : decode cX10_symbols 164 = .ok (.iload 6, 2) := by decide +kernel
theorem dX10_symbols_166 : decode cX10_symbols 166 = .ok (.iaload, 1) := by decide +kernel
theorem dX10_symbols_167 : decode cX10_symbols 167 = .ok (.istore 6, 2) := by decide +kernel
theorem dX10_symbols_169 : decode cX10_symbols 169 = .ok (.goto (-49), 3) := by decide +kernel
theorem dX10_symbols_172 : decode cX10_symbols 172 = .ok (.aload_n 0, 1) := by decide +kernel
theorem dX10_symbols_173 : decode cX10_symbols 173 = .ok (.iload_n 1, 1) := by decide +kernel
theorem dX10_symbols_174 : decode cX10_symbols 174 = .ok (.iload 4, 2) := by decide +kernel
theorem dX10_symbols_176 : decode cX10_symbols 176 = .ok (.invokevirtual 225, 3) := by decide +kernel
theorem dX10_symbols_179 : decode cX10_symbols 179 = .ok (.istore 4, 2) := by decide +kernel
theorem dX10_symbols_181 : decode cX10_symbols 181 = .ok (.aload_n 0, 1) := by decide +kernel
theorem dX10_symbols_182 : decode cX10_symbols 182 = .ok (.getfield 59, 3) := by decide +kernel
theorem dX10_symbols_185 : decode cX10_symbols 185 = .ok (.iload 4, 2) := by decide +kernel
theorem dX10_symbols_187 : decode cX10_symbols 187 = .ok (.iload 5, 2) := by decide +kernel
theorem dX10_symbols_189 : decode cX10_symbols 189 = .ok (.iastore, 1) := by decide +kernel
theorem dX10_symbols_190 : decode cX10_symbols 190 = .ok (.aload_n 0, 1) := by decide +kernel
theorem dX10_symbols_191 : decode cX10_symbols 191 = .ok (.getfield 32, 3) := by decide +kernel
theorem dX10_symbols_194 : decode cX10_symbols 194 = .ok (.iload 5, 2) := by decide +kernel
theorem dX10_symbols_196 : decode cX10_symbols 196 = .ok (.iaload, 1) := by decide +kernel
theorem dX10_symbols_197 : decode cX10_symbols 197 = .ok (.istore 5, 2) := by decide +kernel
theorem dX10_symbols_199 : decode cX10_symbols 199 = .ok (.goto (-111), 3) := by decide +kernel
theorem dX10_symbols_202 : decode cX10_symbols 202 = .ok (.aload_n 0, 1) := by decide +kernel
theorem dX10_symbols_203 : decode cX10_symbols 203 = .ok (.iload_n 2, 1) := by decide +kernel
theorem dX10_symbols_204 : decode cX10_symbols 204 = .ok (.ldc_w 264, 3) := by decide +kernel
theorem dX10_symbols_207 : decode cX10_symbols 207 = .ok (.invokevirtual 210, 3) := by decide +kernel
theorem dX10_symbols_210 : decode cX10_symbols 210 = .ok (.istore 5, 2) := by decide +kernel
theorem dX10_symbols_212 : decode cX10_symbols 212 = .ok (.iload 5, 2) := by decide +kernel
theorem dX10_symbols_214 : decode cX10_symbols 214 = .ok (.ifCond .lt 57, 3) := by decide +kernel
theorem dX10_symbols_217 : decode cX10_symbols 217 = .ok (.aload_n 0, 1) := by decide +kernel
theorem dX10_symbols_218 : decode cX10_symbols 218 = .ok (.aload_n 0, 1) := by decide +kernel
theorem dX10_symbols_219 : decode cX10_symbols 219 = .ok (.getfield 15, 3) := by decide +kernel
theorem dX10_symbols_222 : decode cX10_symbols 222 = .ok (.iload 5, 2) := by decide +kernel
theorem dX10_symbols_224 : decode cX10_symbols 224 = .ok (.iaload, 1) := by decide +kernel
theorem dX10_symbols_225 : decode cX10_symbols 225 = .ok (.iconst 2, 1) := by decide +kernel
theorem dX10_symbols_226 : decode cX10_symbols 226 = .ok (.if_icmp .ne 18, 3) := by decide +kernel
theorem dX10_symbols_229 : decode cX10_symbols 229 = .ok (.aload_n 0, 1) := by decide +kernel
theorem dX10_symbols_230 : decode cX10_symbols 230 = .ok (.iload_n 1, 1) := by decide +kernel
theorem dX10_symbols_231 : decode cX10_symbols 231 = .ok (.aload_n 0, 1) := by decide +kernel
theorem dX10_symbols_232 : decode cX10_symbols 232 = .ok (.iload 5, 2) := by decide +kernel
theorem dX10_symbols_234 : decode cX10_symbols 234 = .ok (.invokevirtual 266, 3) := by decide +kernel
theorem dX10_symbols_237 : decode cX10_symbols 237 = .ok (.ifCond .lt 7, 3) := by decide +kernel
theorem dX10_symbols_240 : decode cX10_symbols 240 = .ok (.iconst 1, 1) := by decide +kernel
theorem dX10_symbols_241 : decode cX10_symbols 241 = .ok (.goto 4, 3) := by decide +kernel
theorem dX10_symbols_244 : decode cX10_symbols 244 = .ok (.iconst 0, 1) := by decide +kernel
theorem dX10_symbols_245 : decode cX10_symbols 245 = .ok (.bipush 12, 2) := by decide +kernel
theorem dX10_symbols_247 : decode cX10_symbols 247 = .ok (.aload_n 0, 1) := by decide +kernel
theorem dX10_symbols_248 : decode cX10_symbols 248 = .ok (.getfield 19, 3) := by decide +kernel
theorem dX10_symbols_251 : decode cX10_symbols 251 = .ok (.iload 5, 2) := by decide +kernel
theorem dX10_symbols_253 : decode cX10_symbols 253 = .ok (.iaload, 1) := by decide +kernel
theorem dX10_symbols_254 : decode cX10_symbols 254 = .ok (.invokevirtual 105, 3) := by decide +kernel
theorem dX10_symbols_257 : decode cX10_symbols 257 = .ok (.aload_n 0, 1) := by decide +kernel
theorem dX10_symbols_258 : decode cX10_symbols 258 = .ok (.getfield 53, 3) := by decide +kernel
theorem dX10_symbols_261 : decode cX10_symbols 261 = .ok (.iload_n 1, 1) := by decide +kernel
theorem dX10_symbols_262 : decode cX10_symbols 262 = .ok (.aload_n 0, 1) := by decide +kernel
theorem dX10_symbols_263 : decode cX10_symbols 263 = .ok (.iload_n 1, 1) := by decide +kernel
theorem dX10_symbols_264 : decode cX10_symbols 264 = .ok (.aload_n 0, 1) := by decide +kernel
theorem dX10_symbols_265 : decode cX10_symbols 265 = .ok (.iload 5, 2) := by decide +kernel
theorem dX10_symbols_267 : decode cX10_symbols 267 = .ok (.invokevirtual 266, 3) := by decide +kernel
theorem dX10_symbols_270 : decode cX10_symbols 270 = .ok (.iastore, 1) := by decide +kernel
theorem dX10_symbols_271 : decode cX10_symbols 271 = .ok (.return_, 1) := by decide +kernel
theorem dX10_symbol_0 : decode cX10_symbol 0 = .ok (.iconst 0, 1) := by decide +kernel
theorem dX10_symbol_1 : decode cX10_symbol 1 = .ok (.istore 4, 2) := by decide +kernel
theorem dX10_symbol_3 : decode cX10_symbol 3 = .ok (.aload_n 0, 1) := by decide +kernel
theorem dX10_symbol_4 : decode cX10_symbol 4 = .ok (.getfield 47, 3) := by decide +kernel
theorem dX10_symbol_7 : decode cX10_symbol 7 = .ok (.iload_n 1, 1) := by decide +kernel
theorem dX10_symbol_8 : decode cX10_symbol 8 = .ok (.iaload, 1) := by decide +kernel
theorem dX10_symbol_9 : decode cX10_symbol 9 = .ok (.istore 5, 2) := by decide +kernel
theorem dX10_symbol_11 : decode cX10_symbol 11 = .ok (.iload 5, 2) := by decide +kernel
theorem dX10_symbol_13 : decode cX10_symbol 13 = .ok (.ifCond .lt 37, 3) := by decide +kernel
theorem dX10_symbol_16 : decode cX10_symbol 16 = .ok (.aload_n 0, 1) := by decide +kernel
theorem dX10_symbol_17 : decode cX10_symbol 17 = .ok (.aload_n 0, 1) := by decide +kernel
theorem dX10_symbol_18 : decode cX10_symbol 18 = .ok (.getfield 59, 3) := by decide +kernel
theorem dX10_symbol_21 : decode cX10_symbol 21 = .ok (.iload 5, 2) := by decide +kernel
theorem dX10_symbol_23 : decode cX10_symbol 23 = .ok (.iaload, 1) := by decide +kernel
theorem dX10_symbol_24 : decode cX10_symbol 24 = .ok (.aload_n 2, 1) := by decide +kernel
theorem dX10_symbol_25 : decode cX10_symbol 25 = .ok (.iload_n 3, 1) := by decide +kernel
theorem dX10_symbol_26 : decode cX10_symbol 26 = .ok (.invokevirtual 155, 3) := by decide +kernel
theorem dX10_symbol_29 : decode cX10_symbol 29 = .ok (.ifCond .eq 6, 3) := by decide +kernel
theorem dX10_symbol_32 : decode cX10_symbol 32 = .ok (.iload 4, 2) := by decide +kernel
theorem dX10_symbol_34 : decode cX10_symbol 34 = .ok (.ireturn, 1) := by decide +kernel
theorem dX10_symbol_35 : decode cX10_symbol 35 = .ok (.iinc 4 1, 3) := by decide +kernel
theorem dX10_symbol_38 : decode cX10_symbol 38 = .ok (.aload_n 0, 1) := by decide +kernel
theorem dX10_symbol_39 : decode cX10_symbol 39 = .ok (.getfield 65, 3) := by decide +kernel
theorem dX10_symbol_42 : decode cX10_symbol 42 = .ok (.iload 5, 2) := by decide +kernel
theorem dX10_symbol_44 : decode cX10_symbol 44 = .ok (.iaload, 1) := by decide +kernel
theorem dX10_symbol_45 : decode cX10_symbol 45 = .ok (.istore 5, 2) := by decide +kernel
theorem dX10_symbol_47 : decode cX10_symbol 47 = .ok (.goto (-36), 3) := by decide +kernel
theorem dX10_symbol_50 : decode cX10_symbol 50 = .ok (.iconst (-1), 1) := by decide +kernel
theorem dX10_symbol_51 : decode cX10_symbol 51 = .ok (.ireturn, 1) := by decide +kernel
theorem dX10_fields_0 : decode cX10_fields 0 = .ok (.aload_n 0, 1) := by decide +kernel
theorem dX10_fields_1 : decode cX10_fields 1 = .ok (.iload_n 2, 1) := by decide +kernel
theorem dX10_fields_2 : decode cX10_fields 2 = .ok (.ldc_w 270, 3) := by decide +kernel
theorem dX10_fields_5 : decode cX10_fields 5 = .ok (.invokevirtual 210, 3) := by decide +kernel
theorem dX10_fields_8 : decode cX10_fields 8 = .ok (.istore 4, 2) := by decide +kernel
theorem dX10_fields_10 : decode cX10_fields 10 = .ok (.aload_n 0, 1) := by decide +kernel
theorem dX10_fields_11 : decode cX10_fields 11 = .ok (.iload 4, 2) := by decide +kernel
theorem dX10_fields_13 : decode cX10_fields 13 = .ok (.ifCond .lt 7, 3) := by decide +kernel
theorem dX10_fields_16 : decode cX10_fields 16 = .ok (.iconst 1, 1) := by decide +kernel
theorem dX10_fields_17 : decode cX10_fields 17 = .ok (.goto 4, 3) := by decide +kernel
theorem dX10_fields_20 : decode cX10_fields 20 = .ok (.iconst 0, 1) := by decide +kernel
theorem dX10_fields_21 : decode cX10_fields 21 = .ok (.bipush 8, 2) := by decide +kernel
theorem dX10_fields_23 : decode cX10_fields 23 = .ok (.aload_n 0, 1) := by decide +kernel
theorem dX10_fields_24 : decode cX10_fields 24 = .ok (.getfield 19, 3) := by decide +kernel
theorem dX10_fields_27 : decode cX10_fields 27 = .ok (.iload_n 2, 1) := by decide +kernel
theorem dX10_fields_28 : decode cX10_fields 28 = .ok (.iaload, 1) := by decide +kernel
theorem dX10_fields_29 : decode cX10_fields 29 = .ok (.invokevirtual 105, 3) := by decide +kernel
theorem dX10_fields_32 : decode cX10_fields 32 = .ok (.aload_n 0, 1) := by decide +kernel
theorem dX10_fields_33 : decode cX10_fields 33 = .ok (.aload_n 0, 1) := by decide +kernel
theorem dX10_fields_34 : decode cX10_fields 34 = .ok (.getfield 15, 3) := by decide +kernel
theorem dX10_fields_37 : decode cX10_fields 37 = .ok (.iload 4, 2) := by decide +kernel
theorem dX10_fields_39 : decode cX10_fields 39 = .ok (.iaload, 1) := by decide +kernel
theorem dX10_fields_40 : decode cX10_fields 40 = .ok (.iconst 1, 1) := by decide +kernel
theorem dX10_fields_41 : decode cX10_fields 41 = .ok (.if_icmp .ne 19, 3) := by decide +kernel
theorem dX10_fields_44 : decode cX10_fields 44 = .ok (.aload_n 0, 1) := by decide +kernel
theorem dX10_fields_45 : decode cX10_fields 45 = .ok (.getfield 26, 3) := by decide +kernel
theorem dX10_fields_48 : decode cX10_fields 48 = .ok (.iload 4, 2) := by decide +kernel
theorem dX10_fields_50 : decode cX10_fields 50 = .ok (.iaload, 1) := by decide +kernel
theorem dX10_fields_51 : decode cX10_fields 51 = .ok (.bipush 33, 2) := by decide +kernel
theorem dX10_fields_53 : decode cX10_fields 53 = .ok (.if_icmp .ge 7, 3) := by decide +kernel
theorem dX10_fields_56 : decode cX10_fields 56 = .ok (.iconst 1, 1) := by decide +kernel
theorem dX10_fields_57 : decode cX10_fields 57 = .ok (.goto 4, 3) := by decide +kernel
theorem dX10_fields_60 : decode cX10_fields 60 = .ok (.iconst 0, 1) := by decide +kernel
theorem dX10_fields_61 : decode cX10_fields 61 = .ok (.bipush 11, 2) := by decide +kernel
theorem dX10_fields_63 : decode cX10_fields 63 = .ok (.aload_n 0, 1) := by decide +kernel
theorem dX10_fields_64 : decode cX10_fields 64 = .ok (.getfield 19, 3) := by decide +kernel
theorem dX10_fields_67 : decode cX10_fields 67 = .ok (.iload 4, 2) := by decide +kernel
theorem dX10_fields_69 : decode cX10_fields 69 = .ok (.iaload, 1) := by decide +kernel
theorem dX10_fields_70 : decode cX10_fields 70 = .ok (.invokevirtual 105, 3) := by decide +kernel
theorem dX10_fields_73 : decode cX10_fields 73 = .ok (.iconst (-1), 1) := by decide +kernel
theorem dX10_fields_74 : decode cX10_fields 74 = .ok (.istore 5, 2) := by decide +kernel
theorem dX10_fields_76 : decode cX10_fields 76 = .ok (.aload_n 0, 1) := by decide +kernel
theorem dX10_fields_77 : decode cX10_fields 77 = .ok (.getfield 29, 3) := by decide +kernel
theorem dX10_fields_80 : decode cX10_fields 80 = .ok (.iload 4, 2) := by decide +kernel
theorem dX10_fields_82 : decode cX10_fields 82 = .ok (.iaload, 1) := by decide +kernel
theorem dX10_fields_83 : decode cX10_fields 83 = .ok (.istore 6, 2) := by decide +kernel
theorem dX10_fields_85 : decode cX10_fields 85 = .ok (.iload 6, 2) := by decide +kernel
theorem dX10_fields_87 : decode cX10_fields 87 = .ok (.ifCond .lt 269, 3) := by decide +kernel
theorem dX10_fields_90 : decode cX10_fields 90 = .ok (.aload_n 0, 1) := by decide +kernel
theorem dX10_fields_91 : decode cX10_fields 91 = .ok (.aload_n 0, 1) := by decide +kernel
theorem dX10_fields_92 : decode cX10_fields 92 = .ok (.getfield 15, 3) := by decide +kernel
theorem dX10_fields_95 : decode cX10_fields 95 = .ok (.iload 6, 2) := by decide +kernel
theorem dX10_fields_97 : decode cX10_fields 97 = .ok (.iaload, 1) := by decide +kernel
theorem dX10_fields_98 : decode cX10_fields 98 = .ok (.ifCond .ne 7, 3) := by decide +kernel
theorem dX10_fields_101 : decode cX10_fields 101 = .ok (.iconst 1, 1) := by decide +kernel
theorem dX10_fields_102 : decode cX10_fields 102 = .ok (.goto 4, 3) := by decide +kernel
theorem dX10_fields_105 : decode cX10_fields 105 = .ok (.iconst 0, 1) := by decide +kernel
theorem dX10_fields_106 : decode cX10_fields 106 = .ok (.bipush 11, 2) := by decide +kernel
theorem dX10_fields_108 : decode cX10_fields 108 = .ok (.aload_n 0, 1) := by decide +kernel
theorem dX10_fields_109 : decode cX10_fields 109 = .ok (.getfield 19, 3) := by decide +kernel
theorem dX10_fields_112 : decode cX10_fields 112 = .ok (.iload 6, 2) := by decide +kernel
theorem dX10_fields_114 : decode cX10_fields 114 = .ok (.iaload, 1) := by decide +kernel
theorem dX10_fields_115 : decode cX10_fields 115 = .ok (.invokevirtual 105, 3) := by decide +kernel
theorem dX10_fields_118 : decode cX10_fields 118 = .ok (.aload_n 0, 1) := by decide +kernel
theorem dX10_fields_119 : decode cX10_fields 119 = .ok (.iload 6, 2) := by decide +kernel
theorem dX10_fields_121 : decode cX10_fields 121 = .ok (.ldc 246, 2) := by decide +kernel
theorem dX10_fields_123 : decode cX10_fields 123 = .ok (.invokevirtual 210, 3) := by decide +kernel
theorem dX10_fields_126 : decode cX10_fields 126 = .ok (.istore 7, 2) := by decide +kernel
theorem dX10_fields_128 : decode cX10_fields 128 = .ok (.aload_n 0, 1) := by decide +kernel
theorem dX10_fields_129 : decode cX10_fields 129 = .ok (.iload 7, 2) := by decide +kernel
theorem dX10_fields_131 : decode cX10_fields 131 = .ok (.ifCond .lt 18, 3) := by decide +kernel
theorem dX10_fields_134 : decode cX10_fields 134 = .ok (.aload_n 0, 1) := by decide +kernel
theorem dX10_fields_135 : decode cX10_fields 135 = .ok (.getfield 15, 3) := by decide +kernel
theorem dX10_fields_138 : decode cX10_fields 138 = .ok (.iload 7, 2) := by decide +kernel
theorem dX10_fields_140 : decode cX10_fields 140 = .ok (.iaload, 1) := by decide +kernel
theorem dX10_fields_141 : decode cX10_fields 141 = .ok (.iconst 2, 1) := by decide +kernel
theorem dX10_fields_142 : decode cX10_fields 142 = .ok (.if_icmp .ne 7, 3) := by decide +kernel
theorem dX10_fields_145 : decode cX10_fields 145 = .ok (.iconst 1, 1) := by decide +kernel
theorem dX10_fields_146 : decode cX10_fields 146 = .ok (.goto 4, 3) := by decide +kernel
theorem dX10_fields_149 : decode cX10_fields 149 = .ok (.iconst 0, 1) := by decide +kernel
theorem dX10_fields_150 : decode cX10_fields 150 = .ok (.bipush 8, 2) := by decide +kernel
theorem dX10_fields_152 : decode cX10_fields 152 = .ok (.aload_n 0, 1) := by decide +kernel
theorem dX10_fields_153 : decode cX10_fields 153 = .ok (.getfield 19, 3) := by decide +kernel
theorem dX10_fields_156 : decode cX10_fields 156 = .ok (.iload 6, 2) := by decide +kernel
theorem dX10_fields_158 : decode cX10_fields 158 = .ok (.iaload, 1) := by decide +kernel
theorem dX10_fields_159 : decode cX10_fields 159 = .ok (.invokevirtual 105, 3) := by decide +kernel
theorem dX10_fields_162 : decode cX10_fields 162 = .ok (.aload_n 0, 1) := by decide +kernel
theorem dX10_fields_163 : decode cX10_fields 163 = .ok (.iload 7, 2) := by decide +kernel
theorem dX10_fields_165 : decode cX10_fields 165 = .ok (.invokevirtual 248, 3) := by decide +kernel
theorem dX10_fields_168 : decode cX10_fields 168 = .ok (.istore 8, 2) := by decide +kernel
theorem dX10_fields_170 : decode cX10_fields 170 = .ok (.aload_n 0, 1) := by decide +kernel
theorem dX10_fields_171 : decode cX10_fields 171 = .ok (.getfield 47, 3) := by decide +kernel
theorem dX10_fields_174 : decode cX10_fields 174 = .ok (.iload_n 1, 1) := by decide +kernel
theorem dX10_fields_175 : decode cX10_fields 175 = .ok (.iaload, 1) := by decide +kernel
theorem dX10_fields_176 : decode cX10_fields 176 = .ok (.istore 9, 2) := by decide +kernel
theorem dX10_fields_178 : decode cX10_fields 178 = .ok (.iload 9, 2) := by decide +kernel
theorem dX10_fields_180 : decode cX10_fields 180 = .ok (.ifCond .lt 44, 3) := by decide +kernel
theorem dX10_fields_183 : decode cX10_fields 183 = .ok (.iload 8, 2) := by decide +kernel
theorem dX10_fields_185 : decode cX10_fields 185 = .ok (.ifCond .eq 24, 3) := by decide +kernel
theorem dX10_fields_188 : decode cX10_fields 188 = .ok (.aload_n 0, 1) := by decide +kernel
theorem dX10_fields_189 : decode cX10_fields 189 = .ok (.aload_n 0, 1) := by decide +kernel
theorem dX10_fields_190 : decode cX10_fields 190 = .ok (.getfield 59, 3) := by decide +kernel
theorem dX10_fields_193 : decode cX10_fields 193 = .ok (.iload 9, 2) := by decide +kernel
theorem dX10_fields_195 : decode cX10_fields 195 = .ok (.iaload, 1) := by decide +kernel
theorem dX10_fields_196 : decode cX10_fields 196 = .ok (.aload_n 0, 1) := by decide +kernel
theorem dX10_fields_197 : decode cX10_fields 197 = .ok (.iload 7, 2) := by decide +kernel
theorem dX10_fields_199 : decode cX10_fields 199 = .ok (.invokevirtual 155, 3) := by decide +kernel
theorem dX10_fields_202 : decode cX10_fields 202 = .ok (.ifCond .ne 7, 3) := by decide +kernel
theorem dX10_fields_205 : decode cX10_fields 205 = .ok (.iconst 1, 1) := by decide +kernel
theorem dX10_fields_206 : decode cX10_fields 206 = .ok (.goto 4, 3) := by decide +kernel
theorem dX10_fields_209 : decode cX10_fields 209 = .ok (.iconst 0, 1) := by decide +kernel
theorem dX10_fields_210 : decode cX10_fields 210 = .ok (.istore 8, 2) := by decide +kernel
theorem dX10_fields_212 : decode cX10_fields 212 = .ok (.aload_n 0, 1) := by decide +kernel
theorem dX10_fields_213 : decode cX10_fields 213 = .ok (.getfield 65, 3) := by decide +kernel
theorem dX10_fields_216 : decode cX10_fields 216 = .ok (.iload 9, 2) := by decide +kernel
theorem dX10_fields_218 : decode cX10_fields 218 = .ok (.iaload, 1) := by decide +kernel
theorem dX10_fields_219 : decode cX10_fields 219 = .ok (.istore 9, 2) := by decide +kernel
theorem dX10_fields_221 : decode cX10_fields 221 = .ok (.goto (-43), 3) := by decide +kernel
theorem dX10_fields_224 : decode cX10_fields 224 = .ok (.aload_n 0, 1) := by decide +kernel
theorem dX10_fields_225 : decode cX10_fields 225 = .ok (.iload 8, 2) := by decide +kernel
theorem dX10_fields_227 : decode cX10_fields 227 = .ok (.bipush 9, 2) := by decide +kernel
theorem dX10_fields_229 : decode cX10_fields 229 = .ok (.aload_n 0, 1) := by decide +kernel
theorem dX10_fields_230 : decode cX10_fields 230 = .ok (.getfield 19, 3) := by decide +kernel
theorem dX10_fields_233 : decode cX10_fields 233 = .ok (.iload 7, 2) := by decide +kernel
theorem dX10_fields_235 : decode cX10_fields 235 = .ok (.iaload, 1) := by decide +kernel
theorem dX10_fields_236 : decode cX10_fields 236 = .ok (.invokevirtual 105, 3) := by decide +kernel
theorem dX10_fields_239 : decode cX10_fields 239 = .ok (.aload_n 0, 1) := by decide +kernel
theorem dX10_fields_240 : decode cX10_fields 240 = .ok (.iload 6, 2) := by decide +kernel
theorem dX10_fields_242 : decode cX10_fields 242 = .ok (.ldc 208, 2) := by decide +kernel
theorem dX10_fields_244 : decode cX10_fields 244 = .ok (.invokevirtual 210, 3) := by decide +kernel
theorem dX10_fields_247 : decode cX10_fields 247 = .ok (.istore 9, 2) := by decide +kernel
theorem dX10_fields_249 : decode cX10_fields 249 = .ok (.aload_n 0, 1) := by decide +kernel
theorem dX10_fields_250 : decode cX10_fields 250 = .ok (.iload 9, 2) := by decide +kernel
theorem dX10_fields_252 : decode cX10_fields 252 = .ok (.ifCond .lt 7, 3) := by decide +kernel
theorem dX10_fields_255 : decode cX10_fields 255 = .ok (.iconst 1, 1) := by decide +kernel
theorem dX10_fields_256 : decode cX10_fields 256 = .ok (.goto 4, 3) := by decide +kernel
theorem dX10_fields_259 : decode cX10_fields 259 = .ok (.iconst 0, 1) := by decide +kernel
theorem dX10_fields_260 : decode cX10_fields 260 = .ok (.bipush 8, 2) := by decide +kernel
theorem dX10_fields_262 : decode cX10_fields 262 = .ok (.aload_n 0, 1) := by decide +kernel
theorem dX10_fields_263 : decode cX10_fields 263 = .ok (.getfield 19, 3) := by decide +kernel
theorem dX10_fields_266 : decode cX10_fields 266 = .ok (.iload 6, 2) := by decide +kernel
theorem dX10_fields_268 : decode cX10_fields 268 = .ok (.iaload, 1) := by decide +kernel
theorem dX10_fields_269 : decode cX10_fields 269 = .ok (.invokevirtual 105, 3) := by decide +kernel
theorem dX10_fields_272 : decode cX10_fields 272 = .ok (.aload_n 0, 1) := by decide +kernel
theorem dX10_fields_273 : decode cX10_fields 273 = .ok (.iload_n 1, 1) := by decide +kernel
theorem dX10_fields_274 : decode cX10_fields 274 = .ok (.iload 5, 2) := by decide +kernel
theorem dX10_fields_276 : decode cX10_fields 276 = .ok (.invokevirtual 225, 3) := by decide +kernel
theorem dX10_fields_279 : decode cX10_fields 279 = .ok (.istore 5, 2) := by decide +kernel
theorem dX10_fields_281 : decode cX10_fields 281 = .ok (.aload_n 0, 1) := by decide +kernel
theorem dX10_fields_282 : decode cX10_fields 282 = .ok (.getfield 59, 3) := by decide +kernel
theorem dX10_fields_285 : decode cX10_fields 285 = .ok (.iload 5, 2) := by decide +kernel
theorem dX10_fields_287 : decode cX10_fields 287 = .ok (.iload 7, 2) := by decide +kernel
theorem dX10_fields_289 : decode cX10_fields 289 = .ok (.iastore, 1) := by decide +kernel
theorem dX10_fields_290 : decode cX10_fields 290 = .ok (.aload_n 0, 1) := by decide +kernel
theorem dX10_fields_291 : decode cX10_fields 291 = .ok (.getfield 62, 3) := by decide +kernel
theorem dX10_fields_294 : decode cX10_fields 294 = .ok (.iload 5, 2) := by decide +kernel
theorem dX10_fields_296 : decode cX10_fields 296 = .ok (.aload_n 0, 1) := by decide +kernel
theorem dX10_fields_297 : decode cX10_fields 297 = .ok (.iload 6, 2) := by decide +kernel
theorem dX10_fields_299 : decode cX10_fields 299 = .ok (.ldc_w 264, 3) := by decide +kernel
theorem dX10_fields_302 : decode cX10_fields 302 = .ok (.invokevirtual 210, 3) := by decide +kernel
theorem dX10_fields_305 : decode cX10_fields 305 = .ok (.iastore, 1) := by decide +kernel
theorem dX10_fields_306 : decode cX10_fields 306 = .ok (.aload_n 0, 1) := by decide +kernel
theorem dX10_fields_307 : decode cX10_fields 307 = .ok (.getfield 56, 3) := by decide +kernel
theorem dX10_fields_310 : decode cX10_fields 310 = .ok (.iload 5, 2) := by decide +kernel
theorem dX10_fields_312 : decode cX10_fields 312 = .ok (.aload_n 0, 1) := by decide +kernel
theorem dX10_fields_313 : decode cX10_fields 313 = .ok (.iload 9, 2) := by decide +kernel
theorem dX10_fields_315 : decode cX10_fields 315 = .ok (.iload_n 3, 1) := by decide +kernel
theorem dX10_fields_316 : decode cX10_fields 316 = .ok (.iconst 1, 1) := by decide +kernel
theorem dX10_fields_317 : decode cX10_fields 317 = .ok (.iadd, 1) := by decide +kernel
theorem dX10_fields_318 : decode cX10_fields 318 = .ok (.iconst 0, 1) := by decide +kernel
theorem dX10_fields_319 : decode cX10_fields 319 = .ok (.invokevirtual 229, 3) := by decide +kernel
theorem dX10_fields_322 : decode cX10_fields 322 = .ok (.iastore, 1) := by decide +kernel
theorem dX10_fields_323 : decode cX10_fields 323 = .ok (.aload_n 0, 1) := by decide +kernel
theorem dX10_fields_324 : decode cX10_fields 324 = .ok (.getfield 68, 3) := by decide +kernel
theorem dX10_fields_327 : decode cX10_fields 327 = .ok (.aload_n 0, 1) := by decide +kernel
theorem dX10_fields_328 : decode cX10_fields 328 = .ok (.getfield 271, 3) := by decide +kernel
theorem dX10_fields_331 : decode cX10_fields 331 = .ok (.iload 5, 2) := by decide +kernel
theorem dX10_fields_333 : decode cX10_fields 333 = .ok (.iastore, 1) := by decide +kernel
theorem dX10_fields_334 : decode cX10_fields 334 = .ok (.aload_n 0, 1) := by decide +kernel
theorem dX10_fields_335 : decode cX10_fields 335 = .ok (.dup, 1) := by decide +kernel
theorem dX10_fields_336 : decode cX10_fields 336 = .ok (.getfield 271, 3) := by decide +kernel
theorem dX10_fields_339 : decode cX10_fields 339 = .ok (.iconst 1, 1) := by decide +kernel
theorem dX10_fields_340 : decode cX10_fields 340 = .ok (.iadd, 1) := by decide +kernel
theorem dX10_fields_341 : decode cX10_fields 341 = .ok (.putfield 271, 3) := by decide +kernel
theorem dX10_fields_344 : decode cX10_fields 344 = .ok (.aload_n 0, 1) := by decide +kernel
theorem dX10_fields_345 : decode cX10_fields 345 = .ok (.getfield 32, 3) := by decide +kernel
theorem dX10_fields_348 : decode cX10_fields 348 = .ok (.iload 6, 2) := by decide +kernel
theorem dX10_fields_350 : decode cX10_fields 350 = .ok (.iaload, 1) := by decide +kernel
theorem dX10_fields_351 : decode cX10_fields 351 = .ok (.istore 6, 2) := by decide +kernel
theorem dX10_fields_353 : decode cX10_fields 353 = .ok (.goto (-268), 3) := by decide +kernel
theorem dX10_fields_356 : decode cX10_fields 356 = .ok (.return_, 1) := by decide +kernel
theorem dX10_kid_0 : decode cX10_kid 0 = .ok (.aload_n 0, 1) := by decide +kernel
theorem dX10_kid_1 : decode cX10_kid 1 = .ok (.getfield 47, 3) := by decide +kernel
theorem dX10_kid_4 : decode cX10_kid 4 = .ok (.iload_n 1, 1) := by decide +kernel
theorem dX10_kid_5 : decode cX10_kid 5 = .ok (.iaload, 1) := by decide +kernel
theorem dX10_kid_6 : decode cX10_kid 6 = .ok (.istore_n 3, 1) := by decide +kernel
theorem dX10_kid_7 : decode cX10_kid 7 = .ok (.iconst 0, 1) := by decide +kernel
theorem dX10_kid_8 : decode cX10_kid 8 = .ok (.istore 4, 2) := by decide +kernel
theorem dX10_kid_10 : decode cX10_kid 10 = .ok (.iload 4, 2) := by decide +kernel
theorem dX10_kid_12 : decode cX10_kid 12 = .ok (.iload_n 2, 1) := by decide +kernel
theorem dX10_kid_13 : decode cX10_kid 13 = .ok (.if_icmp .ge 16, 3) := by decide +kernel
theorem dX10_kid_16 : decode cX10_kid 16 = .ok (.aload_n 0, 1) := by decide +kernel
theorem dX10_kid_17 : decode cX10_kid 17 = .ok (.getfield 65, 3) := by decide +kernel
theorem dX10_kid_20 : decode cX10_kid 20 = .ok (.iload_n 3, 1) := by decide +kernel
theorem dX10_kid_21 : decode cX10_kid 21 = .ok (.iaload, 1) := by decide +kernel
theorem dX10_kid_22 : decode cX10_kid 22 = .ok (.istore_n 3, 1) := by decide +kernel
theorem dX10_kid_23 : decode cX10_kid 23 = .ok (.iinc 4 1, 3) := by decide +kernel
theorem dX10_kid_26 : decode cX10_kid 26 = .ok (.goto (-16), 3) := by decide +kernel
theorem dX10_kid_29 : decode cX10_kid 29 = .ok (.iload_n 3, 1) := by decide +kernel
theorem dX10_kid_30 : decode cX10_kid 30 = .ok (.ireturn, 1) := by decide +kernel
theorem dX10_fit_0 : decode cX10_fit 0 = .ok (.aload_n 0, 1) := by decide +kernel
theorem dX10_fit_1 : decode cX10_fit 1 = .ok (.getfield 19, 3) := by decide +kernel
theorem dX10_fit_4 : decode cX10_fit 4 = .ok (.iload_n 1, 1) := by decide +kernel
theorem dX10_fit_5 : decode cX10_fit 5 = .ok (.iaload, 1) := by decide +kernel
theorem dX10_fit_6 : decode cX10_fit 6 = .ok (.istore_n 3, 1) := by decide +kernel
theorem dX10_fit_7 : decode cX10_fit 7 = .ok (.aload_n 0, 1) := by decide +kernel
theorem dX10_fit_8 : decode cX10_fit 8 = .ok (.getfield 38, 3) := by decide +kernel
theorem dX10_fit_11 : decode cX10_fit 11 = .ok (.iload_n 2, 1) := by decide +kernel
theorem dX10_fit_12 : decode cX10_fit 12 = .ok (.iaload, 1) := by decide +kernel
theorem dX10_fit_13 : decode cX10_fit 13 = .ok (.tableswitch 450 0 10 #[59, 85, 120, 163, 188, 188, 307, 374, 288, 213, 253], 59) := by decide +kernel
theorem dX10_fit_72 : decode cX10_fit 72 = .ok (.aload_n 0, 1) := by decide +kernel
theorem dX10_fit_73 : decode cX10_fit 73 = .ok (.aload_n 0, 1) := by decide +kernel
theorem dX10_fit_74 : decode cX10_fit 74 = .ok (.getfield 15, 3) := by decide +kernel
theorem dX10_fit_77 : decode cX10_fit 77 = .ok (.iload_n 1, 1) := by decide +kernel
theorem dX10_fit_78 : decode cX10_fit 78 = .ok (.iaload, 1) := by decide +kernel
theorem dX10_fit_79 : decode cX10_fit 79 = .ok (.bipush 6, 2) := by decide +kernel
theorem dX10_fit_81 : decode cX10_fit 81 = .ok (.if_icmp .ne 7, 3) := by decide +kernel
theorem dX10_fit_84 : decode cX10_fit 84 = .ok (.iconst 1, 1) := by decide +kernel
theorem dX10_fit_85 : decode cX10_fit 85 = .ok (.goto 4, 3) := by decide +kernel
theorem dX10_fit_88 : decode cX10_fit 88 = .ok (.iconst 0, 1) := by decide +kernel
theorem dX10_fit_89 : decode cX10_fit 89 = .ok (.bipush 12, 2) := by decide +kernel
theorem dX10_fit_91 : decode cX10_fit 91 = .ok (.iload_n 3, 1) := by decide +kernel
theorem dX10_fit_92 : decode cX10_fit 92 = .ok (.invokevirtual 105, 3) := by decide +kernel
theorem dX10_fit_95 : decode cX10_fit 95 = .ok (.goto 458, 3) := by decide +kernel
theorem dX10_fit_98 : decode cX10_fit 98 = .ok (.aload_n 0, 1) := by decide +kernel
theorem dX10_fit_99 : decode cX10_fit 99 = .ok (.aload_n 0, 1) := by decide +kernel
theorem dX10_fit_100 : decode cX10_fit 100 = .ok (.getfield 15, 3) := by decide +kernel
theorem dX10_fit_103 : decode cX10_fit 103 = .ok (.iload_n 1, 1) := by decide +kernel
theorem dX10_fit_104 : decode cX10_fit 104 = .ok (.iaload, 1) := by decide +kernel
theorem dX10_fit_105 : decode cX10_fit 105 = .ok (.iconst 4, 1) := by decide +kernel
theorem dX10_fit_106 : decode cX10_fit 106 = .ok (.if_icmp .eq 13, 3) := by decide +kernel
theorem dX10_fit_109 : decode cX10_fit 109 = .ok (.aload_n 0, 1) := by decide +kernel
theorem dX10_fit_110 : decode cX10_fit 110 = .ok (.getfield 15, 3) := by decide +kernel
theorem dX10_fit_113 : decode cX10_fit 113 = .ok (.iload_n 1, 1) := by decide +kernel
theorem dX10_fit_114 : decode cX10_fit 114 = .ok (.iaload, 1) := by decide +kernel
theorem dX10_fit_115 : decode cX10_fit 115 = .ok (.iconst 5, 1) := by decide +kernel
theorem dX10_fit_116 : decode cX10_fit 116 = .ok (.if_icmp .ne 7, 3) := by decide +kernel
theorem dX10_fit_119 : decode cX10_fit 119 = .ok (.iconst 1, 1) := by decide +kernel
theorem dX10_fit_120 : decode cX10_fit 120 = .ok (.goto 4, 3) := by decide +kernel
theorem dX10_fit_123 : decode cX10_fit 123 = .ok (.iconst 0, 1) := by decide +kernel
theorem dX10_fit_124 : decode cX10_fit 124 = .ok (.bipush 12, 2) := by decide +kernel
theorem dX10_fit_126 : decode cX10_fit 126 = .ok (.iload_n 3, 1) := by decide +kernel
theorem dX10_fit_127 : decode cX10_fit 127 = .ok (.invokevirtual 105, 3) := by decide +kernel
theorem dX10_fit_130 : decode cX10_fit 130 = .ok (.goto 423, 3) := by decide +kernel
theorem dX10_fit_133 : decode cX10_fit 133 = .ok (.aload_n 0, 1) := by decide +kernel
theorem dX10_fit_134 : decode cX10_fit 134 = .ok (.aload_n 0, 1) := by decide +kernel
theorem dX10_fit_135 : decode cX10_fit 135 = .ok (.getfield 15, 3) := by decide +kernel
theorem dX10_fit_138 : decode cX10_fit 138 = .ok (.iload_n 1, 1) := by decide +kernel
theorem dX10_fit_139 : decode cX10_fit 139 = .ok (.iaload, 1) := by decide +kernel
theorem dX10_fit_140 : decode cX10_fit 140 = .ok (.iconst 3, 1) := by decide +kernel
theorem dX10_fit_141 : decode cX10_fit 141 = .ok (.if_icmp .ne 25, 3) := by decide +kernel
theorem dX10_fit_144 : decode cX10_fit 144 = .ok (.aload_n 0, 1) := by decide +kernel
theorem dX10_fit_145 : decode cX10_fit 145 = .ok (.getfield 22, 3) := by decide +kernel
theorem dX10_fit_148 : decode cX10_fit 148 = .ok (.iload_n 1, 1) := by decide +kernel
theorem dX10_fit_149 : decode cX10_fit 149 = .ok (.laload, 1) := by decide +kernel
theorem dX10_fit_150 : decode cX10_fit 150 = .ok (.aload_n 0, 1) := by decide +kernel
theorem dX10_fit_151 : decode cX10_fit 151 = .ok (.getfield 22, 3) := by decide +kernel
theorem dX10_fit_154 : decode cX10_fit 154 = .ok (.iload_n 1, 1) := by decide +kernel
theorem dX10_fit_155 : decode cX10_fit 155 = .ok (.laload, 1) := by decide +kernel
theorem dX10_fit_156 : decode cX10_fit 156 = .ok (.l2i, 1) := by decide +kernel
theorem dX10_fit_157 : decode cX10_fit 157 = .ok (.i2l, 1) := by decide +kernel
theorem dX10_fit_158 : decode cX10_fit 158 = .ok (.lcmp, 1) := by decide +kernel
theorem dX10_fit_159 : decode cX10_fit 159 = .ok (.ifCond .ne 7, 3) := by decide +kernel
theorem dX10_fit_162 : decode cX10_fit 162 = .ok (.iconst 1, 1) := by decide +kernel
theorem dX10_fit_163 : decode cX10_fit 163 = .ok (.goto 4, 3) := by decide +kernel
theorem dX10_fit_166 : decode cX10_fit 166 = .ok (.iconst 0, 1) := by decide +kernel
theorem dX10_fit_167 : decode cX10_fit 167 = .ok (.bipush 12, 2) := by decide +kernel
theorem dX10_fit_169 : decode cX10_fit 169 = .ok (.iload_n 3, 1) := by decide +kernel
theorem dX10_fit_170 : decode cX10_fit 170 = .ok (.invokevirtual 105, 3) := by decide +kernel
theorem dX10_fit_173 : decode cX10_fit 173 = .ok (.goto 380, 3) := by decide +kernel
theorem dX10_fit_176 : decode cX10_fit 176 = .ok (.aload_n 0, 1) := by decide +kernel
theorem dX10_fit_177 : decode cX10_fit 177 = .ok (.aload_n 0, 1) := by decide +kernel
theorem dX10_fit_178 : decode cX10_fit 178 = .ok (.getfield 15, 3) := by decide +kernel
theorem dX10_fit_181 : decode cX10_fit 181 = .ok (.iload_n 1, 1) := by decide +kernel
theorem dX10_fit_182 : decode cX10_fit 182 = .ok (.iaload, 1) := by decide +kernel
theorem dX10_fit_183 : decode cX10_fit 183 = .ok (.iconst 3, 1) := by decide +kernel
theorem dX10_fit_184 : decode cX10_fit 184 = .ok (.if_icmp .ne 7, 3) := by decide +kernel
theorem dX10_fit_187 : decode cX10_fit 187 = .ok (.iconst 1, 1) := by decide +kernel
theorem dX10_fit_188 : decode cX10_fit 188 = .ok (.goto 4, 3) := by decide +kernel
theorem dX10_fit_191 : decode cX10_fit 191 = .ok (.iconst 0, 1) := by decide +kernel
theorem dX10_fit_192 : decode cX10_fit 192 = .ok (.bipush 12, 2) := by decide +kernel
theorem dX10_fit_194 : decode cX10_fit 194 = .ok (.iload_n 3, 1) := by decide +kernel
theorem dX10_fit_195 : decode cX10_fit 195 = .ok (.invokevirtual 105, 3) := by decide +kernel
theorem dX10_fit_198 : decode cX10_fit 198 = .ok (.goto 355, 3) := by decide +kernel
theorem dX10_fit_201 : decode cX10_fit 201 = .ok (.aload_n 0, 1) := by decide +kernel
theorem dX10_fit_202 : decode cX10_fit 202 = .ok (.aload_n 0, 1) := by decide +kernel
theorem dX10_fit_203 : decode cX10_fit 203 = .ok (.getfield 15, 3) := by decide +kernel
theorem dX10_fit_206 : decode cX10_fit 206 = .ok (.iload_n 1, 1) := by decide +kernel
theorem dX10_fit_207 : decode cX10_fit 207 = .ok (.iaload, 1) := by decide +kernel
theorem dX10_fit_208 : decode cX10_fit 208 = .ok (.iconst 2, 1) := by decide +kernel
theorem dX10_fit_209 : decode cX10_fit 209 = .ok (.if_icmp .ne 7, 3) := by decide +kernel
theorem dX10_fit_212 : decode cX10_fit 212 = .ok (.iconst 1, 1) := by decide +kernel
theorem dX10_fit_213 : decode cX10_fit 213 = .ok (.goto 4, 3) := by decide +kernel
theorem dX10_fit_216 : decode cX10_fit 216 = .ok (.iconst 0, 1) := by decide +kernel
theorem dX10_fit_217 : decode cX10_fit 217 = .ok (.bipush 12, 2) := by decide +kernel
theorem dX10_fit_219 : decode cX10_fit 219 = .ok (.iload_n 3, 1) := by decide +kernel
theorem dX10_fit_220 : decode cX10_fit 220 = .ok (.invokevirtual 105, 3) := by decide +kernel
theorem dX10_fit_223 : decode cX10_fit 223 = .ok (.goto 330, 3) := by decide +kernel
theorem dX10_fit_226 : decode cX10_fit 226 = .ok (.aload_n 0, 1) := by decide +kernel
theorem dX10_fit_227 : decode cX10_fit 227 = .ok (.aload_n 0, 1) := by decide +kernel
theorem dX10_fit_228 : decode cX10_fit 228 = .ok (.getfield 15, 3) := by decide +kernel
theorem dX10_fit_231 : decode cX10_fit 231 = .ok (.iload_n 1, 1) := by decide +kernel
theorem dX10_fit_232 : decode cX10_fit 232 = .ok (.iaload, 1) := by decide +kernel
theorem dX10_fit_233 : decode cX10_fit 233 = .ok (.iconst 2, 1) := by decide +kernel
theorem dX10_fit_234 : decode cX10_fit 234 = .ok (.if_icmp .ne 22, 3) := by decide +kernel
theorem dX10_fit_237 : decode cX10_fit 237 = .ok (.aload_n 0, 1) := by decide +kernel
theorem dX10_fit_238 : decode cX10_fit 238 = .ok (.getfield 26, 3) := by decide +kernel
theorem dX10_fit_241 : decode cX10_fit 241 = .ok (.iload_n 1, 1) := by decide +kernel
theorem dX10_fit_242 : decode cX10_fit 242 = .ok (.iaload, 1) := by decide +kernel
theorem dX10_fit_243 : decode cX10_fit 243 = .ok (.aload_n 0, 1) := by decide +kernel
theorem dX10_fit_244 : decode cX10_fit 244 = .ok (.getfield 44, 3) := by decide +kernel
theorem dX10_fit_247 : decode cX10_fit 247 = .ok (.iload_n 2, 1) := by decide +kernel
theorem dX10_fit_248 : decode cX10_fit 248 = .ok (.iaload, 1) := by decide +kernel
theorem dX10_fit_249 : decode cX10_fit 249 = .ok (.if_icmp .ne 7, 3) := by decide +kernel
theorem dX10_fit_252 : decode cX10_fit 252 = .ok (.iconst 1, 1) := by decide +kernel
theorem dX10_fit_253 : decode cX10_fit 253 = .ok (.goto 4, 3) := by decide +kernel
theorem dX10_fit_256 : decode cX10_fit 256 = .ok (.iconst 0, 1) := by decide +kernel
theorem dX10_fit_257 : decode cX10_fit 257 = .ok (.bipush 12, 2) := by decide +kernel
theorem dX10_fit_259 : decode cX10_fit 259 = .ok (.iload_n 3, 1) := by decide +kernel
theorem dX10_fit_260 : decode cX10_fit 260 = .ok (.invokevirtual 105, 3) := by decide +kernel
theorem dX10_fit_263 : decode cX10_fit 263 = .ok (.goto 290, 3) := by decide +kernel
theorem dX10_fit_266 : decode cX10_fit 266 = .ok (.aload_n 0, 1) := by decide +kernel
theorem dX10_fit_267 : decode cX10_fit 267 = .ok (.aload_n 0, 1) := by decide +kernel
theorem dX10_fit_268 : decode cX10_fit 268 = .ok (.getfield 15, 3) := by decide +kernel
theorem dX10_fit_271 : decode cX10_fit 271 = .ok (.iload_n 1, 1) := by decide +kernel
theorem dX10_fit_272 : decode cX10_fit 272 = .ok (.iaload, 1) := by decide +kernel
theorem dX10_fit_273 : decode cX10_fit 273 = .ok (.iconst 2, 1) := by decide +kernel
theorem dX10_fit_274 : decode cX10_fit 274 = .ok (.if_icmp .ne 17, 3) := by decide +kernel
theorem dX10_fit_277 : decode cX10_fit 277 = .ok (.aload_n 0, 1) := by decide +kernel
theorem dX10_fit_278 : decode cX10_fit 278 = .ok (.iload_n 2, 1) := by decide +kernel
theorem dX10_fit_279 : decode cX10_fit 279 = .ok (.aload_n 0, 1) := by decide +kernel
theorem dX10_fit_280 : decode cX10_fit 280 = .ok (.iload_n 1, 1) := by decide +kernel
theorem dX10_fit_281 : decode cX10_fit 281 = .ok (.invokevirtual 266, 3) := by decide +kernel
theorem dX10_fit_284 : decode cX10_fit 284 = .ok (.ifCond .lt 7, 3) := by decide +kernel
theorem dX10_fit_287 : decode cX10_fit 287 = .ok (.iconst 1, 1) := by decide +kernel
theorem dX10_fit_288 : decode cX10_fit 288 = .ok (.goto 4, 3) := by decide +kernel
theorem dX10_fit_291 : decode cX10_fit 291 = .ok (.iconst 0, 1) := by decide +kernel
theorem dX10_fit_292 : decode cX10_fit 292 = .ok (.bipush 12, 2) := by decide +kernel
theorem dX10_fit_294 : decode cX10_fit 294 = .ok (.iload_n 3, 1) := by decide +kernel
theorem dX10_fit_295 : decode cX10_fit 295 = .ok (.invokevirtual 105, 3) := by decide +kernel
theorem dX10_fit_298 : decode cX10_fit 298 = .ok (.goto 255, 3) := by decide +kernel
theorem dX10_fit_301 : decode cX10_fit 301 = .ok (.aload_n 0, 1) := by decide +kernel
theorem dX10_fit_302 : decode cX10_fit 302 = .ok (.iload_n 1, 1) := by decide +kernel
theorem dX10_fit_303 : decode cX10_fit 303 = .ok (.aload_n 0, 1) := by decide +kernel
theorem dX10_fit_304 : decode cX10_fit 304 = .ok (.getfield 56, 3) := by decide +kernel
theorem dX10_fit_307 : decode cX10_fit 307 = .ok (.aload_n 0, 1) := by decide +kernel
theorem dX10_fit_308 : decode cX10_fit 308 = .ok (.getfield 47, 3) := by decide +kernel
theorem dX10_fit_311 : decode cX10_fit 311 = .ok (.iload_n 2, 1) := by decide +kernel
theorem dX10_fit_312 : decode cX10_fit 312 = .ok (.iaload, 1) := by decide +kernel
theorem dX10_fit_313 : decode cX10_fit 313 = .ok (.iaload, 1) := by decide +kernel
theorem dX10_fit_314 : decode cX10_fit 314 = .ok (.invokevirtual 274, 3) := by decide +kernel
theorem dX10_fit_317 : decode cX10_fit 317 = .ok (.goto 236, 3) := by decide +kernel
theorem dX10_fit_320 : decode cX10_fit 320 = .ok (.aload_n 0, 1) := by decide +kernel
theorem dX10_fit_321 : decode cX10_fit 321 = .ok (.aload_n 0, 1) := by decide +kernel
theorem dX10_fit_322 : decode cX10_fit 322 = .ok (.getfield 15, 3) := by decide +kernel
theorem dX10_fit_325 : decode cX10_fit 325 = .ok (.iload_n 1, 1) := by decide +kernel
theorem dX10_fit_326 : decode cX10_fit 326 = .ok (.iaload, 1) := by decide +kernel
theorem dX10_fit_327 : decode cX10_fit 327 = .ok (.iconst 1, 1) := by decide +kernel
theorem dX10_fit_328 : decode cX10_fit 328 = .ok (.if_icmp .ne 7, 3) := by decide +kernel
theorem dX10_fit_331 : decode cX10_fit 331 = .ok (.iconst 1, 1) := by decide +kernel
theorem dX10_fit_332 : decode cX10_fit 332 = .ok (.goto 4, 3) := by decide +kernel
theorem dX10_fit_335 : decode cX10_fit 335 = .ok (.iconst 0, 1) := by decide +kernel
theorem dX10_fit_336 : decode cX10_fit 336 = .ok (.bipush 12, 2) := by decide +kernel
theorem dX10_fit_338 : decode cX10_fit 338 = .ok (.iload_n 3, 1) := by decide +kernel
theorem dX10_fit_339 : decode cX10_fit 339 = .ok (.invokevirtual 105, 3) := by decide +kernel
theorem dX10_fit_342 : decode cX10_fit 342 = .ok (.aload_n 0, 1) := by decide +kernel
theorem dX10_fit_343 : decode cX10_fit 343 = .ok (.getfield 29, 3) := by decide +kernel
theorem dX10_fit_346 : decode cX10_fit 346 = .ok (.iload_n 1, 1) := by decide +kernel
theorem dX10_fit_347 : decode cX10_fit 347 = .ok (.iaload, 1) := by decide +kernel
theorem dX10_fit_348 : decode cX10_fit 348 = .ok (.istore 4, 2) := by decide +kernel
theorem dX10_fit_350 : decode cX10_fit 350 = .ok (.iload 4, 2) := by decide +kernel
theorem dX10_fit_352 : decode cX10_fit 352 = .ok (.ifCond .lt 32, 3) := by decide +kernel
theorem dX10_fit_355 : decode cX10_fit 355 = .ok (.aload_n 0, 1) := by decide +kernel
theorem dX10_fit_356 : decode cX10_fit 356 = .ok (.iload 4, 2) := by decide +kernel
theorem dX10_fit_358 : decode cX10_fit 358 = .ok (.aload_n 0, 1) := by decide +kernel
theorem dX10_fit_359 : decode cX10_fit 359 = .ok (.getfield 56, 3) := by decide +kernel
theorem dX10_fit_362 : decode cX10_fit 362 = .ok (.aload_n 0, 1) := by decide +kernel
theorem dX10_fit_363 : decode cX10_fit 363 = .ok (.getfield 47, 3) := by decide +kernel
theorem dX10_fit_366 : decode cX10_fit 366 = .ok (.iload_n 2, 1) := by decide +kernel
theorem dX10_fit_367 : decode cX10_fit 367 = .ok (.iaload, 1) := by decide +kernel
theorem dX10_fit_368 : decode cX10_fit 368 = .ok (.iaload, 1) := by decide +kernel
theorem dX10_fit_369 : decode cX10_fit 369 = .ok (.invokevirtual 274, 3) := by decide +kernel
theorem dX10_fit_372 : decode cX10_fit 372 = .ok (.aload_n 0, 1) := by decide +kernel
theorem dX10_fit_373 : decode cX10_fit 373 = .ok (.getfield 32, 3) := by decide +kernel
theorem dX10_fit_376 : decode cX10_fit 376 = .ok (.iload 4, 2) := by decide +kernel
theorem dX10_fit_378 : decode cX10_fit 378 = .ok (.iaload, 1) := by decide +kernel
theorem dX10_fit_379 : decode cX10_fit 379 = .ok (.istore 4, 2) := by decide +kernel
theorem dX10_fit_381 : decode cX10_fit 381 = .ok (.goto (-31), 3) := by decide +kernel
theorem dX10_fit_384 : decode cX10_fit 384 = .ok (.goto 169, 3) := by decide +kernel
theorem dX10_fit_387 : decode cX10_fit 387 = .ok (.aload_n 0, 1) := by decide +kernel
theorem dX10_fit_388 : decode cX10_fit 388 = .ok (.aload_n 0, 1) := by decide +kernel
theorem dX10_fit_389 : decode cX10_fit 389 = .ok (.getfield 15, 3) := by decide +kernel
theorem dX10_fit_392 : decode cX10_fit 392 = .ok (.iload_n 1, 1) := by decide +kernel
theorem dX10_fit_393 : decode cX10_fit 393 = .ok (.iaload, 1) := by decide +kernel
theorem dX10_fit_394 : decode cX10_fit 394 = .ok (.ifCond .ne 7, 3) := by decide +kernel
theorem dX10_fit_397 : decode cX10_fit 397 = .ok (.iconst 1, 1) := by decide +kernel
theorem dX10_fit_398 : decode cX10_fit 398 = .ok (.goto 4, 3) := by decide +kernel
theorem dX10_fit_401 : decode cX10_fit 401 = .ok (.iconst 0, 1) := by decide +kernel
theorem dX10_fit_402 : decode cX10_fit 402 = .ok (.bipush 12, 2) := by decide +kernel
theorem dX10_fit_404 : decode cX10_fit 404 = .ok (.iload_n 3, 1) := by decide +kernel
theorem dX10_fit_405 : decode cX10_fit 405 = .ok (.invokevirtual 105, 3) := by decide +kernel
theorem dX10_fit_408 : decode cX10_fit 408 = .ok (.aload_n 0, 1) := by decide +kernel
theorem dX10_fit_409 : decode cX10_fit 409 = .ok (.getfield 29, 3) := by decide +kernel
theorem dX10_fit_412 : decode cX10_fit 412 = .ok (.iload_n 1, 1) := by decide +kernel
theorem dX10_fit_413 : decode cX10_fit 413 = .ok (.iaload, 1) := by decide +kernel
theorem dX10_fit_414 : decode cX10_fit 414 = .ok (.istore 4, 2) := by decide +kernel
theorem dX10_fit_416 : decode cX10_fit 416 = .ok (.iload 4, 2) := by decide +kernel
theorem dX10_fit_418 : decode cX10_fit 418 = .ok (.ifCond .lt 42, 3) := by decide +kernel
theorem dX10_fit_421 : decode cX10_fit 421 = .ok (.aload_n 0, 1) := by decide +kernel
theorem dX10_fit_422 : decode cX10_fit 422 = .ok (.aload_n 0, 1) := by decide +kernel
theorem dX10_fit_423 : decode cX10_fit 423 = .ok (.getfield 32, 3) := by decide +kernel
theorem dX10_fit_426 : decode cX10_fit 426 = .ok (.iload 4, 2) := by decide +kernel
theorem dX10_fit_428 : decode cX10_fit 428 = .ok (.iaload, 1) := by decide +kernel
theorem dX10_fit_429 : decode cX10_fit 429 = .ok (.aload_n 0, 1) := by decide +kernel
theorem dX10_fit_430 : decode cX10_fit 430 = .ok (.getfield 56, 3) := by decide +kernel
theorem dX10_fit_433 : decode cX10_fit 433 = .ok (.aload_n 0, 1) := by decide +kernel
theorem dX10_fit_434 : decode cX10_fit 434 = .ok (.getfield 47, 3) := by decide +kernel
theorem dX10_fit_437 : decode cX10_fit 437 = .ok (.iload_n 2, 1) := by decide +kernel
theorem dX10_fit_438 : decode cX10_fit 438 = .ok (.iaload, 1) := by decide +kernel
theorem dX10_fit_439 : decode cX10_fit 439 = .ok (.iaload, 1) := by decide +kernel
theorem dX10_fit_440 : decode cX10_fit 440 = .ok (.invokevirtual 274, 3) := by decide +kernel
theorem dX10_fit_443 : decode cX10_fit 443 = .ok (.aload_n 0, 1) := by decide +kernel
theorem dX10_fit_444 : decode cX10_fit 444 = .ok (.getfield 32, 3) := by decide +kernel
theorem dX10_fit_447 : decode cX10_fit 447 = .ok (.aload_n 0, 1) := by decide +kernel
theorem dX10_fit_448 : decode cX10_fit 448 = .ok (.getfield 32, 3) := by decide +kernel
theorem dX10_fit_451 : decode cX10_fit 451 = .ok (.iload 4, 2) := by decide +kernel
theorem dX10_fit_453 : decode cX10_fit 453 = .ok (.iaload, 1) := by decide +kernel
theorem dX10_fit_454 : decode cX10_fit 454 = .ok (.iaload, 1) := by decide +kernel
theorem dX10_fit_455 : decode cX10_fit 455 = .ok (.istore 4, 2) := by decide +kernel
theorem dX10_fit_457 : decode cX10_fit 457 = .ok (.goto (-41), 3) := by decide +kernel
theorem dX10_fit_460 : decode cX10_fit 460 = .ok (.goto 93, 3) := by decide +kernel
theorem dX10_fit_463 : decode cX10_fit 463 = .ok (.aload_n 0, 1) := by decide +kernel
theorem dX10_fit_464 : decode cX10_fit 464 = .ok (.aload_n 0, 1) := by decide +kernel
theorem dX10_fit_465 : decode cX10_fit 465 = .ok (.getfield 15, 3) := by decide +kernel
theorem dX10_fit_468 : decode cX10_fit 468 = .ok (.iload_n 1, 1) := by decide +kernel
theorem dX10_fit_469 : decode cX10_fit 469 = .ok (.iaload, 1) := by decide +kernel
theorem dX10_fit_470 : decode cX10_fit 470 = .ok (.ifCond .ne 7, 3) := by decide +kernel
theorem dX10_fit_473 : decode cX10_fit 473 = .ok (.iconst 1, 1) := by decide +kernel
theorem dX10_fit_474 : decode cX10_fit 474 = .ok (.goto 4, 3) := by decide +kernel
theorem dX10_fit_477 : decode cX10_fit 477 = .ok (.iconst 0, 1) := by decide +kernel
theorem dX10_fit_478 : decode cX10_fit 478 = .ok (.bipush 12, 2) := by decide +kernel
theorem dX10_fit_480 : decode cX10_fit 480 = .ok (.iload_n 3, 1) := by decide +kernel
theorem dX10_fit_481 : decode cX10_fit 481 = .ok (.invokevirtual 105, 3) := by decide +kernel
theorem dX10_fit_484 : decode cX10_fit 484 = .ok (.aload_n 0, 1) := by decide +kernel
theorem dX10_fit_485 : decode cX10_fit 485 = .ok (.getfield 47, 3) := by decide +kernel
theorem dX10_fit_488 : decode cX10_fit 488 = .ok (.iload_n 2, 1) := by decide +kernel
theorem dX10_fit_489 : decode cX10_fit 489 = .ok (.iaload, 1) := by decide +kernel
theorem dX10_fit_490 : decode cX10_fit 490 = .ok (.istore 4, 2) := by decide +kernel
theorem dX10_fit_492 : decode cX10_fit 492 = .ok (.iload 4, 2) := by decide +kernel
theorem dX10_fit_494 : decode cX10_fit 494 = .ok (.ifCond .lt 59, 3) := by decide +kernel
theorem dX10_fit_497 : decode cX10_fit 497 = .ok (.aload_n 0, 1) := by decide +kernel
theorem dX10_fit_498 : decode cX10_fit 498 = .ok (.iload_n 1, 1) := by decide +kernel
theorem dX10_fit_499 : decode cX10_fit 499 = .ok (.aload_n 0, 1) := by decide +kernel
theorem dX10_fit_500 : decode cX10_fit 500 = .ok (.getfield 59, 3) := by decide +kernel
theorem dX10_fit_503 : decode cX10_fit 503 = .ok (.iload 4, 2) := by decide +kernel
theorem dX10_fit_505 : decode cX10_fit 505 = .ok (.iaload, 1) := by decide +kernel
theorem dX10_fit_506 : decode cX10_fit 506 = .ok (.invokevirtual 277, 3) := by decide +kernel
theorem dX10_fit_509 : decode cX10_fit 509 = .ok (.istore 5, 2) := by decide +kernel
theorem dX10_fit_511 : decode cX10_fit 511 = .ok (.aload_n 0, 1) := by decide +kernel
theorem dX10_fit_512 : decode cX10_fit 512 = .ok (.iload 5, 2) := by decide +kernel
theorem dX10_fit_514 : decode cX10_fit 514 = .ok (.ifCond .lt 7, 3) := by decide +kernel
theorem dX10_fit_517 : decode cX10_fit 517 = .ok (.iconst 1, 1) := by decide +kernel
theorem dX10_fit_518 : decode cX10_fit 518 = .ok (.goto 4, 3) := by decide +kernel
theorem dX10_fit_521 : decode cX10_fit 521 = .ok (.iconst 0, 1) := by decide +kernel
theorem dX10_fit_522 : decode cX10_fit 522 = .ok (.bipush 12, 2) := by decide +kernel
theorem dX10_fit_524 : decode cX10_fit 524 = .ok (.iload_n 3, 1) := by decide +kernel
theorem dX10_fit_525 : decode cX10_fit 525 = .ok (.invokevirtual 105, 3) := by decide +kernel
theorem dX10_fit_528 : decode cX10_fit 528 = .ok (.aload_n 0, 1) := by decide +kernel
theorem dX10_fit_529 : decode cX10_fit 529 = .ok (.iload 5, 2) := by decide +kernel
theorem dX10_fit_531 : decode cX10_fit 531 = .ok (.aload_n 0, 1) := by decide +kernel
theorem dX10_fit_532 : decode cX10_fit 532 = .ok (.getfield 56, 3) := by decide +kernel
theorem dX10_fit_535 : decode cX10_fit 535 = .ok (.iload 4, 2) := by decide +kernel
theorem dX10_fit_537 : decode cX10_fit 537 = .ok (.iaload, 1) := by decide +kernel
theorem dX10_fit_538 : decode cX10_fit 538 = .ok (.invokevirtual 274, 3) := by decide +kernel
theorem dX10_fit_541 : decode cX10_fit 541 = .ok (.aload_n 0, 1) := by decide +kernel
theorem dX10_fit_542 : decode cX10_fit 542 = .ok (.getfield 65, 3) := by decide +kernel
theorem dX10_fit_545 : decode cX10_fit 545 = .ok (.iload 4, 2) := by decide +kernel
theorem dX10_fit_547 : decode cX10_fit 547 = .ok (.iaload, 1) := by decide +kernel
theorem dX10_fit_548 : decode cX10_fit 548 = .ok (.istore 4, 2) := by decide +kernel
theorem dX10_fit_550 : decode cX10_fit 550 = .ok (.goto (-58), 3) := by decide +kernel
theorem dX10_fit_553 : decode cX10_fit 553 = .ok (.return_, 1) := by decide +kernel
theorem dX10_memberLike_0 : decode cX10_memberLike 0 = .ok (.aload_n 0, 1) := by decide +kernel
theorem dX10_memberLike_1 : decode cX10_memberLike 1 = .ok (.getfield 29, 3) := by decide +kernel
theorem dX10_memberLike_4 : decode cX10_memberLike 4 = .ok (.iload_n 1, 1) := by decide +kernel
theorem dX10_memberLike_5 : decode cX10_memberLike 5 = .ok (.iaload, 1) := by decide +kernel
theorem dX10_memberLike_6 : decode cX10_memberLike 6 = .ok (.istore_n 3, 1) := by decide +kernel
theorem dX10_memberLike_7 : decode cX10_memberLike 7 = .ok (.iload_n 3, 1) := by decide +kernel
theorem dX10_memberLike_8 : decode cX10_memberLike 8 = .ok (.ifCond .lt 35, 3) := by decide +kernel
theorem dX10_memberLike_11 : decode cX10_memberLike 11 = .ok (.aload_n 0, 1) := by decide +kernel
theorem dX10_memberLike_12 : decode cX10_memberLike 12 = .ok (.iload_n 3, 1) := by decide +kernel
theorem dX10_memberLike_13 : decode cX10_memberLike 13 = .ok (.aload_n 0, 1) := by decide +kernel
theorem dX10_memberLike_14 : decode cX10_memberLike 14 = .ok (.iload_n 2, 1) := by decide +kernel
theorem dX10_memberLike_15 : decode cX10_memberLike 15 = .ok (.invokevirtual 155, 3) := by decide +kernel
theorem dX10_memberLike_18 : decode cX10_memberLike 18 = .ok (.ifCond .eq 10, 3) := by decide +kernel
theorem dX10_memberLike_21 : decode cX10_memberLike 21 = .ok (.aload_n 0, 1) := by decide +kernel
theorem dX10_memberLike_22 : decode cX10_memberLike 22 = .ok (.getfield 32, 3) := by decide +kernel
theorem dX10_memberLike_25 : decode cX10_memberLike 25 = .ok (.iload_n 3, 1) := by decide +kernel
theorem dX10_memberLike_26 : decode cX10_memberLike 26 = .ok (.iaload, 1) := by decide +kernel
theorem dX10_memberLike_27 : decode cX10_memberLike 27 = .ok (.ireturn, 1) := by decide +kernel
theorem dX10_memberLike_28 : decode cX10_memberLike 28 = .ok (.aload_n 0, 1) := by decide +kernel
theorem dX10_memberLike_29 : decode cX10_memberLike 29 = .ok (.getfield 32, 3) := by decide +kernel
theorem dX10_memberLike_32 : decode cX10_memberLike 32 = .ok (.aload_n 0, 1) := by decide +kernel
theorem dX10_memberLike_33 : decode cX10_memberLike 33 = .ok (.getfield 32, 3) := by decide +kernel
theorem dX10_memberLike_36 : decode cX10_memberLike 36 = .ok (.iload_n 3, 1) := by decide +kernel
theorem dX10_memberLike_37 : decode cX10_memberLike 37 = .ok (.iaload, 1) := by decide +kernel
theorem dX10_memberLike_38 : decode cX10_memberLike 38 = .ok (.iaload, 1) := by decide +kernel
theorem dX10_memberLike_39 : decode cX10_memberLike 39 = .ok (.istore_n 3, 1) := by decide +kernel
theorem dX10_memberLike_40 : decode cX10_memberLike 40 = .ok (.goto (-33), 3) := by decide +kernel
theorem dX10_memberLike_43 : decode cX10_memberLike 43 = .ok (.iconst (-1), 1) := by decide +kernel
theorem dX10_memberLike_44 : decode cX10_memberLike 44 = .ok (.ireturn, 1) := by decide +kernel
theorem dX10_read_0 : decode cX10_read 0 = .ok (.iconst 0, 1) := by decide +kernel
theorem dX10_read_1 : decode cX10_read 1 = .ok (.istore 4, 2) := by decide +kernel
theorem dX10_read_3 : decode cX10_read 3 = .ok (.iload 4, 2) := by decide +kernel
theorem dX10_read_5 : decode cX10_read 5 = .ok (.iload_n 3, 1) := by decide +kernel
theorem dX10_read_6 : decode cX10_read 6 = .ok (.if_icmp .ge 22, 3) := by decide +kernel
theorem dX10_read_9 : decode cX10_read 9 = .ok (.aload_n 0, 1) := by decide +kernel
theorem dX10_read_10 : decode cX10_read 10 = .ok (.getfield 9, 3) := by decide +kernel
theorem dX10_read_13 : decode cX10_read 13 = .ok (.iload 4, 2) := by decide +kernel
theorem dX10_read_15 : decode cX10_read 15 = .ok (.aload_n 1, 1) := by decide +kernel
theorem dX10_read_16 : decode cX10_read 16 = .ok (.iload_n 2, 1) := by decide +kernel
theorem dX10_read_17 : decode cX10_read 17 = .ok (.iload 4, 2) := by decide +kernel
theorem dX10_read_19 : decode cX10_read 19 = .ok (.iadd, 1) := by decide +kernel
theorem dX10_read_20 : decode cX10_read 20 = .ok (.baload, 1) := by decide +kernel
theorem dX10_read_21 : decode cX10_read 21 = .ok (.bastore, 1) := by decide +kernel
theorem dX10_read_22 : decode cX10_read 22 = .ok (.iinc 4 1, 3) := by decide +kernel
theorem dX10_read_25 : decode cX10_read 25 = .ok (.goto (-22), 3) := by decide +kernel
theorem dX10_read_28 : decode cX10_read 28 = .ok (.aload_n 0, 1) := by decide +kernel
theorem dX10_read_29 : decode cX10_read 29 = .ok (.iload_n 3, 1) := by decide +kernel
theorem dX10_read_30 : decode cX10_read 30 = .ok (.putfield 98, 3) := by decide +kernel
theorem dX10_read_33 : decode cX10_read 33 = .ok (.aload_n 0, 1) := by decide +kernel
theorem dX10_read_34 : decode cX10_read 34 = .ok (.iconst 0, 1) := by decide +kernel
theorem dX10_read_35 : decode cX10_read 35 = .ok (.putfield 95, 3) := by decide +kernel
theorem dX10_read_38 : decode cX10_read 38 = .ok (.aload_n 0, 1) := by decide +kernel
theorem dX10_read_39 : decode cX10_read 39 = .ok (.iconst 0, 1) := by decide +kernel
theorem dX10_read_40 : decode cX10_read 40 = .ok (.putfield 112, 3) := by decide +kernel
theorem dX10_read_43 : decode cX10_read 43 = .ok (.aload_n 0, 1) := by decide +kernel
theorem dX10_read_44 : decode cX10_read 44 = .ok (.iconst 0, 1) := by decide +kernel
theorem dX10_read_45 : decode cX10_read 45 = .ok (.putfield 109, 3) := by decide +kernel
theorem dX10_read_48 : decode cX10_read 48 = .ok (.aload_n 0, 1) := by decide +kernel
theorem dX10_read_49 : decode cX10_read 49 = .ok (.iconst 0, 1) := by decide +kernel
theorem dX10_read_50 : decode cX10_read 50 = .ok (.putfield 167, 3) := by decide +kernel
theorem dX10_read_53 : decode cX10_read 53 = .ok (.aload_n 0, 1) := by decide +kernel
theorem dX10_read_54 : decode cX10_read 54 = .ok (.bipush 6, 2) := by decide +kernel
theorem dX10_read_56 : decode cX10_read 56 = .ok (.putfield 189, 3) := by decide +kernel
theorem dX10_read_59 : decode cX10_read 59 = .ok (.iconst 0, 1) := by decide +kernel
theorem dX10_read_60 : decode cX10_read 60 = .ok (.istore 4, 2) := by decide +kernel
theorem dX10_read_62 : decode cX10_read 62 = .ok (.iload 4, 2) := by decide +kernel
theorem dX10_read_64 : decode cX10_read 64 = .ok (.bipush 6, 2) := by decide +kernel
theorem dX10_read_66 : decode cX10_read 66 = .ok (.if_icmp .ge 34, 3) := by decide +kernel
theorem dX10_read_69 : decode cX10_read 69 = .ok (.aload_n 0, 1) := by decide +kernel
theorem dX10_read_70 : decode cX10_read 70 = .ok (.getfield 38, 3) := by decide +kernel
theorem dX10_read_73 : decode cX10_read 73 = .ok (.iload 4, 2) := by decide +kernel
theorem dX10_read_75 : decode cX10_read 75 = .ok (.iload 4, 2) := by decide +kernel
theorem dX10_read_77 : decode cX10_read 77 = .ok (.iastore, 1) := by decide +kernel
theorem dX10_read_78 : decode cX10_read 78 = .ok (.aload_n 0, 1) := by decide +kernel
theorem dX10_read_79 : decode cX10_read 79 = .ok (.getfield 41, 3) := by decide +kernel
theorem dX10_read_82 : decode cX10_read 82 = .ok (.iload 4, 2) := by decide +kernel
theorem dX10_read_84 : decode cX10_read 84 = .ok (.iconst (-1), 1) := by decide +kernel
theorem dX10_read_85 : decode cX10_read 85 = .ok (.iastore, 1) := by decide +kernel
theorem dX10_read_86 : decode cX10_read 86 = .ok (.aload_n 0, 1) := by decide +kernel
theorem dX10_read_87 : decode cX10_read 87 = .ok (.getfield 47, 3) := by decide +kernel
theorem dX10_read_90 : decode cX10_read 90 = .ok (.iload 4, 2) := by decide +kernel
theorem dX10_read_92 : decode cX10_read 92 = .ok (.iconst (-1), 1) := by decide +kernel
theorem dX10_read_93 : decode cX10_read 93 = .ok (.iastore, 1) := by decide +kernel
theorem dX10_read_94 : decode cX10_read 94 = .ok (.iinc 4 1, 3) := by decide +kernel
theorem dX10_read_97 : decode cX10_read 97 = .ok (.goto (-35), 3) := by decide +kernel
theorem dX10_read_100 : decode cX10_read 100 = .ok (.aload_n 0, 1) := by decide +kernel
theorem dX10_read_101 : decode cX10_read 101 = .ok (.iconst 0, 1) := by decide +kernel
theorem dX10_read_102 : decode cX10_read 102 = .ok (.putfield 195, 3) := by decide +kernel
theorem dX10_read_105 : decode cX10_read 105 = .ok (.aload_n 0, 1) := by decide +kernel
theorem dX10_read_106 : decode cX10_read 106 = .ok (.iconst 0, 1) := by decide +kernel
theorem dX10_read_107 : decode cX10_read 107 = .ok (.putfield 192, 3) := by decide +kernel
theorem dX10_read_110 : decode cX10_read 110 = .ok (.aload_n 0, 1) := by decide +kernel
theorem dX10_read_111 : decode cX10_read 111 = .ok (.iconst 0, 1) := by decide +kernel
theorem dX10_read_112 : decode cX10_read 112 = .ok (.putfield 271, 3) := by decide +kernel
theorem dX10_read_115 : decode cX10_read 115 = .ok (.aload_n 0, 1) := by decide +kernel
theorem dX10_read_116 : decode cX10_read 116 = .ok (.iconst 0, 1) := by decide +kernel
theorem dX10_read_117 : decode cX10_read 117 = .ok (.putfield 78, 3) := by decide +kernel
