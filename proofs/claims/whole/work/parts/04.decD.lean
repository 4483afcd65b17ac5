theorem dX10_read_120 : decode cX10_read 120 = .ok (.aload_n 0, 1) := by decide +kernel
theorem dX10_read_121 : decode cX10_read 121 = .ok (.iconst (-1), 1) := by decide +kernel
theorem dX10_read_122 : decode cX10_read 122 = .ok (.putfield 82, 3) := by decide +kernel
theorem dX10_read_125 : decode cX10_read 125 = .ok (.aload_n 0, 1) := by decide +kernel
theorem dX10_read_126 : decode cX10_read 126 = .ok (.iconst 0, 1) := by decide +kernel
theorem dX10_read_127 : decode cX10_read 127 = .ok (.putfield 280, 3) := by decide +kernel
theorem dX10_read_130 : decode cX10_read 130 = .ok (.aload_n 0, 1) := by decide +kernel
theorem dX10_read_131 : decode cX10_read 131 = .ok (.invokevirtual 283, 3) := by decide +kernel
theorem dX10_read_134 : decode cX10_read 134 = .ok (.goto 10, 3) := by decide +kernel
theorem dX10_read_137 : decode cX10_read 137 = .ok (.astore 4, 2) := by decide +kernel
theorem dX10_read_139 : decode cX10_read 139 = .ok (.aload_n 0, 1) := by decide +kernel
theorem dX10_read_140 : decode cX10_read 140 = .ok (.getfield 78, 3) := by decide +kernel
theorem dX10_read_143 : decode cX10_read 143 = .ok (.ireturn, 1) := by decide +kernel
theorem dX10_read_144 : decode cX10_read 144 = .ok (.iconst 0, 1) := by decide +kernel
theorem dX10_read_145 : decode cX10_read 145 = .ok (.istore 4, 2) := by decide +kernel
theorem dX10_read_147 : decode cX10_read 147 = .ok (.iload 4, 2) := by decide +kernel
theorem dX10_read_149 : decode cX10_read 149 = .ok (.aload_n 0, 1) := by decide +kernel
theorem dX10_read_150 : decode cX10_read 150 = .ok (.getfield 189, 3) := by decide +kernel
theorem dX10_read_153 : decode cX10_read 153 = .ok (.if_icmp .ge 17, 3) := by decide +kernel
theorem dX10_read_156 : decode cX10_read 156 = .ok (.aload_n 0, 1) := by decide +kernel
theorem dX10_read_157 : decode cX10_read 157 = .ok (.getfield 74, 3) := by decide +kernel
theorem dX10_read_160 : decode cX10_read 160 = .ok (.iload 4, 2) := by decide +kernel
theorem dX10_read_162 : decode cX10_read 162 = .ok (.iconst 0, 1) := by decide +kernel
theorem dX10_read_163 : decode cX10_read 163 = .ok (.bastore, 1) := by decide +kernel
theorem dX10_read_164 : decode cX10_read 164 = .ok (.iinc 4 1, 3) := by decide +kernel
theorem dX10_read_167 : decode cX10_read 167 = .ok (.goto (-20), 3) := by decide +kernel
theorem dX10_read_170 : decode cX10_read 170 = .ok (.aload_n 0, 1) := by decide +kernel
theorem dX10_read_171 : decode cX10_read 171 = .ok (.aload_n 0, 1) := by decide +kernel
theorem dX10_read_172 : decode cX10_read 172 = .ok (.getfield 286, 3) := by decide +kernel
theorem dX10_read_175 : decode cX10_read 175 = .ok (.invokevirtual 289, 3) := by decide +kernel
theorem dX10_read_178 : decode cX10_read 178 = .ok (.iconst 0, 1) := by decide +kernel
theorem dX10_read_179 : decode cX10_read 179 = .ok (.ireturn, 1) := by decide +kernel
theorem dX10_readAll_0 : decode cX10_readAll 0 = .ok (.aload_n 0, 1) := by decide +kernel
theorem dX10_readAll_1 : decode cX10_readAll 1 = .ok (.invokevirtual 149, 3) := by decide +kernel
theorem dX10_readAll_4 : decode cX10_readAll 4 = .ok (.aload_n 0, 1) := by decide +kernel
theorem dX10_readAll_5 : decode cX10_readAll 5 = .ok (.invokevirtual 152, 3) := by decide +kernel
theorem dX10_readAll_8 : decode cX10_readAll 8 = .ok (.istore_n 1, 1) := by decide +kernel
theorem dX10_readAll_9 : decode cX10_readAll 9 = .ok (.aload_n 0, 1) := by decide +kernel
theorem dX10_readAll_10 : decode cX10_readAll 10 = .ok (.aload_n 0, 1) := by decide +kernel
theorem dX10_readAll_11 : decode cX10_readAll 11 = .ok (.getfield 95, 3) := by decide +kernel
theorem dX10_readAll_14 : decode cX10_readAll 14 = .ok (.putfield 292, 3) := by decide +kernel
theorem dX10_readAll_17 : decode cX10_readAll 17 = .ok (.aload_n 0, 1) := by decide +kernel
theorem dX10_readAll_18 : decode cX10_readAll 18 = .ok (.invokevirtual 149, 3) := by decide +kernel
theorem dX10_readAll_21 : decode cX10_readAll 21 = .ok (.aload_n 0, 1) := by decide +kernel
theorem dX10_readAll_22 : decode cX10_readAll 22 = .ok (.aload_n 0, 1) := by decide +kernel
theorem dX10_readAll_23 : decode cX10_readAll 23 = .ok (.getfield 95, 3) := by decide +kernel
theorem dX10_readAll_26 : decode cX10_readAll 26 = .ok (.aload_n 0, 1) := by decide +kernel
theorem dX10_readAll_27 : decode cX10_readAll 27 = .ok (.getfield 98, 3) := by decide +kernel
theorem dX10_readAll_30 : decode cX10_readAll 30 = .ok (.if_icmp .ne 7, 3) := by decide +kernel
theorem dX10_readAll_33 : decode cX10_readAll 33 = .ok (.iconst 1, 1) := by decide +kernel
theorem dX10_readAll_34 : decode cX10_readAll 34 = .ok (.goto 4, 3) := by decide +kernel
theorem dX10_readAll_37 : decode cX10_readAll 37 = .ok (.iconst 0, 1) := by decide +kernel
theorem dX10_readAll_38 : decode cX10_readAll 38 = .ok (.iconst 1, 1) := by decide +kernel
theorem dX10_readAll_39 : decode cX10_readAll 39 = .ok (.aload_n 0, 1) := by decide +kernel
theorem dX10_readAll_40 : decode cX10_readAll 40 = .ok (.getfield 95, 3) := by decide +kernel
theorem dX10_readAll_43 : decode cX10_readAll 43 = .ok (.invokevirtual 105, 3) := by decide +kernel
theorem dX10_readAll_46 : decode cX10_readAll 46 = .ok (.aload_n 0, 1) := by decide +kernel
theorem dX10_readAll_47 : decode cX10_readAll 47 = .ok (.aload_n 0, 1) := by decide +kernel
theorem dX10_readAll_48 : decode cX10_readAll 48 = .ok (.iload_n 1, 1) := by decide +kernel
theorem dX10_readAll_49 : decode cX10_readAll 49 = .ok (.iconst 0, 1) := by decide +kernel
theorem dX10_readAll_50 : decode cX10_readAll 50 = .ok (.iconst 0, 1) := by decide +kernel
theorem dX10_readAll_51 : decode cX10_readAll 51 = .ok (.invokevirtual 229, 3) := by decide +kernel
theorem dX10_readAll_54 : decode cX10_readAll 54 = .ok (.putfield 286, 3) := by decide +kernel
theorem dX10_readAll_57 : decode cX10_readAll 57 = .ok (.iconst 0, 1) := by decide +kernel
theorem dX10_readAll_58 : decode cX10_readAll 58 = .ok (.istore_n 2, 1) := by decide +kernel
theorem dX10_readAll_59 : decode cX10_readAll 59 = .ok (.iload_n 2, 1) := by decide +kernel
theorem dX10_readAll_60 : decode cX10_readAll 60 = .ok (.aload_n 0, 1) := by decide +kernel
theorem dX10_readAll_61 : decode cX10_readAll 61 = .ok (.getfield 271, 3) := by decide +kernel
theorem dX10_readAll_64 : decode cX10_readAll 64 = .ok (.if_icmp .ge 41, 3) := by decide +kernel
theorem dX10_readAll_67 : decode cX10_readAll 67 = .ok (.aload_n 0, 1) := by decide +kernel
theorem dX10_readAll_68 : decode cX10_readAll 68 = .ok (.getfield 68, 3) := by decide +kernel
theorem dX10_readAll_71 : decode cX10_readAll 71 = .ok (.iload_n 2, 1) := by decide +kernel
theorem dX10_readAll_72 : decode cX10_readAll 72 = .ok (.iaload, 1) := by decide +kernel
theorem dX10_readAll_73 : decode cX10_readAll 73 = .ok (.istore_n 3, 1) := by decide +kernel
theorem dX10_readAll_74 : decode cX10_readAll 74 = .ok (.aload_n 0, 1) := by decide +kernel
theorem dX10_readAll_75 : decode cX10_readAll 75 = .ok (.getfield 62, 3) := by decide +kernel
theorem dX10_readAll_78 : decode cX10_readAll 78 = .ok (.iload_n 3, 1) := by decide +kernel
theorem dX10_readAll_79 : decode cX10_readAll 79 = .ok (.iaload, 1) := by decide +kernel
theorem dX10_readAll_80 : decode cX10_readAll 80 = .ok (.ifCond .lt 19, 3) := by decide +kernel
theorem dX10_readAll_83 : decode cX10_readAll 83 = .ok (.aload_n 0, 1) := by decide +kernel
theorem dX10_readAll_84 : decode cX10_readAll 84 = .ok (.aload_n 0, 1) := by decide +kernel
theorem dX10_readAll_85 : decode cX10_readAll 85 = .ok (.getfield 62, 3) := by decide +kernel
theorem dX10_readAll_88 : decode cX10_readAll 88 = .ok (.iload_n 3, 1) := by decide +kernel
theorem dX10_readAll_89 : decode cX10_readAll 89 = .ok (.iaload, 1) := by decide +kernel
theorem dX10_readAll_90 : decode cX10_readAll 90 = .ok (.aload_n 0, 1) := by decide +kernel
theorem dX10_readAll_91 : decode cX10_readAll 91 = .ok (.getfield 56, 3) := by decide +kernel
theorem dX10_readAll_94 : decode cX10_readAll 94 = .ok (.iload_n 3, 1) := by decide +kernel
theorem dX10_readAll_95 : decode cX10_readAll 95 = .ok (.iaload, 1) := by decide +kernel
theorem dX10_readAll_96 : decode cX10_readAll 96 = .ok (.invokevirtual 274, 3) := by decide +kernel
theorem dX10_readAll_99 : decode cX10_readAll 99 = .ok (.iinc 2 1, 3) := by decide +kernel
theorem dX10_readAll_102 : decode cX10_readAll 102 = .ok (.goto (-43), 3) := by decide +kernel
theorem dX10_readAll_105 : decode cX10_readAll 105 = .ok (.return_, 1) := by decide +kernel
theorem dX10_put_0 : decode cX10_put 0 = .ok (.iconst 0, 1) := by decide +kernel
theorem dX10_put_1 : decode cX10_put 1 = .ok (.istore_n 2, 1) := by decide +kernel
theorem dX10_put_2 : decode cX10_put 2 = .ok (.iload_n 2, 1) := by decide +kernel
theorem dX10_put_3 : decode cX10_put 3 = .ok (.aload_n 1, 1) := by decide +kernel
theorem dX10_put_4 : decode cX10_put 4 = .ok (.invokevirtual 137, 3) := by decide +kernel
theorem dX10_put_7 : decode cX10_put 7 = .ok (.if_icmp .ge 34, 3) := by decide +kernel
theorem dX10_put_10 : decode cX10_put 10 = .ok (.aload_n 0, 1) := by decide +kernel
theorem dX10_put_11 : decode cX10_put 11 = .ok (.getfield 71, 3) := by decide +kernel
theorem dX10_put_14 : decode cX10_put 14 = .ok (.aload_n 0, 1) := by decide +kernel
theorem dX10_put_15 : decode cX10_put 15 = .ok (.getfield 280, 3) := by decide +kernel
theorem dX10_put_18 : decode cX10_put 18 = .ok (.aload_n 1, 1) := by decide +kernel
theorem dX10_put_19 : decode cX10_put 19 = .ok (.iload_n 2, 1) := by decide +kernel
theorem dX10_put_20 : decode cX10_put 20 = .ok (.invokevirtual 141, 3) := by decide +kernel
theorem dX10_put_23 : decode cX10_put 23 = .ok (.i2b, 1) := by decide +kernel
theorem dX10_put_24 : decode cX10_put 24 = .ok (.bastore, 1) := by decide +kernel
theorem dX10_put_25 : decode cX10_put 25 = .ok (.aload_n 0, 1) := by decide +kernel
theorem dX10_put_26 : decode cX10_put 26 = .ok (.dup, 1) := by decide +kernel
theorem dX10_put_27 : decode cX10_put 27 = .ok (.getfield 280, 3) := by decide +kernel
theorem dX10_put_30 : decode cX10_put 30 = .ok (.iconst 1, 1) := by decide +kernel
theorem dX10_put_31 : decode cX10_put 31 = .ok (.iadd, 1) := by decide +kernel
theorem dX10_put_32 : decode cX10_put 32 = .ok (.putfield 280, 3) := by decide +kernel
theorem dX10_put_35 : decode cX10_put 35 = .ok (.iinc 2 1, 3) := by decide +kernel
theorem dX10_put_38 : decode cX10_put 38 = .ok (.goto (-36), 3) := by decide +kernel
theorem dX10_put_41 : decode cX10_put 41 = .ok (.return_, 1) := by decide +kernel
theorem dX10_putName_0 : decode cX10_putName 0 = .ok (.aload_n 0, 1) := by decide +kernel
theorem dX10_putName_1 : decode cX10_putName 1 = .ok (.ldc_w 295, 3) := by decide +kernel
theorem dX10_putName_4 : decode cX10_putName 4 = .ok (.invokevirtual 297, 3) := by decide +kernel
theorem dX10_putName_7 : decode cX10_putName 7 = .ok (.iconst 0, 1) := by decide +kernel
theorem dX10_putName_8 : decode cX10_putName 8 = .ok (.istore_n 2, 1) := by decide +kernel
theorem dX10_putName_9 : decode cX10_putName 9 = .ok (.iload_n 2, 1) := by decide +kernel
theorem dX10_putName_10 : decode cX10_putName 10 = .ok (.aload_n 0, 1) := by decide +kernel
theorem dX10_putName_11 : decode cX10_putName 11 = .ok (.getfield 26, 3) := by decide +kernel
theorem dX10_putName_14 : decode cX10_putName 14 = .ok (.iload_n 1, 1) := by decide +kernel
theorem dX10_putName_15 : decode cX10_putName 15 = .ok (.iaload, 1) := by decide +kernel
theorem dX10_putName_16 : decode cX10_putName 16 = .ok (.if_icmp .ge 42, 3) := by decide +kernel
theorem dX10_putName_19 : decode cX10_putName 19 = .ok (.aload_n 0, 1) := by decide +kernel
theorem dX10_putName_20 : decode cX10_putName 20 = .ok (.getfield 71, 3) := by decide +kernel
theorem dX10_putName_23 : decode cX10_putName 23 = .ok (.aload_n 0, 1) := by decide +kernel
theorem dX10_putName_24 : decode cX10_putName 24 = .ok (.getfield 280, 3) := by decide +kernel
theorem dX10_putName_27 : decode cX10_putName 27 = .ok (.aload_n 0, 1) := by decide +kernel
theorem dX10_putName_28 : decode cX10_putName 28 = .ok (.getfield 35, 3) := by decide +kernel
theorem dX10_putName_31 : decode cX10_putName 31 = .ok (.aload_n 0, 1) := by decide +kernel
theorem dX10_putName_32 : decode cX10_putName 32 = .ok (.getfield 22, 3) := by decide +kernel
theorem dX10_putName_35 : decode cX10_putName 35 = .ok (.iload_n 1, 1) := by decide +kernel
theorem dX10_putName_36 : decode cX10_putName 36 = .ok (.laload, 1) := by decide +kernel
theorem dX10_putName_37 : decode cX10_putName 37 = .ok (.l2i, 1) := by decide +kernel
theorem dX10_putName_38 : decode cX10_putName 38 = .ok (.iload_n 2, 1) := by decide +kernel
theorem dX10_putName_39 : decode cX10_putName 39 = .ok (.iadd, 1) := by decide +kernel
theorem dX10_putName_40 : decode cX10_putName 40 = .ok (.baload, 1) := by decide +kernel
theorem dX10_putName_41 : decode cX10_putName 41 = .ok (.bastore, 1) := by decide +kernel
theorem dX10_putName_42 : decode cX10_putName 42 = .ok (.aload_n 0, 1) := by decide +kernel
theorem dX10_putName_43 : decode cX10_putName 43 = .ok (.dup, 1) := by decide +kernel
theorem dX10_putName_44 : decode cX10_putName 44 = .ok (.getfield 280, 3) := by decide +kernel
theorem dX10_putName_47 : decode cX10_putName 47 = .ok (.iconst 1, 1) := by decide +kernel
theorem dX10_putName_48 : decode cX10_putName 48 = .ok (.iadd, 1) := by decide +kernel
theorem dX10_putName_49 : decode cX10_putName 49 = .ok (.putfield 280, 3) := by decide +kernel
theorem dX10_putName_52 : decode cX10_putName 52 = .ok (.iinc 2 1, 3) := by decide +kernel
theorem dX10_putName_55 : decode cX10_putName 55 = .ok (.goto (-46), 3) := by decide +kernel
theorem dX10_putName_58 : decode cX10_putName 58 = .ok (.aload_n 0, 1) := by decide +kernel
theorem dX10_putName_59 : decode cX10_putName 59 = .ok (.ldc_w 295, 3) := by decide +kernel
theorem dX10_putName_62 : decode cX10_putName 62 = .ok (.invokevirtual 297, 3) := by decide +kernel
theorem dX10_putName_65 : decode cX10_putName 65 = .ok (.return_, 1) := by decide +kernel
theorem dX10_write_0 : decode cX10_write 0 = .ok (.aload_n 0, 1) := by decide +kernel
theorem dX10_write_1 : decode cX10_write 1 = .ok (.getfield 38, 3) := by decide +kernel
theorem dX10_write_4 : decode cX10_write 4 = .ok (.iload_n 1, 1) := by decide +kernel
theorem dX10_write_5 : decode cX10_write 5 = .ok (.iaload, 1) := by decide +kernel
theorem dX10_write_6 : decode cX10_write 6 = .ok (.tableswitch 165 6 11 #[38, 38, 87, 157, 157, 157], 38) := by decide +kernel
theorem dX10_write_44 : decode cX10_write 44 = .ok (.aload_n 0, 1) := by decide +kernel
theorem dX10_write_45 : decode cX10_write 45 = .ok (.aload_n 0, 1) := by decide +kernel
theorem dX10_write_46 : decode cX10_write 46 = .ok (.getfield 38, 3) := by decide +kernel
theorem dX10_write_49 : decode cX10_write 49 = .ok (.iload_n 1, 1) := by decide +kernel
theorem dX10_write_50 : decode cX10_write 50 = .ok (.iaload, 1) := by decide +kernel
theorem dX10_write_51 : decode cX10_write 51 = .ok (.bipush 6, 2) := by decide +kernel
theorem dX10_write_53 : decode cX10_write 53 = .ok (.if_icmp .ne 9, 3) := by decide +kernel
theorem dX10_write_56 : decode cX10_write 56 = .ok (.ldc_w 300, 3) := by decide +kernel
theorem dX10_write_59 : decode cX10_write 59 = .ok (.goto 6, 3) := by decide +kernel
theorem dX10_write_62 : decode cX10_write 62 = .ok (.ldc_w 302, 3) := by decide +kernel
theorem dX10_write_65 : decode cX10_write 65 = .ok (.invokevirtual 297, 3) := by decide +kernel
theorem dX10_write_68 : decode cX10_write 68 = .ok (.aload_n 0, 1) := by decide +kernel
theorem dX10_write_69 : decode cX10_write 69 = .ok (.aload_n 0, 1) := by decide +kernel
theorem dX10_write_70 : decode cX10_write 70 = .ok (.getfield 56, 3) := by decide +kernel
theorem dX10_write_73 : decode cX10_write 73 = .ok (.aload_n 0, 1) := by decide +kernel
theorem dX10_write_74 : decode cX10_write 74 = .ok (.getfield 47, 3) := by decide +kernel
theorem dX10_write_77 : decode cX10_write 77 = .ok (.iload_n 1, 1) := by decide +kernel
theorem dX10_write_78 : decode cX10_write 78 = .ok (.iaload, 1) := by decide +kernel
theorem dX10_write_79 : decode cX10_write 79 = .ok (.iaload, 1) := by decide +kernel
theorem dX10_write_80 : decode cX10_write 80 = .ok (.invokevirtual 289, 3) := by decide +kernel
theorem dX10_write_83 : decode cX10_write 83 = .ok (.aload_n 0, 1) := by decide +kernel
theorem dX10_write_84 : decode cX10_write 84 = .ok (.ldc_w 304, 3) := by decide +kernel
theorem dX10_write_87 : decode cX10_write 87 = .ok (.invokevirtual 297, 3) := by decide +kernel
theorem dX10_write_90 : decode cX10_write 90 = .ok (.goto 175, 3) := by decide +kernel
theorem dX10_write_93 : decode cX10_write 93 = .ok (.aload_n 0, 1) := by decide +kernel
theorem dX10_write_94 : decode cX10_write 94 = .ok (.ldc_w 306, 3) := by decide +kernel
theorem dX10_write_97 : decode cX10_write 97 = .ok (.invokevirtual 297, 3) := by decide +kernel
theorem dX10_write_100 : decode cX10_write 100 = .ok (.aload_n 0, 1) := by decide +kernel
theorem dX10_write_101 : decode cX10_write 101 = .ok (.getfield 47, 3) := by decide +kernel
theorem dX10_write_104 : decode cX10_write 104 = .ok (.iload_n 1, 1) := by decide +kernel
theorem dX10_write_105 : decode cX10_write 105 = .ok (.iaload, 1) := by decide +kernel
theorem dX10_write_106 : decode cX10_write 106 = .ok (.istore_n 2, 1) := by decide +kernel
theorem dX10_write_107 : decode cX10_write 107 = .ok (.iload_n 2, 1) := by decide +kernel
theorem dX10_write_108 : decode cX10_write 108 = .ok (.ifCond .lt 45, 3) := by decide +kernel
theorem dX10_write_111 : decode cX10_write 111 = .ok (.aload_n 0, 1) := by decide +kernel
theorem dX10_write_112 : decode cX10_write 112 = .ok (.aload_n 0, 1) := by decide +kernel
theorem dX10_write_113 : decode cX10_write 113 = .ok (.getfield 56, 3) := by decide +kernel
theorem dX10_write_116 : decode cX10_write 116 = .ok (.iload_n 2, 1) := by decide +kernel
theorem dX10_write_117 : decode cX10_write 117 = .ok (.iaload, 1) := by decide +kernel
theorem dX10_write_118 : decode cX10_write 118 = .ok (.invokevirtual 289, 3) := by decide +kernel
theorem dX10_write_121 : decode cX10_write 121 = .ok (.aload_n 0, 1) := by decide +kernel
theorem dX10_write_122 : decode cX10_write 122 = .ok (.aload_n 0, 1) := by decide +kernel
theorem dX10_write_123 : decode cX10_write 123 = .ok (.getfield 65, 3) := by decide +kernel
theorem dX10_write_126 : decode cX10_write 126 = .ok (.iload_n 2, 1) := by decide +kernel
theorem dX10_write_127 : decode cX10_write 127 = .ok (.iaload, 1) := by decide +kernel
theorem dX10_write_128 : decode cX10_write 128 = .ok (.ifCond .lt 9, 3) := by decide +kernel
theorem dX10_write_131 : decode cX10_write 131 = .ok (.ldc_w 308, 3) := by decide +kernel
theorem dX10_write_134 : decode cX10_write 134 = .ok (.goto 6, 3) := by decide +kernel
theorem dX10_write_137 : decode cX10_write 137 = .ok (.ldc_w 310, 3) := by decide +kernel
theorem dX10_write_140 : decode cX10_write 140 = .ok (.invokevirtual 297, 3) := by decide +kernel
theorem dX10_write_143 : decode cX10_write 143 = .ok (.aload_n 0, 1) := by decide +kernel
theorem dX10_write_144 : decode cX10_write 144 = .ok (.getfield 65, 3) := by decide +kernel
theorem dX10_write_147 : decode cX10_write 147 = .ok (.iload_n 2, 1) := by decide +kernel
theorem dX10_write_148 : decode cX10_write 148 = .ok (.iaload, 1) := by decide +kernel
theorem dX10_write_149 : decode cX10_write 149 = .ok (.istore_n 2, 1) := by decide +kernel
theorem dX10_write_150 : decode cX10_write 150 = .ok (.goto (-43), 3) := by decide +kernel
theorem dX10_write_153 : decode cX10_write 153 = .ok (.aload_n 0, 1) := by decide +kernel
theorem dX10_write_154 : decode cX10_write 154 = .ok (.ldc_w 312, 3) := by decide +kernel
theorem dX10_write_157 : decode cX10_write 157 = .ok (.invokevirtual 297, 3) := by decide +kernel
theorem dX10_write_160 : decode cX10_write 160 = .ok (.goto 105, 3) := by decide +kernel
theorem dX10_write_163 : decode cX10_write 163 = .ok (.aload_n 0, 1) := by decide +kernel
theorem dX10_write_164 : decode cX10_write 164 = .ok (.iload_n 1, 1) := by decide +kernel
theorem dX10_write_165 : decode cX10_write 165 = .ok (.invokevirtual 314, 3) := by decide +kernel
theorem dX10_write_168 : decode cX10_write 168 = .ok (.goto 97, 3) := by decide +kernel
theorem dX10_write_171 : decode cX10_write 171 = .ok (.aload_n 0, 1) := by decide +kernel
theorem dX10_write_172 : decode cX10_write 172 = .ok (.ldc_w 295, 3) := by decide +kernel
theorem dX10_write_175 : decode cX10_write 175 = .ok (.invokevirtual 297, 3) := by decide +kernel
theorem dX10_write_178 : decode cX10_write 178 = .ok (.aload_n 0, 1) := by decide +kernel
theorem dX10_write_179 : decode cX10_write 179 = .ok (.aload_n 0, 1) := by decide +kernel
theorem dX10_write_180 : decode cX10_write 180 = .ok (.getfield 38, 3) := by decide +kernel
theorem dX10_write_183 : decode cX10_write 183 = .ok (.iload_n 1, 1) := by decide +kernel
theorem dX10_write_184 : decode cX10_write 184 = .ok (.iaload, 1) := by decide +kernel
theorem dX10_write_185 : decode cX10_write 185 = .ok (.ifCond .ne 8, 3) := by decide +kernel
theorem dX10_write_188 : decode cX10_write 188 = .ok (.ldc 135, 2) := by decide +kernel
theorem dX10_write_190 : decode cX10_write 190 = .ok (.goto 65, 3) := by decide +kernel
theorem dX10_write_193 : decode cX10_write 193 = .ok (.aload_n 0, 1) := by decide +kernel
theorem dX10_write_194 : decode cX10_write 194 = .ok (.getfield 38, 3) := by decide +kernel
theorem dX10_write_197 : decode cX10_write 197 = .ok (.iload_n 1, 1) := by decide +kernel
theorem dX10_write_198 : decode cX10_write 198 = .ok (.iaload, 1) := by decide +kernel
theorem dX10_write_199 : decode cX10_write 199 = .ok (.iconst 1, 1) := by decide +kernel
theorem dX10_write_200 : decode cX10_write 200 = .ok (.if_icmp .ne 8, 3) := by decide +kernel
theorem dX10_write_203 : decode cX10_write 203 = .ok (.ldc 181, 2) := by decide +kernel
theorem dX10_write_205 : decode cX10_write 205 = .ok (.goto 50, 3) := by decide +kernel
theorem dX10_write_208 : decode cX10_write 208 = .ok (.aload_n 0, 1) := by decide +kernel
theorem dX10_write_209 : decode cX10_write 209 = .ok (.getfield 38, 3) := by decide +kernel
theorem dX10_write_212 : decode cX10_write 212 = .ok (.iload_n 1, 1) := by decide +kernel
theorem dX10_write_213 : decode cX10_write 213 = .ok (.iaload, 1) := by decide +kernel
theorem dX10_write_214 : decode cX10_write 214 = .ok (.iconst 2, 1) := by decide +kernel
theorem dX10_write_215 : decode cX10_write 215 = .ok (.if_icmp .ne 8, 3) := by decide +kernel
theorem dX10_write_218 : decode cX10_write 218 = .ok (.ldc 183, 2) := by decide +kernel
theorem dX10_write_220 : decode cX10_write 220 = .ok (.goto 35, 3) := by decide +kernel
theorem dX10_write_223 : decode cX10_write 223 = .ok (.aload_n 0, 1) := by decide +kernel
theorem dX10_write_224 : decode cX10_write 224 = .ok (.getfield 38, 3) := by decide +kernel
theorem dX10_write_227 : decode cX10_write 227 = .ok (.iload_n 1, 1) := by decide +kernel
theorem dX10_write_228 : decode cX10_write 228 = .ok (.iaload, 1) := by decide +kernel
theorem dX10_write_229 : decode cX10_write 229 = .ok (.iconst 3, 1) := by decide +kernel
theorem dX10_write_230 : decode cX10_write 230 = .ok (.if_icmp .ne 8, 3) := by decide +kernel
theorem dX10_write_233 : decode cX10_write 233 = .ok (.ldc 185, 2) := by decide +kernel
theorem dX10_write_235 : decode cX10_write 235 = .ok (.goto 20, 3) := by decide +kernel
theorem dX10_write_238 : decode cX10_write 238 = .ok (.aload_n 0, 1) := by decide +kernel
theorem dX10_write_239 : decode cX10_write 239 = .ok (.getfield 38, 3) := by decide +kernel
theorem dX10_write_242 : decode cX10_write 242 = .ok (.iload_n 1, 1) := by decide +kernel
theorem dX10_write_243 : decode cX10_write 243 = .ok (.iaload, 1) := by decide +kernel
theorem dX10_write_244 : decode cX10_write 244 = .ok (.iconst 4, 1) := by decide +kernel
theorem dX10_write_245 : decode cX10_write 245 = .ok (.if_icmp .ne 8, 3) := by decide +kernel
theorem dX10_write_248 : decode cX10_write 248 = .ok (.ldc 187, 2) := by decide +kernel
theorem dX10_write_250 : decode cX10_write 250 = .ok (.goto 5, 3) := by decide +kernel
theorem dX10_write_253 : decode cX10_write 253 = .ok (.ldc 188, 2) := by decide +kernel
theorem dX10_write_255 : decode cX10_write 255 = .ok (.invokevirtual 297, 3) := by decide +kernel
theorem dX10_write_258 : decode cX10_write 258 = .ok (.aload_n 0, 1) := by decide +kernel
theorem dX10_write_259 : decode cX10_write 259 = .ok (.ldc_w 295, 3) := by decide +kernel
theorem dX10_write_262 : decode cX10_write 262 = .ok (.invokevirtual 297, 3) := by decide +kernel
theorem dX10_write_265 : decode cX10_write 265 = .ok (.return_, 1) := by decide +kernel
theorem dX10_figure_0 : decode cX10_figure 0 = .ok (.aload_n 0, 1) := by decide +kernel
theorem dX10_figure_1 : decode cX10_figure 1 = .ok (.getfield 71, 3) := by decide +kernel
theorem dX10_figure_4 : decode cX10_figure 4 = .ok (.aload_n 0, 1) := by decide +kernel
theorem dX10_figure_5 : decode cX10_figure 5 = .ok (.getfield 280, 3) := by decide +kernel
theorem dX10_figure_8 : decode cX10_figure 8 = .ok (.bipush 48, 2) := by decide +kernel
theorem dX10_figure_10 : decode cX10_figure 10 = .ok (.iload_n 1, 1) := by decide +kernel
theorem dX10_figure_11 : decode cX10_figure 11 = .ok (.iadd, 1) := by decide +kernel
theorem dX10_figure_12 : decode cX10_figure 12 = .ok (.i2b, 1) := by decide +kernel
theorem dX10_figure_13 : decode cX10_figure 13 = .ok (.bastore, 1) := by decide +kernel
theorem dX10_figure_14 : decode cX10_figure 14 = .ok (.aload_n 0, 1) := by decide +kernel
theorem dX10_figure_15 : decode cX10_figure 15 = .ok (.dup, 1) := by decide +kernel
theorem dX10_figure_16 : decode cX10_figure 16 = .ok (.getfield 280, 3) := by decide +kernel
theorem dX10_figure_19 : decode cX10_figure 19 = .ok (.iconst 1, 1) := by decide +kernel
theorem dX10_figure_20 : decode cX10_figure 20 = .ok (.iadd, 1) := by decide +kernel
theorem dX10_figure_21 : decode cX10_figure 21 = .ok (.putfield 280, 3) := by decide +kernel
theorem dX10_figure_24 : decode cX10_figure 24 = .ok (.return_, 1) := by decide +kernel
theorem dX10_writeNamed_0 : decode cX10_writeNamed 0 = .ok (.aload_n 0, 1) := by decide +kernel
theorem dX10_writeNamed_1 : decode cX10_writeNamed 1 = .ok (.getfield 74, 3) := by decide +kernel
theorem dX10_writeNamed_4 : decode cX10_writeNamed 4 = .ok (.iload_n 1, 1) := by decide +kernel
theorem dX10_writeNamed_5 : decode cX10_writeNamed 5 = .ok (.baload, 1) := by decide +kernel
theorem dX10_writeNamed_6 : decode cX10_writeNamed 6 = .ok (.ifCond .eq 14, 3) := by decide +kernel
theorem dX10_writeNamed_9 : decode cX10_writeNamed 9 = .ok (.aload_n 0, 1) := by decide +kernel
theorem dX10_writeNamed_10 : decode cX10_writeNamed 10 = .ok (.aload_n 0, 1) := by decide +kernel
theorem dX10_writeNamed_11 : decode cX10_writeNamed 11 = .ok (.getfield 41, 3) := by decide +kernel
theorem dX10_writeNamed_14 : decode cX10_writeNamed 14 = .ok (.iload_n 1, 1) := by decide +kernel
theorem dX10_writeNamed_15 : decode cX10_writeNamed 15 = .ok (.iaload, 1) := by decide +kernel
theorem dX10_writeNamed_16 : decode cX10_writeNamed 16 = .ok (.invokevirtual 317, 3) := by decide +kernel
theorem dX10_writeNamed_19 : decode cX10_writeNamed 19 = .ok (.return_, 1) := by decide +kernel
theorem dX10_writeNamed_20 : decode cX10_writeNamed 20 = .ok (.aload_n 0, 1) := by decide +kernel
theorem dX10_writeNamed_21 : decode cX10_writeNamed 21 = .ok (.getfield 74, 3) := by decide +kernel
theorem dX10_writeNamed_24 : decode cX10_writeNamed 24 = .ok (.iload_n 1, 1) := by decide +kernel
theorem dX10_writeNamed_25 : decode cX10_writeNamed 25 = .ok (.iconst 1, 1) := by decide +kernel
theorem dX10_writeNamed_26 : decode cX10_writeNamed 26 = .ok (.bastore, 1) := by decide +kernel
theorem dX10_writeNamed_27 : decode cX10_writeNamed 27 = .ok (.aload_n 0, 1) := by decide +kernel
theorem dX10_writeNamed_28 : decode cX10_writeNamed 28 = .ok (.ldc_w 320, 3) := by decide +kernel
theorem dX10_writeNamed_31 : decode cX10_writeNamed 31 = .ok (.invokevirtual 297, 3) := by decide +kernel
theorem dX10_writeNamed_34 : decode cX10_writeNamed 34 = .ok (.aload_n 0, 1) := by decide +kernel
theorem dX10_writeNamed_35 : decode cX10_writeNamed 35 = .ok (.aload_n 0, 1) := by decide +kernel
theorem dX10_writeNamed_36 : decode cX10_writeNamed 36 = .ok (.getfield 41, 3) := by decide +kernel
theorem dX10_writeNamed_39 : decode cX10_writeNamed 39 = .ok (.iload_n 1, 1) := by decide +kernel
theorem dX10_writeNamed_40 : decode cX10_writeNamed 40 = .ok (.iaload, 1) := by decide +kernel
theorem dX10_writeNamed_41 : decode cX10_writeNamed 41 = .ok (.invokevirtual 317, 3) := by decide +kernel
theorem dX10_writeNamed_44 : decode cX10_writeNamed 44 = .ok (.aload_n 0, 1) := by decide +kernel
theorem dX10_writeNamed_45 : decode cX10_writeNamed 45 = .ok (.getfield 38, 3) := by decide +kernel
theorem dX10_writeNamed_48 : decode cX10_writeNamed 48 = .ok (.iload_n 1, 1) := by decide +kernel
theorem dX10_writeNamed_49 : decode cX10_writeNamed 49 = .ok (.iaload, 1) := by decide +kernel
theorem dX10_writeNamed_50 : decode cX10_writeNamed 50 = .ok (.bipush 9, 2) := by decide +kernel
theorem dX10_writeNamed_52 : decode cX10_writeNamed 52 = .ok (.if_icmp .ne 55, 3) := by decide +kernel
theorem dX10_writeNamed_55 : decode cX10_writeNamed 55 = .ok (.aload_n 0, 1) := by decide +kernel
theorem dX10_writeNamed_56 : decode cX10_writeNamed 56 = .ok (.ldc_w 322, 3) := by decide +kernel
theorem dX10_writeNamed_59 : decode cX10_writeNamed 59 = .ok (.invokevirtual 297, 3) := by decide +kernel
theorem dX10_writeNamed_62 : decode cX10_writeNamed 62 = .ok (.aload_n 0, 1) := by decide +kernel
theorem dX10_writeNamed_63 : decode cX10_writeNamed 63 = .ok (.getfield 44, 3) := by decide +kernel
theorem dX10_writeNamed_66 : decode cX10_writeNamed 66 = .ok (.iload_n 1, 1) := by decide +kernel
theorem dX10_writeNamed_67 : decode cX10_writeNamed 67 = .ok (.iaload, 1) := by decide +kernel
theorem dX10_writeNamed_68 : decode cX10_writeNamed 68 = .ok (.bipush 9, 2) := by decide +kernel
theorem dX10_writeNamed_70 : decode cX10_writeNamed 70 = .ok (.if_icmp .le 16, 3) := by decide +kernel
theorem dX10_writeNamed_73 : decode cX10_writeNamed 73 = .ok (.aload_n 0, 1) := by decide +kernel
theorem dX10_writeNamed_74 : decode cX10_writeNamed 74 = .ok (.aload_n 0, 1) := by decide +kernel
theorem dX10_writeNamed_75 : decode cX10_writeNamed 75 = .ok (.getfield 44, 3) := by decide +kernel
theorem dX10_writeNamed_78 : decode cX10_writeNamed 78 = .ok (.iload_n 1, 1) := by decide +kernel
theorem dX10_writeNamed_79 : decode cX10_writeNamed 79 = .ok (.iaload, 1) := by decide +kernel
theorem dX10_writeNamed_80 : decode cX10_writeNamed 80 = .ok (.bipush 10, 2) := by decide +kernel
theorem dX10_writeNamed_82 : decode cX10_writeNamed 82 = .ok (.idiv, 1) := by decide +kernel
theorem dX10_writeNamed_83 : decode cX10_writeNamed 83 = .ok (.invokevirtual 324, 3) := by decide +kernel
theorem dX10_writeNamed_86 : decode cX10_writeNamed 86 = .ok (.aload_n 0, 1) := by decide +kernel
theorem dX10_writeNamed_87 : decode cX10_writeNamed 87 = .ok (.aload_n 0, 1) := by decide +kernel
theorem dX10_writeNamed_88 : decode cX10_writeNamed 88 = .ok (.getfield 44, 3) := by decide +kernel
theorem dX10_writeNamed_91 : decode cX10_writeNamed 91 = .ok (.iload_n 1, 1) := by decide +kernel
theorem dX10_writeNamed_92 : decode cX10_writeNamed 92 = .ok (.iaload, 1) := by decide +kernel
theorem dX10_writeNamed_93 : decode cX10_writeNamed 93 = .ok (.bipush 10, 2) := by decide +kernel
theorem dX10_writeNamed_95 : decode cX10_writeNamed 95 = .ok (.irem, 1) := by decide +kernel
theorem dX10_writeNamed_96 : decode cX10_writeNamed 96 = .ok (.invokevirtual 324, 3) := by decide +kernel
theorem dX10_writeNamed_99 : decode cX10_writeNamed 99 = .ok (.aload_n 0, 1) := by decide +kernel
theorem dX10_writeNamed_100 : decode cX10_writeNamed 100 = .ok (.ldc_w 304, 3) := by decide +kernel
theorem dX10_writeNamed_103 : decode cX10_writeNamed 103 = .ok (.invokevirtual 297, 3) := by decide +kernel
theorem dX10_writeNamed_106 : decode cX10_writeNamed 106 = .ok (.return_, 1) := by decide +kernel
theorem dX10_writeNamed_107 : decode cX10_writeNamed 107 = .ok (.aload_n 0, 1) := by decide +kernel
theorem dX10_writeNamed_108 : decode cX10_writeNamed 108 = .ok (.aload_n 0, 1) := by decide +kernel
theorem dX10_writeNamed_109 : decode cX10_writeNamed 109 = .ok (.getfield 38, 3) := by decide +kernel
theorem dX10_writeNamed_112 : decode cX10_writeNamed 112 = .ok (.iload_n 1, 1) := by decide +kernel
theorem dX10_writeNamed_113 : decode cX10_writeNamed 113 = .ok (.iaload, 1) := by decide +kernel
theorem dX10_writeNamed_114 : decode cX10_writeNamed 114 = .ok (.bipush 10, 2) := by decide +kernel
theorem dX10_writeNamed_116 : decode cX10_writeNamed 116 = .ok (.if_icmp .ne 9, 3) := by decide +kernel
theorem dX10_writeNamed_119 : decode cX10_writeNamed 119 = .ok (.ldc_w 327, 3) := by decide +kernel
theorem dX10_writeNamed_122 : decode cX10_writeNamed 122 = .ok (.goto 6, 3) := by decide +kernel
theorem dX10_writeNamed_125 : decode cX10_writeNamed 125 = .ok (.ldc_w 329, 3) := by decide +kernel
theorem dX10_writeNamed_128 : decode cX10_writeNamed 128 = .ok (.invokevirtual 297, 3) := by decide +kernel
theorem dX10_writeNamed_131 : decode cX10_writeNamed 131 = .ok (.aload_n 0, 1) := by decide +kernel
theorem dX10_writeNamed_132 : decode cX10_writeNamed 132 = .ok (.getfield 47, 3) := by decide +kernel
theorem dX10_writeNamed_135 : decode cX10_writeNamed 135 = .ok (.iload_n 1, 1) := by decide +kernel
theorem dX10_writeNamed_136 : decode cX10_writeNamed 136 = .ok (.iaload, 1) := by decide +kernel
theorem dX10_writeNamed_137 : decode cX10_writeNamed 137 = .ok (.istore_n 2, 1) := by decide +kernel
theorem dX10_writeNamed_138 : decode cX10_writeNamed 138 = .ok (.iload_n 2, 1) := by decide +kernel
theorem dX10_writeNamed_139 : decode cX10_writeNamed 139 = .ok (.ifCond .lt 98, 3) := by decide +kernel
theorem dX10_writeNamed_142 : decode cX10_writeNamed 142 = .ok (.aload_n 0, 1) := by decide +kernel
theorem dX10_writeNamed_143 : decode cX10_writeNamed 143 = .ok (.getfield 38, 3) := by decide +kernel
theorem dX10_writeNamed_146 : decode cX10_writeNamed 146 = .ok (.iload_n 1, 1) := by decide +kernel
theorem dX10_writeNamed_147 : decode cX10_writeNamed 147 = .ok (.iaload, 1) := by decide +kernel
theorem dX10_writeNamed_148 : decode cX10_writeNamed 148 = .ok (.bipush 11, 2) := by decide +kernel
theorem dX10_writeNamed_150 : decode cX10_writeNamed 150 = .ok (.if_icmp .ne 10, 3) := by decide +kernel
theorem dX10_writeNamed_153 : decode cX10_writeNamed 153 = .ok (.aload_n 0, 1) := by decide +kernel
theorem dX10_writeNamed_154 : decode cX10_writeNamed 154 = .ok (.ldc_w 320, 3) := by decide +kernel
theorem dX10_writeNamed_157 : decode cX10_writeNamed 157 = .ok (.invokevirtual 297, 3) := by decide +kernel
theorem dX10_writeNamed_160 : decode cX10_writeNamed 160 = .ok (.aload_n 0, 1) := by decide +kernel
theorem dX10_writeNamed_161 : decode cX10_writeNamed 161 = .ok (.aload_n 0, 1) := by decide +kernel
theorem dX10_writeNamed_162 : decode cX10_writeNamed 162 = .ok (.getfield 59, 3) := by decide +kernel
theorem dX10_writeNamed_165 : decode cX10_writeNamed 165 = .ok (.iload_n 2, 1) := by decide +kernel
theorem dX10_writeNamed_166 : decode cX10_writeNamed 166 = .ok (.iaload, 1) := by decide +kernel
theorem dX10_writeNamed_167 : decode cX10_writeNamed 167 = .ok (.invokevirtual 317, 3) := by decide +kernel
theorem dX10_writeNamed_170 : decode cX10_writeNamed 170 = .ok (.aload_n 0, 1) := by decide +kernel
theorem dX10_writeNamed_171 : decode cX10_writeNamed 171 = .ok (.getfield 38, 3) := by decide +kernel
theorem dX10_writeNamed_174 : decode cX10_writeNamed 174 = .ok (.iload_n 1, 1) := by decide +kernel
theorem dX10_writeNamed_175 : decode cX10_writeNamed 175 = .ok (.iaload, 1) := by decide +kernel
theorem dX10_writeNamed_176 : decode cX10_writeNamed 176 = .ok (.bipush 11, 2) := by decide +kernel
theorem dX10_writeNamed_178 : decode cX10_writeNamed 178 = .ok (.if_icmp .ne 27, 3) := by decide +kernel
theorem dX10_writeNamed_181 : decode cX10_writeNamed 181 = .ok (.aload_n 0, 1) := by decide +kernel
theorem dX10_writeNamed_182 : decode cX10_writeNamed 182 = .ok (.ldc_w 331, 3) := by decide +kernel
theorem dX10_writeNamed_185 : decode cX10_writeNamed 185 = .ok (.invokevirtual 297, 3) := by decide +kernel
theorem dX10_writeNamed_188 : decode cX10_writeNamed 188 = .ok (.aload_n 0, 1) := by decide +kernel
theorem dX10_writeNamed_189 : decode cX10_writeNamed 189 = .ok (.aload_n 0, 1) := by decide +kernel
theorem dX10_writeNamed_190 : decode cX10_writeNamed 190 = .ok (.getfield 56, 3) := by decide +kernel
theorem dX10_writeNamed_193 : decode cX10_writeNamed 193 = .ok (.iload_n 2, 1) := by decide +kernel
theorem dX10_writeNamed_194 : decode cX10_writeNamed 194 = .ok (.iaload, 1) := by decide +kernel
theorem dX10_writeNamed_195 : decode cX10_writeNamed 195 = .ok (.invokevirtual 289, 3) := by decide +kernel
theorem dX10_writeNamed_198 : decode cX10_writeNamed 198 = .ok (.aload_n 0, 1) := by decide +kernel
theorem dX10_writeNamed_199 : decode cX10_writeNamed 199 = .ok (.ldc_w 304, 3) := by decide +kernel
theorem dX10_writeNamed_202 : decode cX10_writeNamed 202 = .ok (.invokevirtual 297, 3) := by decide +kernel
theorem dX10_writeNamed_205 : decode cX10_writeNamed 205 = .ok (.aload_n 0, 1) := by decide +kernel
theorem dX10_writeNamed_206 : decode cX10_writeNamed 206 = .ok (.aload_n 0, 1) := by decide +kernel
theorem dX10_writeNamed_207 : decode cX10_writeNamed 207 = .ok (.getfield 65, 3) := by decide +kernel
theorem dX10_writeNamed_210 : decode cX10_writeNamed 210 = .ok (.iload_n 2, 1) := by decide +kernel
theorem dX10_writeNamed_211 : decode cX10_writeNamed 211 = .ok (.iaload, 1) := by decide +kernel
theorem dX10_writeNamed_212 : decode cX10_writeNamed 212 = .ok (.ifCond .lt 9, 3) := by decide +kernel
theorem dX10_writeNamed_215 : decode cX10_writeNamed 215 = .ok (.ldc_w 308, 3) := by decide +kernel
theorem dX10_writeNamed_218 : decode cX10_writeNamed 218 = .ok (.goto 6, 3) := by decide +kernel
theorem dX10_writeNamed_221 : decode cX10_writeNamed 221 = .ok (.ldc_w 310, 3) := by decide +kernel
theorem dX10_writeNamed_224 : decode cX10_writeNamed 224 = .ok (.invokevirtual 297, 3) := by decide +kernel
theorem dX10_writeNamed_227 : decode cX10_writeNamed 227 = .ok (.aload_n 0, 1) := by decide +kernel
theorem dX10_writeNamed_228 : decode cX10_writeNamed 228 = .ok (.getfield 65, 3) := by decide +kernel
theorem dX10_writeNamed_231 : decode cX10_writeNamed 231 = .ok (.iload_n 2, 1) := by decide +kernel
theorem dX10_writeNamed_232 : decode cX10_writeNamed 232 = .ok (.iaload, 1) := by decide +kernel
theorem dX10_writeNamed_233 : decode cX10_writeNamed 233 = .ok (.istore_n 2, 1) := by decide +kernel
theorem dX10_writeNamed_234 : decode cX10_writeNamed 234 = .ok (.goto (-96), 3) := by decide +kernel
theorem dX10_writeNamed_237 : decode cX10_writeNamed 237 = .ok (.aload_n 0, 1) := by decide +kernel
theorem dX10_writeNamed_238 : decode cX10_writeNamed 238 = .ok (.ldc_w 333, 3) := by decide +kernel
theorem dX10_writeNamed_241 : decode cX10_writeNamed 241 = .ok (.invokevirtual 297, 3) := by decide +kernel
theorem dX10_writeNamed_244 : decode cX10_writeNamed 244 = .ok (.return_, 1) := by decide +kernel
theorem dX11_init_0 : decode cX11_init 0 = .ok (.aload_n 0, 1) := by decide +kernel
theorem dX11_init_1 : decode cX11_init 1 = .ok (.invokespecial 1, 3) := by decide +kernel
theorem dX11_init_4 : decode cX11_init 4 = .ok (.aload_n 0, 1) := by decide +kernel
theorem dX11_init_5 : decode cX11_init 5 = .ok (.sipush 4096, 3) := by decide +kernel
theorem dX11_init_8 : decode cX11_init 8 = .ok (.newarray .byte, 2) := by decide +kernel
theorem dX11_init_10 : decode cX11_init 10 = .ok (.putfield 7, 3) := by decide +kernel
theorem dX11_init_13 : decode cX11_init 13 = .ok (.aload_n 0, 1) := by decide +kernel
theorem dX11_init_14 : decode cX11_init 14 = .ok (.iconst (-1), 1) := by decide +kernel
theorem dX11_init_15 : decode cX11_init 15 = .ok (.putfield 13, 3) := by decide +kernel
theorem dX11_init_18 : decode cX11_init 18 = .ok (.aload_n 0, 1) := by decide +kernel
theorem dX11_init_19 : decode cX11_init 19 = .ok (.new 17, 3) := by decide +kernel
theorem dX11_init_22 : decode cX11_init 22 = .ok (.dup, 1) := by decide +kernel
theorem dX11_init_23 : decode cX11_init 23 = .ok (.invokespecial 19, 3) := by decide +kernel
theorem dX11_init_26 : decode cX11_init 26 = .ok (.putfield 20, 3) := by decide +kernel
theorem dX11_init_29 : decode cX11_init 29 = .ok (.aload_n 0, 1) := by decide +kernel
theorem dX11_init_30 : decode cX11_init 30 = .ok (.new 17, 3) := by decide +kernel
theorem dX11_init_33 : decode cX11_init 33 = .ok (.dup, 1) := by decide +kernel
theorem dX11_init_34 : decode cX11_init 34 = .ok (.invokespecial 19, 3) := by decide +kernel
theorem dX11_init_37 : decode cX11_init 37 = .ok (.putfield 24, 3) := by decide +kernel
theorem dX11_init_40 : decode cX11_init 40 = .ok (.aload_n 0, 1) := by decide +kernel
theorem dX11_init_41 : decode cX11_init 41 = .ok (.ldc 27, 2) := by decide +kernel
theorem dX11_init_43 : decode cX11_init 43 = .ok (.newarray .byte, 2) := by decide +kernel
theorem dX11_init_45 : decode cX11_init 45 = .ok (.putfield 28, 3) := by decide +kernel
theorem dX11_init_48 : decode cX11_init 48 = .ok (.aload_n 0, 1) := by decide +kernel
theorem dX11_init_49 : decode cX11_init 49 = .ok (.bipush 8, 2) := by decide +kernel
theorem dX11_init_51 : decode cX11_init 51 = .ok (.newarray .int, 2) := by decide +kernel
theorem dX11_init_53 : decode cX11_init 53 = .ok (.putfield 31, 3) := by decide +kernel
theorem dX11_init_56 : decode cX11_init 56 = .ok (.aload_n 0, 1) := by decide +kernel
theorem dX11_init_57 : decode cX11_init 57 = .ok (.sipush 4200, 3) := by decide +kernel
theorem dX11_init_60 : decode cX11_init 60 = .ok (.newarray .byte, 2) := by decide +kernel
theorem dX11_init_62 : decode cX11_init 62 = .ok (.putfield 35, 3) := by decide +kernel
theorem dX11_init_65 : decode cX11_init 65 = .ok (.aload_n 0, 1) := by decide +kernel
theorem dX11_init_66 : decode cX11_init 66 = .ok (.iconst (-1), 1) := by decide +kernel
theorem dX11_init_67 : decode cX11_init 67 = .ok (.putfield 38, 3) := by decide +kernel
theorem dX11_init_70 : decode cX11_init 70 = .ok (.aload_n 0, 1) := by decide +kernel
theorem dX11_init_71 : decode cX11_init 71 = .ok (.sipush 4200, 3) := by decide +kernel
theorem dX11_init_74 : decode cX11_init 74 = .ok (.newarray .byte, 2) := by decide +kernel
theorem dX11_init_76 : decode cX11_init 76 = .ok (.putfield 41, 3) := by decide +kernel
theorem dX11_init_79 : decode cX11_init 79 = .ok (.aload_n 0, 1) := by decide +kernel
theorem dX11_init_80 : decode cX11_init 80 = .ok (.sipush 4200, 3) := by decide +kernel
theorem dX11_init_83 : decode cX11_init 83 = .ok (.newarray .byte, 2) := by decide +kernel
theorem dX11_init_85 : decode cX11_init 85 = .ok (.putfield 44, 3) := by decide +kernel
theorem dX11_init_88 : decode cX11_init 88 = .ok (.aload_n 0, 1) := by decide +kernel
theorem dX11_init_89 : decode cX11_init 89 = .ok (.sipush 19600, 3) := by decide +kernel
theorem dX11_init_92 : decode cX11_init 92 = .ok (.newarray .boolean, 2) := by decide +kernel
theorem dX11_init_94 : decode cX11_init 94 = .ok (.putfield 47, 3) := by decide +kernel
theorem dX11_init_97 : decode cX11_init 97 = .ok (.aload_n 0, 1) := by decide +kernel
theorem dX11_init_98 : decode cX11_init 98 = .ok (.sipush 19600, 3) := by decide +kernel
theorem dX11_init_101 : decode cX11_init 101 = .ok (.newarray .int, 2) := by decide +kernel
theorem dX11_init_103 : decode cX11_init 103 = .ok (.putfield 51, 3) := by decide +kernel
theorem dX11_init_106 : decode cX11_init 106 = .ok (.iconst 0, 1) := by decide +kernel
theorem dX11_init_107 : decode cX11_init 107 = .ok (.istore_n 1, 1) := by decide +kernel
theorem dX11_init_108 : decode cX11_init 108 = .ok (.iload_n 1, 1) := by decide +kernel
theorem dX11_init_109 : decode cX11_init 109 = .ok (.bipush 8, 2) := by decide +kernel
theorem dX11_init_111 : decode cX11_init 111 = .ok (.if_icmp .ge 16, 3) := by decide +kernel
theorem dX11_init_114 : decode cX11_init 114 = .ok (.aload_n 0, 1) := by decide +kernel
theorem dX11_init_115 : decode cX11_init 115 = .ok (.getfield 31, 3) := by decide +kernel
theorem dX11_init_118 : decode cX11_init 118 = .ok (.iload_n 1, 1) := by decide +kernel
theorem dX11_init_119 : decode cX11_init 119 = .ok (.iconst (-1), 1) := by decide +kernel
theorem dX11_init_120 : decode cX11_init 120 = .ok (.iastore, 1) := by decide +kernel
theorem dX11_init_121 : decode cX11_init 121 = .ok (.iinc 1 1, 3) := by decide +kernel
theorem dX11_init_124 : decode cX11_init 124 = .ok (.goto (-16), 3) := by decide +kernel
theorem dX11_init_127 : decode cX11_init 127 = .ok (.return_, 1) := by decide +kernel
theorem dX11_thrown_0 : decode cX11_thrown 0 = .ok (.aload_n 0, 1) := by decide +kernel
theorem dX11_thrown_1 : decode cX11_thrown 1 = .ok (.getfield 54, 3) := by decide +kernel
theorem dX11_thrown_4 : decode cX11_thrown 4 = .ok (.ireturn, 1) := by decide +kernel
theorem dX11_refused_0 : decode cX11_refused 0 = .ok (.aload_n 0, 1) := by decide +kernel
theorem dX11_refused_1 : decode cX11_refused 1 = .ok (.iload_n 1, 1) := by decide +kernel
theorem dX11_refused_2 : decode cX11_refused 2 = .ok (.ifCond .eq 7, 3) := by decide +kernel
theorem dX11_refused_5 : decode cX11_refused 5 = .ok (.iconst 1, 1) := by decide +kernel
theorem dX11_refused_6 : decode cX11_refused 6 = .ok (.goto 12, 3) := by decide +kernel
theorem dX11_refused_9 : decode cX11_refused 9 = .ok (.iload_n 2, 1) := by decide +kernel
theorem dX11_refused_10 : decode cX11_refused 10 = .ok (.ifCond .eq 7, 3) := by decide +kernel
theorem dX11_refused_13 : decode cX11_refused 13 = .ok (.iconst 2, 1) := by decide +kernel
theorem dX11_refused_14 : decode cX11_refused 14 = .ok (.goto 4, 3) := by decide +kernel
theorem dX11_refused_17 : decode cX11_refused 17 = .ok (.iconst 0, 1) := by decide +kernel
theorem dX11_refused_18 : decode cX11_refused 18 = .ok (.putfield 54, 3) := by decide +kernel
theorem dX11_refused_21 : decode cX11_refused 21 = .ok (.aload_n 0, 1) := by decide +kernel
theorem dX11_refused_22 : decode cX11_refused 22 = .ok (.getfield 54, 3) := by decide +kernel
theorem dX11_refused_25 : decode cX11_refused 25 = .ok (.ifCond .le 7, 3) := by decide +kernel
theorem dX11_refused_28 : decode cX11_refused 28 = .ok (.iconst 1, 1) := by decide +kernel
theorem dX11_refused_29 : decode cX11_refused 29 = .ok (.goto 4, 3) := by decide +kernel
theorem dX11_refused_32 : decode cX11_refused 32 = .ok (.iconst 0, 1) := by decide +kernel
theorem dX11_refused_33 : decode cX11_refused 33 = .ok (.ireturn, 1) := by decide +kernel
theorem dX11_within_0 : decode cX11_within 0 = .ok (.iload_n 0, 1) := by decide +kernel
theorem dX11_within_1 : decode cX11_within 1 = .ok (.iload_n 1, 1) := by decide +kernel
theorem dX11_within_2 : decode cX11_within 2 = .ok (.if_icmp .lt 12, 3) := by decide +kernel
theorem dX11_within_5 : decode cX11_within 5 = .ok (.iload_n 0, 1) := by decide +kernel
theorem dX11_within_6 : decode cX11_within 6 = .ok (.iload_n 2, 1) := by decide +kernel
theorem dX11_within_7 : decode cX11_within 7 = .ok (.if_icmp .gt 7, 3) := by decide +kernel
theorem dX11_within_10 : decode cX11_within 10 = .ok (.iconst 1, 1) := by decide +kernel
theorem dX11_within_11 : decode cX11_within 11 = .ok (.goto 4, 3) := by decide +kernel
theorem dX11_within_14 : decode cX11_within 14 = .ok (.iconst 0, 1) := by decide +kernel
theorem dX11_within_15 : decode cX11_within 15 = .ok (.ireturn, 1) := by decide +kernel
theorem dX11_addInt_0 : decode cX11_addInt 0 = .ok (.bipush 24, 2) := by decide +kernel
theorem dX11_addInt_2 : decode cX11_addInt 2 = .ok (.istore_n 2, 1) := by decide +kernel
theorem dX11_addInt_3 : decode cX11_addInt 3 = .ok (.iload_n 2, 1) := by decide +kernel
theorem dX11_addInt_4 : decode cX11_addInt 4 = .ok (.ifCond .lt 32, 3) := by decide +kernel
theorem dX11_addInt_7 : decode cX11_addInt 7 = .ok (.aload_n 0, 1) := by decide +kernel
theorem dX11_addInt_8 : decode cX11_addInt 8 = .ok (.getfield 7, 3) := by decide +kernel
theorem dX11_addInt_11 : decode cX11_addInt 11 = .ok (.aload_n 0, 1) := by decide +kernel
theorem dX11_addInt_12 : decode cX11_addInt 12 = .ok (.getfield 57, 3) := by decide +kernel
theorem dX11_addInt_15 : decode cX11_addInt 15 = .ok (.iload_n 1, 1) := by decide +kernel
theorem dX11_addInt_16 : decode cX11_addInt 16 = .ok (.iload_n 2, 1) := by decide +kernel
theorem dX11_addInt_17 : decode cX11_addInt 17 = .ok (.ishr, 1) := by decide +kernel
theorem dX11_addInt_18 : decode cX11_addInt 18 = .ok (.i2b, 1) := by decide +kernel
theorem dX11_addInt_19 : decode cX11_addInt 19 = .ok (.bastore, 1) := by decide +kernel
theorem dX11_addInt_20 : decode cX11_addInt 20 = .ok (.aload_n 0, 1) := by decide +kernel
theorem dX11_addInt_21 : decode cX11_addInt 21 = .ok (.dup, 1) := by decide +kernel
theorem dX11_addInt_22 : decode cX11_addInt 22 = .ok (.getfield 57, 3) := by decide +kernel
theorem dX11_addInt_25 : decode cX11_addInt 25 = .ok (.iconst 1, 1) := by decide +kernel
theorem dX11_addInt_26 : decode cX11_addInt 26 = .ok (.iadd, 1) := by decide +kernel
theorem dX11_addInt_27 : decode cX11_addInt 27 = .ok (.putfield 57, 3) := by decide +kernel
theorem dX11_addInt_30 : decode cX11_addInt 30 = .ok (.iinc 2 (-8), 3) := by decide +kernel
theorem dX11_addInt_33 : decode cX11_addInt 33 = .ok (.goto (-30), 3) := by decide +kernel
theorem dX11_addInt_36 : decode cX11_addInt 36 = .ok (.return_, 1) := by decide +kernel
theorem dX11_feed_0 : decode cX11_feed 0 = .ok (.aload_n 0, 1) := by decide +kernel
theorem dX11_feed_1 : decode cX11_feed 1 = .ok (.aload_n 0, 1) := by decide +kernel
theorem dX11_feed_2 : decode cX11_feed 2 = .ok (.getfield 57, 3) := by decide +kernel
theorem dX11_feed_5 : decode cX11_feed 5 = .ok (.bipush 20, 2) := by decide +kernel
theorem dX11_feed_7 : decode cX11_feed 7 = .ok (.iadd, 1) := by decide +kernel
theorem dX11_feed_8 : decode cX11_feed 8 = .ok (.sipush 4096, 3) := by decide +kernel
theorem dX11_feed_11 : decode cX11_feed 11 = .ok (.if_icmp .le 7, 3) := by decide +kernel
theorem dX11_feed_14 : decode cX11_feed 14 = .ok (.iconst 1, 1) := by decide +kernel
theorem dX11_feed_15 : decode cX11_feed 15 = .ok (.goto 4, 3) := by decide +kernel
theorem dX11_feed_18 : decode cX11_feed 18 = .ok (.iconst 0, 1) := by decide +kernel
theorem dX11_feed_19 : decode cX11_feed 19 = .ok (.iconst 0, 1) := by decide +kernel
theorem dX11_feed_20 : decode cX11_feed 20 = .ok (.invokevirtual 60, 3) := by decide +kernel
theorem dX11_feed_23 : decode cX11_feed 23 = .ok (.ifCond .eq 5, 3) := by decide +kernel
theorem dX11_feed_26 : decode cX11_feed 26 = .ok (.iconst 0, 1) := by decide +kernel
theorem dX11_feed_27 : decode cX11_feed 27 = .ok (.ireturn, 1) := by decide +kernel
theorem dX11_feed_28 : decode cX11_feed 28 = .ok (.aload_n 0, 1) := by decide +kernel
theorem dX11_feed_29 : decode cX11_feed 29 = .ok (.iload_n 1, 1) := by decide +kernel
theorem dX11_feed_30 : decode cX11_feed 30 = .ok (.invokevirtual 64, 3) := by decide +kernel
theorem dX11_feed_33 : decode cX11_feed 33 = .ok (.aload_n 0, 1) := by decide +kernel
theorem dX11_feed_34 : decode cX11_feed 34 = .ok (.iload_n 2, 1) := by decide +kernel
theorem dX11_feed_35 : decode cX11_feed 35 = .ok (.invokevirtual 64, 3) := by decide +kernel
theorem dX11_feed_38 : decode cX11_feed 38 = .ok (.aload_n 0, 1) := by decide +kernel
theorem dX11_feed_39 : decode cX11_feed 39 = .ok (.iload_n 3, 1) := by decide +kernel
theorem dX11_feed_40 : decode cX11_feed 40 = .ok (.invokevirtual 64, 3) := by decide +kernel
theorem dX11_feed_43 : decode cX11_feed 43 = .ok (.aload_n 0, 1) := by decide +kernel
theorem dX11_feed_44 : decode cX11_feed 44 = .ok (.iload 4, 2) := by decide +kernel
theorem dX11_feed_46 : decode cX11_feed 46 = .ok (.invokevirtual 64, 3) := by decide +kernel
theorem dX11_feed_49 : decode cX11_feed 49 = .ok (.aload_n 0, 1) := by decide +kernel
theorem dX11_feed_50 : decode cX11_feed 50 = .ok (.iload 5, 2) := by decide +kernel
theorem dX11_feed_52 : decode cX11_feed 52 = .ok (.invokevirtual 64, 3) := by decide +kernel
theorem dX11_feed_55 : decode cX11_feed 55 = .ok (.aload_n 0, 1) := by decide +kernel
theorem dX11_feed_56 : decode cX11_feed 56 = .ok (.getfield 57, 3) := by decide +kernel
theorem dX11_feed_59 : decode cX11_feed 59 = .ok (.ireturn, 1) := by decide +kernel
theorem dX11_end_0 : decode cX11_end 0 = .ok (.aload_n 0, 1) := by decide +kernel
theorem dX11_end_1 : decode cX11_end 1 = .ok (.iload_n 1, 1) := by decide +kernel
theorem dX11_end_2 : decode cX11_end 2 = .ok (.iconst 0, 1) := by decide +kernel
theorem dX11_end_3 : decode cX11_end 3 = .ok (.aload_n 0, 1) := by decide +kernel
theorem dX11_end_4 : decode cX11_end 4 = .ok (.getfield 57, 3) := by decide +kernel
theorem dX11_end_7 : decode cX11_end 7 = .ok (.invokestatic 68, 3) := by decide +kernel
theorem dX11_end_10 : decode cX11_end 10 = .ok (.ifCond .ne 7, 3) := by decide +kernel
theorem dX11_end_13 : decode cX11_end 13 = .ok (.iconst 1, 1) := by decide +kernel
theorem dX11_end_14 : decode cX11_end 14 = .ok (.goto 4, 3) := by decide +kernel
theorem dX11_end_17 : decode cX11_end 17 = .ok (.iconst 0, 1) := by decide +kernel
theorem dX11_end_18 : decode cX11_end 18 = .ok (.iconst 0, 1) := by decide +kernel
theorem dX11_end_19 : decode cX11_end 19 = .ok (.invokevirtual 60, 3) := by decide +kernel
theorem dX11_end_22 : decode cX11_end 22 = .ok (.ifCond .ne 8, 3) := by decide +kernel
theorem dX11_end_25 : decode cX11_end 25 = .ok (.aload_n 0, 1) := by decide +kernel
theorem dX11_end_26 : decode cX11_end 26 = .ok (.iload_n 1, 1) := by decide +kernel
theorem dX11_end_27 : decode cX11_end 27 = .ok (.putfield 57, 3) := by decide +kernel
theorem dX11_end_30 : decode cX11_end 30 = .ok (.return_, 1) := by decide +kernel
theorem dX11_isPlace_0 : decode cX11_isPlace 0 = .ok (.iload_n 0, 1) := by decide +kernel
theorem dX11_isPlace_1 : decode cX11_isPlace 1 = .ok (.iconst 0, 1) := by decide +kernel
theorem dX11_isPlace_2 : decode cX11_isPlace 2 = .ok (.bipush 7, 2) := by decide +kernel
theorem dX11_isPlace_4 : decode cX11_isPlace 4 = .ok (.invokestatic 68, 3) := by decide +kernel
theorem dX11_isPlace_7 : decode cX11_isPlace 7 = .ok (.ireturn, 1) := by decide +kernel
theorem dX11_varintSize_0 : decode cX11_varintSize 0 = .ok (.lload_n 0, 1) := by decide +kernel
theorem dX11_varintSize_1 : decode cX11_varintSize 1 = .ok (.iconst 1, 1) := by decide +kernel
theorem dX11_varintSize_2 : decode cX11_varintSize 2 = .ok (.lshl, 1) := by decide +kernel
theorem dX11_varintSize_3 : decode cX11_varintSize 3 = .ok (.lload_n 0, 1) := by decide +kernel
theorem dX11_varintSize_4 : decode cX11_varintSize 4 = .ok (.bipush 63, 2) := by decide +kernel
theorem dX11_varintSize_6 : decode cX11_varintSize 6 = .ok (.lshr, 1) := by decide +kernel
theorem dX11_varintSize_7 : decode cX11_varintSize 7 = .ok (.lxor, 1) := by decide +kernel
theorem dX11_varintSize_8 : decode cX11_varintSize 8 = .ok (.lstore_n 2, 1) := by decide +kernel
theorem dX11_varintSize_9 : decode cX11_varintSize 9 = .ok (.iconst 1, 1) := by decide +kernel
theorem dX11_varintSize_10 : decode cX11_varintSize 10 = .ok (.istore 4, 2) := by decide +kernel
theorem dX11_varintSize_12 : decode cX11_varintSize 12 = .ok (.lload_n 2, 1) := by decide +kernel
theorem dX11_varintSize_13 : decode cX11_varintSize 13 = .ok (.bipush 7, 2) := by decide +kernel
theorem dX11_varintSize_15 : decode cX11_varintSize 15 = .ok (.lushr, 1) := by decide +kernel
theorem dX11_varintSize_16 : decode cX11_varintSize 16 = .ok (.lconst 0, 1) := by decide +kernel
theorem dX11_varintSize_17 : decode cX11_varintSize 17 = .ok (.lcmp, 1) := by decide +kernel
theorem dX11_varintSize_18 : decode cX11_varintSize 18 = .ok (.ifCond .eq 14, 3) := by decide +kernel
theorem dX11_varintSize_21 : decode cX11_varintSize 21 = .ok (.lload_n 2, 1) := by decide +kernel
theorem dX11_varintSize_22 : decode cX11_varintSize 22 = .ok (.bipush 7, 2) := by decide +kernel
theorem dX11_varintSize_24 : decode cX11_varintSize 24 = .ok (.lushr, 1) := by decide +kernel
theorem dX11_varintSize_25 : decode cX11_varintSize 25 = .ok (.lstore_n 2, 1) := by decide +kernel
theorem dX11_varintSize_26 : decode cX11_varintSize 26 = .ok (.iinc 4 1, 3) := by decide +kernel
theorem dX11_varintSize_29 : decode cX11_varintSize 29 = .ok (.goto (-17), 3) := by decide +kernel
theorem dX11_varintSize_32 : decode cX11_varintSize 32 = .ok (.iload 4, 2) := by decide +kernel
theorem dX11_varintSize_34 : decode cX11_varintSize 34 = .ok (.ireturn, 1) := by decide +kernel
theorem dX11_read_0 : decode cX11_read 0 = .ok (.aload_n 1, 1) := by decide +kernel
theorem dX11_read_1 : decode cX11_read 1 = .ok (.aload_n 0, 1) := by decide +kernel
theorem dX11_read_2 : decode cX11_read 2 = .ok (.getfield 28, 3) := by decide +kernel
theorem dX11_read_5 : decode cX11_read 5 = .ok (.sipush 4096, 3) := by decide +kernel
theorem dX11_read_8 : decode cX11_read 8 = .ok (.iload_n 2, 1) := by decide +kernel
theorem dX11_read_9 : decode cX11_read 9 = .ok (.imul, 1) := by decide +kernel
theorem dX11_read_10 : decode cX11_read 10 = .ok (.aload_n 0, 1) := by decide +kernel
theorem dX11_read_11 : decode cX11_read 11 = .ok (.getfield 31, 3) := by decide +kernel
theorem dX11_read_14 : decode cX11_read 14 = .ok (.iload_n 2, 1) := by decide +kernel
theorem dX11_read_15 : decode cX11_read 15 = .ok (.iaload, 1) := by decide +kernel
theorem dX11_read_16 : decode cX11_read 16 = .ok (.invokevirtual 72, 3) := by decide +kernel
theorem dX11_read_19 : decode cX11_read 19 = .ok (.pop, 1) := by decide +kernel
theorem dX11_read_20 : decode cX11_read 20 = .ok (.return_, 1) := by decide +kernel
theorem dX11_schema_0 : decode cX11_schema 0 = .ok (.aload_n 0, 1) := by decide +kernel
theorem dX11_schema_1 : decode cX11_schema 1 = .ok (.iload_n 1, 1) := by decide +kernel
theorem dX11_schema_2 : decode cX11_schema 2 = .ok (.invokestatic 76, 3) := by decide +kernel
theorem dX11_schema_5 : decode cX11_schema 5 = .ok (.ifCond .ne 7, 3) := by decide +kernel
theorem dX11_schema_8 : decode cX11_schema 8 = .ok (.iconst 1, 1) := by decide +kernel
theorem dX11_schema_9 : decode cX11_schema 9 = .ok (.goto 4, 3) := by decide +kernel
theorem dX11_schema_12 : decode cX11_schema 12 = .ok (.iconst 0, 1) := by decide +kernel
theorem dX11_schema_13 : decode cX11_schema 13 = .ok (.iconst 0, 1) := by decide +kernel
theorem dX11_schema_14 : decode cX11_schema 14 = .ok (.invokevirtual 60, 3) := by decide +kernel
theorem dX11_schema_17 : decode cX11_schema 17 = .ok (.ifCond .eq 5, 3) := by decide +kernel
theorem dX11_schema_20 : decode cX11_schema 20 = .ok (.iconst 0, 1) := by decide +kernel
theorem dX11_schema_21 : decode cX11_schema 21 = .ok (.ireturn, 1) := by decide +kernel
theorem dX11_schema_22 : decode cX11_schema 22 = .ok (.aload_n 0, 1) := by decide +kernel
theorem dX11_schema_23 : decode cX11_schema 23 = .ok (.getfield 20, 3) := by decide +kernel
theorem dX11_schema_26 : decode cX11_schema 26 = .ok (.aload_n 0, 1) := by decide +kernel
theorem dX11_schema_27 : decode cX11_schema 27 = .ok (.getfield 7, 3) := by decide +kernel
theorem dX11_schema_30 : decode cX11_schema 30 = .ok (.iconst 0, 1) := by decide +kernel
theorem dX11_schema_31 : decode cX11_schema 31 = .ok (.aload_n 0, 1) := by decide +kernel
theorem dX11_schema_32 : decode cX11_schema 32 = .ok (.getfield 57, 3) := by decide +kernel
theorem dX11_schema_35 : decode cX11_schema 35 = .ok (.invokevirtual 72, 3) := by decide +kernel
theorem dX11_schema_38 : decode cX11_schema 38 = .ok (.istore_n 2, 1) := by decide +kernel
theorem dX11_schema_39 : decode cX11_schema 39 = .ok (.aload_n 0, 1) := by decide +kernel
theorem dX11_schema_40 : decode cX11_schema 40 = .ok (.iload_n 2, 1) := by decide +kernel
theorem dX11_schema_41 : decode cX11_schema 41 = .ok (.ifCond .le 13, 3) := by decide +kernel
theorem dX11_schema_44 : decode cX11_schema 44 = .ok (.aload_n 0, 1) := by decide +kernel
theorem dX11_schema_45 : decode cX11_schema 45 = .ok (.getfield 20, 3) := by decide +kernel
theorem dX11_schema_48 : decode cX11_schema 48 = .ok (.getfield 80, 3) := by decide +kernel
theorem dX11_schema_51 : decode cX11_schema 51 = .ok (.goto 4, 3) := by decide +kernel
theorem dX11_schema_54 : decode cX11_schema 54 = .ok (.iconst (-1), 1) := by decide +kernel
theorem dX11_schema_55 : decode cX11_schema 55 = .ok (.putfield 13, 3) := by decide +kernel
theorem dX11_schema_58 : decode cX11_schema 58 = .ok (.iload_n 2, 1) := by decide +kernel
theorem dX11_schema_59 : decode cX11_schema 59 = .ok (.ifCond .le 5, 3) := by decide +kernel
theorem dX11_schema_62 : decode cX11_schema 62 = .ok (.iload_n 2, 1) := by decide +kernel
theorem dX11_schema_63 : decode cX11_schema 63 = .ok (.ireturn, 1) := by decide +kernel
theorem dX11_schema_64 : decode cX11_schema 64 = .ok (.iconst 0, 1) := by decide +kernel
theorem dX11_schema_65 : decode cX11_schema 65 = .ok (.istore_n 3, 1) := by decide +kernel
theorem dX11_schema_66 : decode cX11_schema 66 = .ok (.iload_n 3, 1) := by decide +kernel
theorem dX11_schema_67 : decode cX11_schema 67 = .ok (.aload_n 0, 1) := by decide +kernel
theorem dX11_schema_68 : decode cX11_schema 68 = .ok (.getfield 57, 3) := by decide +kernel
theorem dX11_schema_71 : decode cX11_schema 71 = .ok (.if_icmp .ge 27, 3) := by decide +kernel
theorem dX11_schema_74 : decode cX11_schema 74 = .ok (.aload_n 0, 1) := by decide +kernel
theorem dX11_schema_75 : decode cX11_schema 75 = .ok (.getfield 28, 3) := by decide +kernel
theorem dX11_schema_78 : decode cX11_schema 78 = .ok (.sipush 4096, 3) := by decide +kernel
theorem dX11_schema_81 : decode cX11_schema 81 = .ok (.iload_n 1, 1) := by decide +kernel
theorem dX11_schema_82 : decode cX11_schema 82 = .ok (.imul, 1) := by decide +kernel
theorem dX11_schema_83 : decode cX11_schema 83 = .ok (.iload_n 3, 1) := by decide +kernel
theorem dX11_schema_84 : decode cX11_schema 84 = .ok (.iadd, 1) := by decide +kernel
theorem dX11_schema_85 : decode cX11_schema 85 = .ok (.aload_n 0, 1) := by decide +kernel
theorem dX11_schema_86 : decode cX11_schema 86 = .ok (.getfield 7, 3) := by decide +kernel
theorem dX11_schema_89 : decode cX11_schema 89 = .ok (.iload_n 3, 1) := by decide +kernel
theorem dX11_schema_90 : decode cX11_schema 90 = .ok (.baload, 1) := by decide +kernel
theorem dX11_schema_91 : decode cX11_schema 91 = .ok (.bastore, 1) := by decide +kernel
theorem dX11_schema_92 : decode cX11_schema 92 = .ok (.iinc 3 1, 3) := by decide +kernel
theorem dX11_schema_95 : decode cX11_schema 95 = .ok (.goto (-29), 3) := by decide +kernel
theorem dX11_schema_98 : decode cX11_schema 98 = .ok (.aload_n 0, 1) := by decide +kernel
theorem dX11_schema_99 : decode cX11_schema 99 = .ok (.getfield 31, 3) := by decide +kernel
theorem dX11_schema_102 : decode cX11_schema 102 = .ok (.iload_n 1, 1) := by decide +kernel
theorem dX11_schema_103 : decode cX11_schema 103 = .ok (.aload_n 0, 1) := by decide +kernel
theorem dX11_schema_104 : decode cX11_schema 104 = .ok (.getfield 57, 3) := by decide +kernel
theorem dX11_schema_107 : decode cX11_schema 107 = .ok (.iastore, 1) := by decide +kernel
theorem dX11_schema_108 : decode cX11_schema 108 = .ok (.aload_n 0, 1) := by decide +kernel
theorem dX11_schema_109 : decode cX11_schema 109 = .ok (.iconst 0, 1) := by decide +kernel
theorem dX11_schema_110 : decode cX11_schema 110 = .ok (.putfield 57, 3) := by decide +kernel
theorem dX11_schema_113 : decode cX11_schema 113 = .ok (.aload_n 0, 1) := by decide +kernel
theorem dX11_schema_114 : decode cX11_schema 114 = .ok (.getfield 38, 3) := by decide +kernel
theorem dX11_schema_117 : decode cX11_schema 117 = .ok (.iload_n 1, 1) := by decide +kernel
theorem dX11_schema_118 : decode cX11_schema 118 = .ok (.if_icmp .ne 18, 3) := by decide +kernel
theorem dX11_schema_121 : decode cX11_schema 121 = .ok (.aload_n 0, 1) := by decide +kernel
theorem dX11_schema_122 : decode cX11_schema 122 = .ok (.iconst (-1), 1) := by decide +kernel
theorem dX11_schema_123 : decode cX11_schema 123 = .ok (.putfield 38, 3) := by decide +kernel
theorem dX11_schema_126 : decode cX11_schema 126 = .ok (.aload_n 0, 1) := by decide +kernel
theorem dX11_schema_127 : decode cX11_schema 127 = .ok (.iconst 0, 1) := by decide +kernel
theorem dX11_schema_128 : decode cX11_schema 128 = .ok (.putfield 81, 3) := by decide +kernel
theorem dX11_schema_131 : decode cX11_schema 131 = .ok (.aload_n 0, 1) := by decide +kernel
theorem dX11_schema_132 : decode cX11_schema 132 = .ok (.iconst 0, 1) := by decide +kernel
theorem dX11_schema_133 : decode cX11_schema 133 = .ok (.putfield 84, 3) := by decide +kernel
theorem dX11_schema_136 : decode cX11_schema 136 = .ok (.iconst 0, 1) := by decide +kernel
theorem dX11_schema_137 : decode cX11_schema 137 = .ok (.ireturn, 1) := by decide +kernel
theorem dX11_failBytes_0 : decode cX11_failBytes 0 = .ok (.aload_n 0, 1) := by decide +kernel
theorem dX11_failBytes_1 : decode cX11_failBytes 1 = .ok (.iload_n 1, 1) := by decide +kernel
theorem dX11_failBytes_2 : decode cX11_failBytes 2 = .ok (.putfield 87, 3) := by decide +kernel
theorem dX11_failBytes_5 : decode cX11_failBytes 5 = .ok (.aload_n 0, 1) := by decide +kernel
theorem dX11_failBytes_6 : decode cX11_failBytes 6 = .ok (.iload_n 2, 1) := by decide +kernel
theorem dX11_failBytes_7 : decode cX11_failBytes 7 = .ok (.putfield 90, 3) := by decide +kernel
theorem dX11_failBytes_10 : decode cX11_failBytes 10 = .ok (.new 93, 3) := by decide +kernel
theorem dX11_failBytes_13 : decode cX11_failBytes 13 = .ok (.dup, 1) := by decide +kernel
theorem dX11_failBytes_14 : decode cX11_failBytes 14 = .ok (.ldc 95, 2) := by decide +kernel
theorem dX11_failBytes_16 : decode cX11_failBytes 16 = .ok (.invokespecial 96, 3) := by decide +kernel
theorem dX11_failBytes_19 : decode cX11_failBytes 19 = .ok (.athrow, 1) := by decide +kernel
theorem dX11_byteHere_0 : decode cX11_byteHere 0 = .ok (.aload_n 0, 1) := by decide +kernel
theorem dX11_byteHere_1 : decode cX11_byteHere 1 = .ok (.getfield 99, 3) := by decide +kernel
theorem dX11_byteHere_4 : decode cX11_byteHere 4 = .ok (.aload_n 0, 1) := by decide +kernel
theorem dX11_byteHere_5 : decode cX11_byteHere 5 = .ok (.getfield 57, 3) := by decide +kernel
theorem dX11_byteHere_8 : decode cX11_byteHere 8 = .ok (.if_icmp .lt 12, 3) := by decide +kernel
theorem dX11_byteHere_11 : decode cX11_byteHere 11 = .ok (.aload_n 0, 1) := by decide +kernel
theorem dX11_byteHere_12 : decode cX11_byteHere 12 = .ok (.iconst 1, 1) := by decide +kernel
theorem dX11_byteHere_13 : decode cX11_byteHere 13 = .ok (.aload_n 0, 1) := by decide +kernel
theorem dX11_byteHere_14 : decode cX11_byteHere 14 = .ok (.getfield 57, 3) := by decide +kernel
theorem dX11_byteHere_17 : decode cX11_byteHere 17 = .ok (.invokevirtual 102, 3) := by decide +kernel
theorem dX11_byteHere_20 : decode cX11_byteHere 20 = .ok (.aload_n 0, 1) := by decide +kernel
theorem dX11_byteHere_21 : decode cX11_byteHere 21 = .ok (.dup, 1) := by decide +kernel
theorem dX11_byteHere_22 : decode cX11_byteHere 22 = .ok (.getfield 99, 3) := by decide +kernel
theorem dX11_byteHere_25 : decode cX11_byteHere 25 = .ok (.iconst 1, 1) := by decide +kernel
theorem dX11_byteHere_26 : decode cX11_byteHere 26 = .ok (.iadd, 1) := by decide +kernel
theorem dX11_byteHere_27 : decode cX11_byteHere 27 = .ok (.putfield 99, 3) := by decide +kernel
theorem dX11_byteHere_30 : decode cX11_byteHere 30 = .ok (.aload_n 0, 1) := by decide +kernel
theorem dX11_byteHere_31 : decode cX11_byteHere 31 = .ok (.getfield 7, 3) := by decide +kernel
theorem dX11_byteHere_34 : decode cX11_byteHere 34 = .ok (.aload_n 0, 1) := by decide +kernel
theorem dX11_byteHere_35 : decode cX11_byteHere 35 = .ok (.getfield 99, 3) := by decide +kernel
theorem dX11_byteHere_38 : decode cX11_byteHere 38 = .ok (.iconst 1, 1) := by decide +kernel
theorem dX11_byteHere_39 : decode cX11_byteHere 39 = .ok (.isub, 1) := by decide +kernel
theorem dX11_byteHere_40 : decode cX11_byteHere 40 = .ok (.baload, 1) := by decide +kernel
theorem dX11_byteHere_41 : decode cX11_byteHere 41 = .ok (.sipush 255, 3) := by decide +kernel
theorem dX11_byteHere_44 : decode cX11_byteHere 44 = .ok (.iand, 1) := by decide +kernel
theorem dX11_byteHere_45 : decode cX11_byteHere 45 = .ok (.ireturn, 1) := by decide +kernel
theorem dX11_varint_0 : decode cX11_varint 0 = .ok (.aload_n 0, 1) := by decide +kernel
theorem dX11_varint_1 : decode cX11_varint 1 = .ok (.getfield 99, 3) := by decide +kernel
theorem dX11_varint_4 : decode cX11_varint 4 = .ok (.istore_n 1, 1) := by decide +kernel
theorem dX11_varint_5 : decode cX11_varint 5 = .ok (.lconst 0, 1) := by decide +kernel
theorem dX11_varint_6 : decode cX11_varint 6 = .ok (.lstore_n 2, 1) := by decide +kernel
theorem dX11_varint_7 : decode cX11_varint 7 = .ok (.iconst 0, 1) := by decide +kernel
theorem dX11_varint_8 : decode cX11_varint 8 = .ok (.istore 4, 2) := by decide +kernel
theorem dX11_varint_10 : decode cX11_varint 10 = .ok (.iload 4, 2) := by decide +kernel
theorem dX11_varint_12 : decode cX11_varint 12 = .ok (.bipush 10, 2) := by decide +kernel
theorem dX11_varint_14 : decode cX11_varint 14 = .ok (.if_icmp .ge 66, 3) := by decide +kernel
theorem dX11_varint_17 : decode cX11_varint 17 = .ok (.aload_n 0, 1) := by decide +kernel
theorem dX11_varint_18 : decode cX11_varint 18 = .ok (.invokevirtual 106, 3) := by decide +kernel
theorem dX11_varint_21 : decode cX11_varint 21 = .ok (.istore 5, 2) := by decide +kernel
theorem dX11_varint_23 : decode cX11_varint 23 = .ok (.iload 4, 2) := by decide +kernel
theorem dX11_varint_25 : decode cX11_varint 25 = .ok (.bipush 9, 2) := by decide +kernel
theorem dX11_varint_27 : decode cX11_varint 27 = .ok (.if_icmp .ne 15, 3) := by decide +kernel
theorem dX11_varint_30 : decode cX11_varint 30 = .ok (.iload 5, 2) := by decide +kernel
theorem dX11_varint_32 : decode cX11_varint 32 = .ok (.iconst 1, 1) := by decide +kernel
theorem dX11_varint_33 : decode cX11_varint 33 = .ok (.if_icmp .le 9, 3) := by decide +kernel
theorem dX11_varint_36 : decode cX11_varint 36 = .ok (.aload_n 0, 1) := by decide +kernel
theorem dX11_varint_37 : decode cX11_varint 37 = .ok (.iconst 2, 1) := by decide +kernel
theorem dX11_varint_38 : decode cX11_varint 38 = .ok (.iload_n 1, 1) := by decide +kernel
theorem dX11_varint_39 : decode cX11_varint 39 = .ok (.invokevirtual 102, 3) := by decide +kernel
theorem dX11_varint_42 : decode cX11_varint 42 = .ok (.lload_n 2, 1) := by decide +kernel
theorem dX11_varint_43 : decode cX11_varint 43 = .ok (.iload 5, 2) := by decide +kernel
theorem dX11_varint_45 : decode cX11_varint 45 = .ok (.bipush 127, 2) := by decide +kernel
theorem dX11_varint_47 : decode cX11_varint 47 = .ok (.iand, 1) := by decide +kernel
theorem dX11_varint_48 : decode cX11_varint 48 = .ok (.i2l, 1) := by decide +kernel
theorem dX11_varint_49 : decode cX11_varint 49 = .ok (.bipush 7, 2) := by decide +kernel
theorem dX11_varint_51 : decode cX11_varint 51 = .ok (.iload 4, 2) := by decide +kernel
theorem dX11_varint_53 : decode cX11_varint 53 = .ok (.imul, 1) := by decide +kernel
theorem dX11_varint_54 : decode cX11_varint 54 = .ok (.lshl, 1) := by decide +kernel
theorem dX11_varint_55 : decode cX11_varint 55 = .ok (.lor, 1) := by decide +kernel
theorem dX11_varint_56 : decode cX11_varint 56 = .ok (.lstore_n 2, 1) := by decide +kernel
theorem dX11_varint_57 : decode cX11_varint 57 = .ok (.iload 5, 2) := by decide +kernel
theorem dX11_varint_59 : decode cX11_varint 59 = .ok (.sipush 128, 3) := by decide +kernel
theorem dX11_varint_62 : decode cX11_varint 62 = .ok (.if_icmp .ge 12, 3) := by decide +kernel
theorem dX11_varint_65 : decode cX11_varint 65 = .ok (.lload_n 2, 1) := by decide +kernel
theorem dX11_varint_66 : decode cX11_varint 66 = .ok (.iconst 1, 1) := by decide +kernel
theorem dX11_varint_67 : decode cX11_varint 67 = .ok (.lushr, 1) := by decide +kernel
theorem dX11_varint_68 : decode cX11_varint 68 = .ok (.lload_n 2, 1) := by decide +kernel
theorem dX11_varint_69 : decode cX11_varint 69 = .ok (.lconst 1, 1) := by decide +kernel
theorem dX11_varint_70 : decode cX11_varint 70 = .ok (.land, 1) := by decide +kernel
theorem dX11_varint_71 : decode cX11_varint 71 = .ok (.lneg, 1) := by decide +kernel
theorem dX11_varint_72 : decode cX11_varint 72 = .ok (.lxor, 1) := by decide +kernel
theorem dX11_varint_73 : decode cX11_varint 73 = .ok (.lreturn, 1) := by decide +kernel
theorem dX11_varint_74 : decode cX11_varint 74 = .ok (.iinc 4 1, 3) := by decide +kernel
theorem dX11_varint_77 : decode cX11_varint 77 = .ok (.goto (-67), 3) := by decide +kernel
theorem dX11_varint_80 : decode cX11_varint 80 = .ok (.lconst 0, 1) := by decide +kernel
theorem dX11_varint_81 : decode cX11_varint 81 = .ok (.lreturn, 1) := by decide +kernel
theorem dX11_passBytes_0 : decode cX11_passBytes 0 = .ok (.lload_n 1, 1) := by decide +kernel
theorem dX11_passBytes_1 : decode cX11_passBytes 1 = .ok (.aload_n 0, 1) := by decide +kernel
theorem dX11_passBytes_2 : decode cX11_passBytes 2 = .ok (.getfield 57, 3) := by decide +kernel
theorem dX11_passBytes_5 : decode cX11_passBytes 5 = .ok (.aload_n 0, 1) := by decide +kernel
theorem dX11_passBytes_6 : decode cX11_passBytes 6 = .ok (.getfield 99, 3) := by decide +kernel
theorem dX11_passBytes_9 : decode cX11_passBytes 9 = .ok (.isub, 1) := by decide +kernel
theorem dX11_passBytes_10 : decode cX11_passBytes 10 = .ok (.i2l, 1) := by decide +kernel
theorem dX11_passBytes_11 : decode cX11_passBytes 11 = .ok (.lcmp, 1) := by decide +kernel
theorem dX11_passBytes_12 : decode cX11_passBytes 12 = .ok (.ifCond .le 12, 3) := by decide +kernel
theorem dX11_passBytes_15 : decode cX11_passBytes 15 = .ok (.aload_n 0, 1) := by decide +kernel
theorem dX11_passBytes_16 : decode cX11_passBytes 16 = .ok (.iconst 1, 1) := by decide +kernel
theorem dX11_passBytes_17 : decode cX11_passBytes 17 = .ok (.aload_n 0, 1) := by decide +kernel
theorem dX11_passBytes_18 : decode cX11_passBytes 18 = .ok (.getfield 57, 3) := by decide +kernel
theorem dX11_passBytes_21 : decode cX11_passBytes 21 = .ok (.invokevirtual 102, 3) := by decide +kernel
theorem dX11_passBytes_24 : decode cX11_passBytes 24 = .ok (.aload_n 0, 1) := by decide +kernel
theorem dX11_passBytes_25 : decode cX11_passBytes 25 = .ok (.aload_n 0, 1) := by decide +kernel
theorem dX11_passBytes_26 : decode cX11_passBytes 26 = .ok (.getfield 99, 3) := by decide +kernel
theorem dX11_passBytes_29 : decode cX11_passBytes 29 = .ok (.lload_n 1, 1) := by decide +kernel
theorem dX11_passBytes_30 : decode cX11_passBytes 30 = .ok (.l2i, 1) := by decide +kernel
theorem dX11_passBytes_31 : decode cX11_passBytes 31 = .ok (.iadd, 1) := by decide +kernel
theorem dX11_passBytes_32 : decode cX11_passBytes 32 = .ok (.putfield 99, 3) := by decide +kernel
theorem dX11_passBytes_35 : decode cX11_passBytes 35 = .ok (.return_, 1) := by decide +kernel
theorem dX11_putVarint_0 : decode cX11_putVarint 0 = .ok (.lload_n 1, 1) := by decide +kernel
theorem dX11_putVarint_1 : decode cX11_putVarint 1 = .ok (.iconst 1, 1) := by decide +kernel
theorem dX11_putVarint_2 : decode cX11_putVarint 2 = .ok (.lshl, 1) := by decide +kernel
theorem dX11_putVarint_3 : decode cX11_putVarint 3 = .ok (.lload_n 1, 1) := by decide +kernel
theorem dX11_putVarint_4 : decode cX11_putVarint 4 = .ok (.bipush 63, 2) := by decide +kernel
theorem dX11_putVarint_6 : decode cX11_putVarint 6 = .ok (.lshr, 1) := by decide +kernel
theorem dX11_putVarint_7 : decode cX11_putVarint 7 = .ok (.lxor, 1) := by decide +kernel
theorem dX11_putVarint_8 : decode cX11_putVarint 8 = .ok (.lstore_n 3, 1) := by decide +kernel
theorem dX11_putVarint_9 : decode cX11_putVarint 9 = .ok (.lload_n 3, 1) := by decide +kernel
theorem dX11_putVarint_10 : decode cX11_putVarint 10 = .ok (.bipush 7, 2) := by decide +kernel
theorem dX11_putVarint_12 : decode cX11_putVarint 12 = .ok (.lushr, 1) := by decide +kernel
theorem dX11_putVarint_13 : decode cX11_putVarint 13 = .ok (.lconst 0, 1) := by decide +kernel
theorem dX11_putVarint_14 : decode cX11_putVarint 14 = .ok (.lcmp, 1) := by decide +kernel
theorem dX11_putVarint_15 : decode cX11_putVarint 15 = .ok (.ifCond .eq 25, 3) := by decide +kernel
theorem dX11_putVarint_18 : decode cX11_putVarint 18 = .ok (.aload_n 0, 1) := by decide +kernel
theorem dX11_putVarint_19 : decode cX11_putVarint 19 = .ok (.lload_n 3, 1) := by decide +kernel
theorem dX11_putVarint_20 : decode cX11_putVarint 20 = .ok (.ldc2_w 110, 3) := by decide +kernel
theorem dX11_putVarint_23 : decode cX11_putVarint 23 = .ok (.land, 1) := by decide +kernel
theorem dX11_putVarint_24 : decode cX11_putVarint 24 = .ok (.l2i, 1) := by decide +kernel
theorem dX11_putVarint_25 : decode cX11_putVarint 25 = .ok (.sipush 128, 3) := by decide +kernel
theorem dX11_putVarint_28 : decode cX11_putVarint 28 = .ok (.ior, 1) := by decide +kernel
theorem dX11_putVarint_29 : decode cX11_putVarint 29 = .ok (.invokevirtual 112, 3) := by decide +kernel
theorem dX11_putVarint_32 : decode cX11_putVarint 32 = .ok (.lload_n 3, 1) := by decide +kernel
theorem dX11_putVarint_33 : decode cX11_putVarint 33 = .ok (.bipush 7, 2) := by decide +kernel
theorem dX11_putVarint_35 : decode cX11_putVarint 35 = .ok (.lushr, 1) := by decide +kernel
theorem dX11_putVarint_36 : decode cX11_putVarint 36 = .ok (.lstore_n 3, 1) := by decide +kernel
theorem dX11_putVarint_37 : decode cX11_putVarint 37 = .ok (.goto (-28), 3) := by decide +kernel
theorem dX11_putVarint_40 : decode cX11_putVarint 40 = .ok (.aload_n 0, 1) := by decide +kernel
theorem dX11_putVarint_41 : decode cX11_putVarint 41 = .ok (.lload_n 3, 1) := by decide +kernel
theorem dX11_putVarint_42 : decode cX11_putVarint 42 = .ok (.l2i, 1) := by decide +kernel
theorem dX11_putVarint_43 : decode cX11_putVarint 43 = .ok (.invokevirtual 112, 3) := by decide +kernel
theorem dX11_putVarint_46 : decode cX11_putVarint 46 = .ok (.return_, 1) := by decide +kernel
theorem dX11_putByte_0 : decode cX11_putByte 0 = .ok (.aload_n 0, 1) := by decide +kernel
theorem dX11_putByte_1 : decode cX11_putByte 1 = .ok (.getfield 115, 3) := by decide +kernel
theorem dX11_putByte_4 : decode cX11_putByte 4 = .ok (.sipush 4200, 3) := by decide +kernel
theorem dX11_putByte_7 : decode cX11_putByte 7 = .ok (.if_icmp .ge 14, 3) := by decide +kernel
theorem dX11_putByte_10 : decode cX11_putByte 10 = .ok (.aload_n 0, 1) := by decide +kernel
theorem dX11_putByte_11 : decode cX11_putByte 11 = .ok (.getfield 44, 3) := by decide +kernel
theorem dX11_putByte_14 : decode cX11_putByte 14 = .ok (.aload_n 0, 1) := by decide +kernel
theorem dX11_putByte_15 : decode cX11_putByte 15 = .ok (.getfield 115, 3) := by decide +kernel
theorem dX11_putByte_18 : decode cX11_putByte 18 = .ok (.iload_n 1, 1) := by decide +kernel
theorem dX11_putByte_19 : decode cX11_putByte 19 = .ok (.i2b, 1) := by decide +kernel
theorem dX11_putByte_20 : decode cX11_putByte 20 = .ok (.bastore, 1) := by decide +kernel
theorem dX11_putByte_21 : decode cX11_putByte 21 = .ok (.aload_n 0, 1) := by decide +kernel
theorem dX11_putByte_22 : decode cX11_putByte 22 = .ok (.dup, 1) := by decide +kernel
theorem dX11_putByte_23 : decode cX11_putByte 23 = .ok (.getfield 115, 3) := by decide +kernel
theorem dX11_putByte_26 : decode cX11_putByte 26 = .ok (.iconst 1, 1) := by decide +kernel
theorem dX11_putByte_27 : decode cX11_putByte 27 = .ok (.iadd, 1) := by decide +kernel
theorem dX11_putByte_28 : decode cX11_putByte 28 = .ok (.putfield 115, 3) := by decide +kernel
theorem dX11_putByte_31 : decode cX11_putByte 31 = .ok (.return_, 1) := by decide +kernel
theorem dX11_string_0 : decode cX11_string 0 = .ok (.aload_n 0, 1) := by decide +kernel
theorem dX11_string_1 : decode cX11_string 1 = .ok (.getfield 99, 3) := by decide +kernel
theorem dX11_string_4 : decode cX11_string 4 = .ok (.istore_n 2, 1) := by decide +kernel
theorem dX11_string_5 : decode cX11_string 5 = .ok (.aload_n 0, 1) := by decide +kernel
theorem dX11_string_6 : decode cX11_string 6 = .ok (.invokevirtual 118, 3) := by decide +kernel
theorem dX11_string_9 : decode cX11_string 9 = .ok (.lstore_n 3, 1) := by decide +kernel
theorem dX11_string_10 : decode cX11_string 10 = .ok (.lload_n 3, 1) := by decide +kernel
theorem dX11_string_11 : decode cX11_string 11 = .ok (.lconst 0, 1) := by decide +kernel
theorem dX11_string_12 : decode cX11_string 12 = .ok (.lcmp, 1) := by decide +kernel
theorem dX11_string_13 : decode cX11_string 13 = .ok (.ifCond .ge 10, 3) := by decide +kernel
theorem dX11_string_16 : decode cX11_string 16 = .ok (.aload_n 0, 1) := by decide +kernel
theorem dX11_string_17 : decode cX11_string 17 = .ok (.bipush 6, 2) := by decide +kernel
theorem dX11_string_19 : decode cX11_string 19 = .ok (.iload_n 2, 1) := by decide +kernel
theorem dX11_string_20 : decode cX11_string 20 = .ok (.invokevirtual 102, 3) := by decide +kernel
theorem dX11_string_23 : decode cX11_string 23 = .ok (.aload_n 0, 1) := by decide +kernel
theorem dX11_string_24 : decode cX11_string 24 = .ok (.getfield 99, 3) := by decide +kernel
theorem dX11_string_27 : decode cX11_string 27 = .ok (.istore 5, 2) := by decide +kernel
theorem dX11_string_29 : decode cX11_string 29 = .ok (.aload_n 0, 1) := by decide +kernel
theorem dX11_string_30 : decode cX11_string 30 = .ok (.lload_n 3, 1) := by decide +kernel
theorem dX11_string_31 : decode cX11_string 31 = .ok (.invokevirtual 122, 3) := by decide +kernel
theorem dX11_string_34 : decode cX11_string 34 = .ok (.iload_n 1, 1) := by decide +kernel
theorem dX11_string_35 : decode cX11_string 35 = .ok (.ifCond .eq 38, 3) := by decide +kernel
theorem dX11_string_38 : decode cX11_string 38 = .ok (.aload_n 0, 1) := by decide +kernel
theorem dX11_string_39 : decode cX11_string 39 = .ok (.lload_n 3, 1) := by decide +kernel
theorem dX11_string_40 : decode cX11_string 40 = .ok (.invokevirtual 126, 3) := by decide +kernel
theorem dX11_string_43 : decode cX11_string 43 = .ok (.iload 5, 2) := by decide +kernel
theorem dX11_string_45 : decode cX11_string 45 = .ok (.istore 6, 2) := by decide +kernel
theorem dX11_string_47 : decode cX11_string 47 = .ok (.iload 6, 2) := by decide +kernel
theorem dX11_string_49 : decode cX11_string 49 = .ok (.aload_n 0, 1) := by decide +kernel
theorem dX11_string_50 : decode cX11_string 50 = .ok (.getfield 99, 3) := by decide +kernel
theorem dX11_string_53 : decode cX11_string 53 = .ok (.if_icmp .ge 20, 3) := by decide +kernel
theorem dX11_string_56 : decode cX11_string 56 = .ok (.aload_n 0, 1) := by decide +kernel
theorem dX11_string_57 : decode cX11_string 57 = .ok (.aload_n 0, 1) := by decide +kernel
theorem dX11_string_58 : decode cX11_string 58 = .ok (.getfield 7, 3) := by decide +kernel
theorem dX11_string_61 : decode cX11_string 61 = .ok (.iload 6, 2) := by decide +kernel
theorem dX11_string_63 : decode cX11_string 63 = .ok (.baload, 1) := by decide +kernel
theorem dX11_string_64 : decode cX11_string 64 = .ok (.invokevirtual 112, 3) := by decide +kernel
theorem dX11_string_67 : decode cX11_string 67 = .ok (.iinc 6 1, 3) := by decide +kernel
theorem dX11_string_70 : decode cX11_string 70 = .ok (.goto (-23), 3) := by decide +kernel
theorem dX11_string_73 : decode cX11_string 73 = .ok (.return_, 1) := by decide +kernel
theorem dX11_datum_0 : decode cX11_datum 0 = .ok (.aload_n 0, 1) := by decide +kernel
theorem dX11_datum_1 : decode cX11_datum 1 = .ok (.getfield 99, 3) := by decide +kernel
theorem dX11_datum_4 : decode cX11_datum 4 = .ok (.istore 5, 2) := by decide +kernel
theorem dX11_datum_6 : decode cX11_datum 6 = .ok (.iload_n 3, 1) := by decide +kernel
theorem dX11_datum_7 : decode cX11_datum 7 = .ok (.bipush 31, 2) := by decide +kernel
theorem dX11_datum_9 : decode cX11_datum 9 = .ok (.if_icmp .le 11, 3) := by decide +kernel
theorem dX11_datum_12 : decode cX11_datum 12 = .ok (.aload_n 0, 1) := by decide +kernel
theorem dX11_datum_13 : decode cX11_datum 13 = .ok (.bipush 7, 2) := by decide +kernel
theorem dX11_datum_15 : decode cX11_datum 15 = .ok (.iload 5, 2) := by decide +kernel
theorem dX11_datum_17 : decode cX11_datum 17 = .ok (.invokevirtual 102, 3) := by decide +kernel
theorem dX11_datum_20 : decode cX11_datum 20 = .ok (.aload_n 0, 1) := by decide +kernel
theorem dX11_datum_21 : decode cX11_datum 21 = .ok (.getfield 129, 3) := by decide +kernel
theorem dX11_datum_24 : decode cX11_datum 24 = .ok (.sipush 4000, 3) := by decide +kernel
theorem dX11_datum_27 : decode cX11_datum 27 = .ok (.if_icmp .ne 11, 3) := by decide +kernel
theorem dX11_datum_30 : decode cX11_datum 30 = .ok (.aload_n 0, 1) := by decide +kernel
theorem dX11_datum_31 : decode cX11_datum 31 = .ok (.bipush 8, 2) := by decide +kernel
theorem dX11_datum_33 : decode cX11_datum 33 = .ok (.iload 5, 2) := by decide +kernel
theorem dX11_datum_35 : decode cX11_datum 35 = .ok (.invokevirtual 102, 3) := by decide +kernel
theorem dX11_datum_38 : decode cX11_datum 38 = .ok (.aload_n 0, 1) := by decide +kernel
theorem dX11_datum_39 : decode cX11_datum 39 = .ok (.dup, 1) := by decide +kernel
theorem dX11_datum_40 : decode cX11_datum 40 = .ok (.getfield 129, 3) := by decide +kernel
theorem dX11_datum_43 : decode cX11_datum 43 = .ok (.iconst 1, 1) := by decide +kernel
theorem dX11_datum_44 : decode cX11_datum 44 = .ok (.iadd, 1) := by decide +kernel
theorem dX11_datum_45 : decode cX11_datum 45 = .ok (.putfield 129, 3) := by decide +kernel
theorem dX11_datum_48 : decode cX11_datum 48 = .ok (.aload_n 1, 1) := by decide +kernel
theorem dX11_datum_49 : decode cX11_datum 49 = .ok (.getfield 132, 3) := by decide +kernel
theorem dX11_datum_52 : decode cX11_datum 52 = .ok (.iload_n 2, 1) := by decide +kernel
theorem dX11_datum_53 : decode cX11_datum 53 = .ok (.iaload, 1) := by decide +kernel
theorem dX11_datum_54 : decode cX11_datum 54 = .ok (.tableswitch 359 0 11 #[62, 65, 95, 95, 142, 142, 359, 359, 244, 151, 197, 314], 62) := by decide +kernel
theorem dX11_datum_116 : decode cX11_datum 116 = .ok (.goto 306, 3) := by decide +kernel
theorem dX11_datum_119 : decode cX11_datum 119 = .ok (.aload_n 0, 1) := by decide +kernel
theorem dX11_datum_120 : decode cX11_datum 120 = .ok (.invokevirtual 106, 3) := by decide +kernel
theorem dX11_datum_123 : decode cX11_datum 123 = .ok (.istore 6, 2) := by decide +kernel
theorem dX11_datum_125 : decode cX11_datum 125 = .ok (.iload 6, 2) := by decide +kernel
theorem dX11_datum_127 : decode cX11_datum 127 = .ok (.iconst 1, 1) := by decide +kernel
theorem dX11_datum_128 : decode cX11_datum 128 = .ok (.if_icmp .le 10, 3) := by decide +kernel
theorem dX11_datum_131 : decode cX11_datum 131 = .ok (.aload_n 0, 1) := by decide +kernel
theorem dX11_datum_132 : decode cX11_datum 132 = .ok (.iconst 3, 1) := by decide +kernel
theorem dX11_datum_133 : decode cX11_datum 133 = .ok (.iload 5, 2) := by decide +kernel
theorem dX11_datum_135 : decode cX11_datum 135 = .ok (.invokevirtual 102, 3) := by decide +kernel
theorem dX11_datum_138 : decode cX11_datum 138 = .ok (.aload_n 0, 1) := by decide +kernel
theorem dX11_datum_139 : decode cX11_datum 139 = .ok (.iload 6, 2) := by decide +kernel
theorem dX11_datum_141 : decode cX11_datum 141 = .ok (.iload 4, 2) := by decide +kernel
theorem dX11_datum_143 : decode cX11_datum 143 = .ok (.invokevirtual 135, 3) := by decide +kernel
theorem dX11_datum_146 : decode cX11_datum 146 = .ok (.goto 276, 3) := by decide +kernel
theorem dX11_datum_149 : decode cX11_datum 149 = .ok (.aload_n 0, 1) := by decide +kernel
theorem dX11_datum_150 : decode cX11_datum 150 = .ok (.invokevirtual 118, 3) := by decide +kernel
theorem dX11_datum_153 : decode cX11_datum 153 = .ok (.lstore 7, 2) := by decide +kernel
theorem dX11_datum_155 : decode cX11_datum 155 = .ok (.aload_n 1, 1) := by decide +kernel
theorem dX11_datum_156 : decode cX11_datum 156 = .ok (.getfield 132, 3) := by decide +kernel
theorem dX11_datum_159 : decode cX11_datum 159 = .ok (.iload_n 2, 1) := by decide +kernel
theorem dX11_datum_160 : decode cX11_datum 160 = .ok (.iaload, 1) := by decide +kernel
theorem dX11_datum_161 : decode cX11_datum 161 = .ok (.iconst 2, 1) := by decide +kernel
theorem dX11_datum_162 : decode cX11_datum 162 = .ok (.if_icmp .ne 20, 3) := by decide +kernel
theorem dX11_datum_165 : decode cX11_datum 165 = .ok (.lload 7, 2) := by decide +kernel
theorem dX11_datum_167 : decode cX11_datum 167 = .ok (.lload 7, 2) := by decide +kernel
theorem dX11_datum_169 : decode cX11_datum 169 = .ok (.l2i, 1) := by decide +kernel
theorem dX11_datum_170 : decode cX11_datum 170 = .ok (.i2l, 1) := by decide +kernel
theorem dX11_datum_171 : decode cX11_datum 171 = .ok (.lcmp, 1) := by decide +kernel
theorem dX11_datum_172 : decode cX11_datum 172 = .ok (.ifCond .eq 10, 3) := by decide +kernel
theorem dX11_datum_175 : decode cX11_datum 175 = .ok (.aload_n 0, 1) := by decide +kernel
theorem dX11_datum_176 : decode cX11_datum 176 = .ok (.iconst 2, 1) := by decide +kernel
theorem dX11_datum_177 : decode cX11_datum 177 = .ok (.iload 5, 2) := by decide +kernel
theorem dX11_datum_179 : decode cX11_datum 179 = .ok (.invokevirtual 102, 3) := by decide +kernel
theorem dX11_datum_182 : decode cX11_datum 182 = .ok (.iload 4, 2) := by decide +kernel
theorem dX11_datum_184 : decode cX11_datum 184 = .ok (.ifCond .eq 238, 3) := by decide +kernel
theorem dX11_datum_187 : decode cX11_datum 187 = .ok (.aload_n 0, 1) := by decide +kernel
theorem dX11_datum_188 : decode cX11_datum 188 = .ok (.lload 7, 2) := by decide +kernel
theorem dX11_datum_190 : decode cX11_datum 190 = .ok (.invokevirtual 126, 3) := by decide +kernel
theorem dX11_datum_193 : decode cX11_datum 193 = .ok (.goto 229, 3) := by decide +kernel
theorem dX11_datum_196 : decode cX11_datum 196 = .ok (.aload_n 0, 1) := by decide +kernel
theorem dX11_datum_197 : decode cX11_datum 197 = .ok (.iload 4, 2) := by decide +kernel
theorem dX11_datum_199 : decode cX11_datum 199 = .ok (.invokevirtual 139, 3) := by decide +kernel
theorem dX11_datum_202 : decode cX11_datum 202 = .ok (.goto 220, 3) := by decide +kernel
theorem dX11_datum_205 : decode cX11_datum 205 = .ok (.aload_n 0, 1) := by decide +kernel
theorem dX11_datum_206 : decode cX11_datum 206 = .ok (.aload_n 1, 1) := by decide +kernel
theorem dX11_datum_207 : decode cX11_datum 207 = .ok (.getfield 143, 3) := by decide +kernel
theorem dX11_datum_210 : decode cX11_datum 210 = .ok (.iload_n 2, 1) := by decide +kernel
theorem dX11_datum_211 : decode cX11_datum 211 = .ok (.iaload, 1) := by decide +kernel
theorem dX11_datum_212 : decode cX11_datum 212 = .ok (.i2l, 1) := by decide +kernel
theorem dX11_datum_213 : decode cX11_datum 213 = .ok (.invokevirtual 122, 3) := by decide +kernel
theorem dX11_datum_216 : decode cX11_datum 216 = .ok (.iload 5, 2) := by decide +kernel
theorem dX11_datum_218 : decode cX11_datum 218 = .ok (.istore 9, 2) := by decide +kernel
theorem dX11_datum_220 : decode cX11_datum 220 = .ok (.iload 9, 2) := by decide +kernel
theorem dX11_datum_222 : decode cX11_datum 222 = .ok (.aload_n 0, 1) := by decide +kernel
theorem dX11_datum_223 : decode cX11_datum 223 = .ok (.getfield 99, 3) := by decide +kernel
theorem dX11_datum_226 : decode cX11_datum 226 = .ok (.if_icmp .ge 22, 3) := by decide +kernel
theorem dX11_datum_229 : decode cX11_datum 229 = .ok (.aload_n 0, 1) := by decide +kernel
theorem dX11_datum_230 : decode cX11_datum 230 = .ok (.aload_n 0, 1) := by decide +kernel
theorem dX11_datum_231 : decode cX11_datum 231 = .ok (.getfield 7, 3) := by decide +kernel
theorem dX11_datum_234 : decode cX11_datum 234 = .ok (.iload 9, 2) := by decide +kernel
theorem dX11_datum_236 : decode cX11_datum 236 = .ok (.baload, 1) := by decide +kernel
theorem dX11_datum_237 : decode cX11_datum 237 = .ok (.iload 4, 2) := by decide +kernel
theorem dX11_datum_239 : decode cX11_datum 239 = .ok (.invokevirtual 135, 3) := by decide +kernel
theorem dX11_datum_242 : decode cX11_datum 242 = .ok (.iinc 9 1, 3) := by decide +kernel
theorem dX11_datum_245 : decode cX11_datum 245 = .ok (.goto (-25), 3) := by decide +kernel
theorem dX11_datum_248 : decode cX11_datum 248 = .ok (.goto 174, 3) := by decide +kernel
theorem dX11_datum_251 : decode cX11_datum 251 = .ok (.aload_n 0, 1) := by decide +kernel
theorem dX11_datum_252 : decode cX11_datum 252 = .ok (.invokevirtual 118, 3) := by decide +kernel
theorem dX11_datum_255 : decode cX11_datum 255 = .ok (.lstore 9, 2) := by decide +kernel
theorem dX11_datum_257 : decode cX11_datum 257 = .ok (.lload 9, 2) := by decide +kernel
theorem dX11_datum_259 : decode cX11_datum 259 = .ok (.lconst 0, 1) := by decide +kernel
theorem dX11_datum_260 : decode cX11_datum 260 = .ok (.lcmp, 1) := by decide +kernel
theorem dX11_datum_261 : decode cX11_datum 261 = .ok (.ifCond .lt 16, 3) := by decide +kernel
theorem dX11_datum_264 : decode cX11_datum 264 = .ok (.lload 9, 2) := by decide +kernel
theorem dX11_datum_266 : decode cX11_datum 266 = .ok (.aload_n 1, 1) := by decide +kernel
theorem dX11_datum_267 : decode cX11_datum 267 = .ok (.getfield 146, 3) := by decide +kernel
theorem dX11_datum_270 : decode cX11_datum 270 = .ok (.iload_n 2, 1) := by decide +kernel
theorem dX11_datum_271 : decode cX11_datum 271 = .ok (.iaload, 1) := by decide +kernel
theorem dX11_datum_272 : decode cX11_datum 272 = .ok (.i2l, 1) := by decide +kernel
theorem dX11_datum_273 : decode cX11_datum 273 = .ok (.lcmp, 1) := by decide +kernel
theorem dX11_datum_274 : decode cX11_datum 274 = .ok (.ifCond .lt 10, 3) := by decide +kernel
theorem dX11_datum_277 : decode cX11_datum 277 = .ok (.aload_n 0, 1) := by decide +kernel
theorem dX11_datum_278 : decode cX11_datum 278 = .ok (.iconst 5, 1) := by decide +kernel
theorem dX11_datum_279 : decode cX11_datum 279 = .ok (.iload 5, 2) := by decide +kernel
theorem dX11_datum_281 : decode cX11_datum 281 = .ok (.invokevirtual 102, 3) := by decide +kernel
theorem dX11_datum_284 : decode cX11_datum 284 = .ok (.iload 4, 2) := by decide +kernel
theorem dX11_datum_286 : decode cX11_datum 286 = .ok (.ifCond .eq 136, 3) := by decide +kernel
theorem dX11_datum_289 : decode cX11_datum 289 = .ok (.aload_n 0, 1) := by decide +kernel
theorem dX11_datum_290 : decode cX11_datum 290 = .ok (.lload 9, 2) := by decide +kernel
theorem dX11_datum_292 : decode cX11_datum 292 = .ok (.invokevirtual 126, 3) := by decide +kernel
theorem dX11_datum_295 : decode cX11_datum 295 = .ok (.goto 127, 3) := by decide +kernel
theorem dX11_datum_298 : decode cX11_datum 298 = .ok (.aload_n 0, 1) := by decide +kernel
theorem dX11_datum_299 : decode cX11_datum 299 = .ok (.invokevirtual 118, 3) := by decide +kernel
theorem dX11_datum_302 : decode cX11_datum 302 = .ok (.lstore 11, 2) := by decide +kernel
theorem dX11_datum_304 : decode cX11_datum 304 = .ok (.lload 11, 2) := by decide +kernel
theorem dX11_datum_306 : decode cX11_datum 306 = .ok (.lconst 0, 1) := by decide +kernel
theorem dX11_datum_307 : decode cX11_datum 307 = .ok (.lcmp, 1) := by decide +kernel
theorem dX11_datum_308 : decode cX11_datum 308 = .ok (.ifCond .lt 16, 3) := by decide +kernel
theorem dX11_datum_311 : decode cX11_datum 311 = .ok (.lload 11, 2) := by decide +kernel
theorem dX11_datum_313 : decode cX11_datum 313 = .ok (.aload_n 1, 1) := by decide +kernel
theorem dX11_datum_314 : decode cX11_datum 314 = .ok (.getfield 146, 3) := by decide +kernel
theorem dX11_datum_317 : decode cX11_datum 317 = .ok (.iload_n 2, 1) := by decide +kernel
theorem dX11_datum_318 : decode cX11_datum 318 = .ok (.iaload, 1) := by decide +kernel
theorem dX11_datum_319 : decode cX11_datum 319 = .ok (.i2l, 1) := by decide +kernel
theorem dX11_datum_320 : decode cX11_datum 320 = .ok (.lcmp, 1) := by decide +kernel
theorem dX11_datum_321 : decode cX11_datum 321 = .ok (.ifCond .lt 10, 3) := by decide +kernel
theorem dX11_datum_324 : decode cX11_datum 324 = .ok (.aload_n 0, 1) := by decide +kernel
theorem dX11_datum_325 : decode cX11_datum 325 = .ok (.iconst 4, 1) := by decide +kernel
theorem dX11_datum_326 : decode cX11_datum 326 = .ok (.iload 5, 2) := by decide +kernel
theorem dX11_datum_328 : decode cX11_datum 328 = .ok (.invokevirtual 102, 3) := by decide +kernel
theorem dX11_datum_331 : decode cX11_datum 331 = .ok (.iload 4, 2) := by decide +kernel
theorem dX11_datum_333 : decode cX11_datum 333 = .ok (.ifCond .eq 9, 3) := by decide +kernel
theorem dX11_datum_336 : decode cX11_datum 336 = .ok (.aload_n 0, 1) := by decide +kernel
theorem dX11_datum_337 : decode cX11_datum 337 = .ok (.lload 11, 2) := by decide +kernel
theorem dX11_datum_339 : decode cX11_datum 339 = .ok (.invokevirtual 126, 3) := by decide +kernel
theorem dX11_datum_342 : decode cX11_datum 342 = .ok (.aload_n 0, 1) := by decide +kernel
theorem dX11_datum_343 : decode cX11_datum 343 = .ok (.aload_n 1, 1) := by decide +kernel
theorem dX11_datum_344 : decode cX11_datum 344 = .ok (.aload_n 1, 1) := by decide +kernel
theorem dX11_datum_345 : decode cX11_datum 345 = .ok (.getfield 149, 3) := by decide +kernel
theorem dX11_datum_348 : decode cX11_datum 348 = .ok (.aload_n 1, 1) := by decide +kernel
theorem dX11_datum_349 : decode cX11_datum 349 = .ok (.iload_n 2, 1) := by decide +kernel
theorem dX11_datum_350 : decode cX11_datum 350 = .ok (.lload 11, 2) := by decide +kernel
theorem dX11_datum_352 : decode cX11_datum 352 = .ok (.l2i, 1) := by decide +kernel
theorem dX11_datum_353 : decode cX11_datum 353 = .ok (.invokevirtual 152, 3) := by decide +kernel
theorem dX11_datum_356 : decode cX11_datum 356 = .ok (.iaload, 1) := by decide +kernel
theorem dX11_datum_357 : decode cX11_datum 357 = .ok (.iload_n 3, 1) := by decide +kernel
theorem dX11_datum_358 : decode cX11_datum 358 = .ok (.iconst 1, 1) := by decide +kernel
theorem dX11_datum_359 : decode cX11_datum 359 = .ok (.iadd, 1) := by decide +kernel
theorem dX11_datum_360 : decode cX11_datum 360 = .ok (.iload 4, 2) := by decide +kernel
theorem dX11_datum_362 : decode cX11_datum 362 = .ok (.invokevirtual 156, 3) := by decide +kernel
theorem dX11_datum_365 : decode cX11_datum 365 = .ok (.goto 57, 3) := by decide +kernel
theorem dX11_datum_368 : decode cX11_datum 368 = .ok (.aload_n 1, 1) := by decide +kernel
theorem dX11_datum_369 : decode cX11_datum 369 = .ok (.getfield 160, 3) := by decide +kernel
theorem dX11_datum_372 : decode cX11_datum 372 = .ok (.iload_n 2, 1) := by decide +kernel
theorem dX11_datum_373 : decode cX11_datum 373 = .ok (.iaload, 1) := by decide +kernel
theorem dX11_datum_374 : decode cX11_datum 374 = .ok (.istore 13, 2) := by decide +kernel
theorem dX11_datum_376 : decode cX11_datum 376 = .ok (.iload 13, 2) := by decide +kernel
theorem dX11_datum_378 : decode cX11_datum 378 = .ok (.ifCond .lt 32, 3) := by decide +kernel
theorem dX11_datum_381 : decode cX11_datum 381 = .ok (.aload_n 0, 1) := by decide +kernel
theorem dX11_datum_382 : decode cX11_datum 382 = .ok (.aload_n 1, 1) := by decide +kernel
theorem dX11_datum_383 : decode cX11_datum 383 = .ok (.aload_n 1, 1) := by decide +kernel
theorem dX11_datum_384 : decode cX11_datum 384 = .ok (.getfield 149, 3) := by decide +kernel
theorem dX11_datum_387 : decode cX11_datum 387 = .ok (.iload 13, 2) := by decide +kernel
theorem dX11_datum_389 : decode cX11_datum 389 = .ok (.iaload, 1) := by decide +kernel
theorem dX11_datum_390 : decode cX11_datum 390 = .ok (.iload_n 3, 1) := by decide +kernel
theorem dX11_datum_391 : decode cX11_datum 391 = .ok (.iconst 1, 1) := by decide +kernel
theorem dX11_datum_392 : decode cX11_datum 392 = .ok (.iadd, 1) := by decide +kernel
theorem dX11_datum_393 : decode cX11_datum 393 = .ok (.iload 4, 2) := by decide +kernel
theorem dX11_datum_395 : decode cX11_datum 395 = .ok (.invokevirtual 156, 3) := by decide +kernel
theorem dX11_datum_398 : decode cX11_datum 398 = .ok (.aload_n 1, 1) := by decide +kernel
theorem dX11_datum_399 : decode cX11_datum 399 = .ok (.getfield 163, 3) := by decide +kernel
theorem dX11_datum_402 : decode cX11_datum 402 = .ok (.iload 13, 2) := by decide +kernel
theorem dX11_datum_404 : decode cX11_datum 404 = .ok (.iaload, 1) := by decide +kernel
theorem dX11_datum_405 : decode cX11_datum 405 = .ok (.istore 13, 2) := by decide +kernel
theorem dX11_datum_407 : decode cX11_datum 407 = .ok (.goto (-31), 3) := by decide +kernel
theorem dX11_datum_410 : decode cX11_datum 410 = .ok (.goto 12, 3) := by decide +kernel
theorem dX11_datum_413 : decode cX11_datum 413 = .ok (.aload_n 0, 1) := by decide +kernel
theorem dX11_datum_414 : decode cX11_datum 414 = .ok (.aload_n 1, 1) := by decide +kernel
theorem dX11_datum_415 : decode cX11_datum 415 = .ok (.iload_n 2, 1) := by decide +kernel
theorem dX11_datum_416 : decode cX11_datum 416 = .ok (.iload_n 3, 1) := by decide +kernel
theorem dX11_datum_417 : decode cX11_datum 417 = .ok (.iload 4, 2) := by decide +kernel
theorem dX11_datum_419 : decode cX11_datum 419 = .ok (.invokevirtual 166, 3) := by decide +kernel
theorem dX11_datum_422 : decode cX11_datum 422 = .ok (.return_, 1) := by decide +kernel
theorem dX11_put_0 : decode cX11_put 0 = .ok (.iload_n 2, 1) := by decide +kernel
theorem dX11_put_1 : decode cX11_put 1 = .ok (.ifCond .eq 8, 3) := by decide +kernel
theorem dX11_put_4 : decode cX11_put 4 = .ok (.aload_n 0, 1) := by decide +kernel
theorem dX11_put_5 : decode cX11_put 5 = .ok (.iload_n 1, 1) := by decide +kernel
theorem dX11_put_6 : decode cX11_put 6 = .ok (.invokevirtual 112, 3) := by decide +kernel
theorem dX11_put_9 : decode cX11_put 9 = .ok (.return_, 1) := by decide +kernel
theorem dX11_blocks_0 : decode cX11_blocks 0 = .ok (.aload_n 0, 1) := by decide +kernel
theorem dX11_blocks_1 : decode cX11_blocks 1 = .ok (.getfield 115, 3) := by decide +kernel
theorem dX11_blocks_4 : decode cX11_blocks 4 = .ok (.istore 5, 2) := by decide +kernel
theorem dX11_blocks_6 : decode cX11_blocks 6 = .ok (.iconst 0, 1) := by decide +kernel
theorem dX11_blocks_7 : decode cX11_blocks 7 = .ok (.istore 6, 2) := by decide +kernel
theorem dX11_blocks_9 : decode cX11_blocks 9 = .ok (.iconst 1, 1) := by decide +kernel
theorem dX11_blocks_10 : decode cX11_blocks 10 = .ok (.istore 7, 2) := by decide +kernel
theorem dX11_blocks_12 : decode cX11_blocks 12 = .ok (.iload 7, 2) := by decide +kernel
theorem dX11_blocks_14 : decode cX11_blocks 14 = .ok (.ifCond .eq 224, 3) := by decide +kernel
theorem dX11_blocks_17 : decode cX11_blocks 17 = .ok (.aload_n 0, 1) := by decide +kernel
theorem dX11_blocks_18 : decode cX11_blocks 18 = .ok (.getfield 99, 3) := by decide +kernel
theorem dX11_blocks_21 : decode cX11_blocks 21 = .ok (.istore 8, 2) := by decide +kernel
theorem dX11_blocks_23 : decode cX11_blocks 23 = .ok (.aload_n 0, 1) := by decide +kernel
theorem dX11_blocks_24 : decode cX11_blocks 24 = .ok (.invokevirtual 118, 3) := by decide +kernel
theorem dX11_blocks_27 : decode cX11_blocks 27 = .ok (.lstore 9, 2) := by decide +kernel
theorem dX11_blocks_29 : decode cX11_blocks 29 = .ok (.lload 9, 2) := by decide +kernel
theorem dX11_blocks_31 : decode cX11_blocks 31 = .ok (.lconst 0, 1) := by decide +kernel
theorem dX11_blocks_32 : decode cX11_blocks 32 = .ok (.lcmp, 1) := by decide +kernel
theorem dX11_blocks_33 : decode cX11_blocks 33 = .ok (.ifCond .eq 7, 3) := by decide +kernel
theorem dX11_blocks_36 : decode cX11_blocks 36 = .ok (.iconst 1, 1) := by decide +kernel
theorem dX11_blocks_37 : decode cX11_blocks 37 = .ok (.goto 4, 3) := by decide +kernel
theorem dX11_blocks_40 : decode cX11_blocks 40 = .ok (.iconst 0, 1) := by decide +kernel
theorem dX11_blocks_41 : decode cX11_blocks 41 = .ok (.istore 7, 2) := by decide +kernel
theorem dX11_blocks_43 : decode cX11_blocks 43 = .ok (.iload 7, 2) := by decide +kernel
theorem dX11_blocks_45 : decode cX11_blocks 45 = .ok (.ifCond .eq 190, 3) := by decide +kernel
theorem dX11_blocks_48 : decode cX11_blocks 48 = .ok (.lload 9, 2) := by decide +kernel
theorem dX11_blocks_50 : decode cX11_blocks 50 = .ok (.ldc2_w 171, 3) := by decide +kernel
theorem dX11_blocks_53 : decode cX11_blocks 53 = .ok (.lcmp, 1) := by decide +kernel
theorem dX11_blocks_54 : decode cX11_blocks 54 = .ok (.ifCond .eq 31, 3) := by decide +kernel
theorem dX11_blocks_57 : decode cX11_blocks 57 = .ok (.lload 9, 2) := by decide +kernel
theorem dX11_blocks_59 : decode cX11_blocks 59 = .ok (.lconst 0, 1) := by decide +kernel
theorem dX11_blocks_60 : decode cX11_blocks 60 = .ok (.lcmp, 1) := by decide +kernel
theorem dX11_blocks_61 : decode cX11_blocks 61 = .ok (.ifCond .ge 9, 3) := by decide +kernel
theorem dX11_blocks_64 : decode cX11_blocks 64 = .ok (.lload 9, 2) := by decide +kernel
theorem dX11_blocks_66 : decode cX11_blocks 66 = .ok (.lneg, 1) := by decide +kernel
theorem dX11_blocks_67 : decode cX11_blocks 67 = .ok (.goto 5, 3) := by decide +kernel
theorem dX11_blocks_70 : decode cX11_blocks 70 = .ok (.lload 9, 2) := by decide +kernel
theorem dX11_blocks_72 : decode cX11_blocks 72 = .ok (.ldc2_w 173, 3) := by decide +kernel
theorem dX11_blocks_75 : decode cX11_blocks 75 = .ok (.aload_n 0, 1) := by decide +kernel
theorem dX11_blocks_76 : decode cX11_blocks 76 = .ok (.getfield 175, 3) := by decide +kernel
theorem dX11_blocks_79 : decode cX11_blocks 79 = .ok (.i2l, 1) := by decide +kernel
theorem dX11_blocks_80 : decode cX11_blocks 80 = .ok (.lsub, 1) := by decide +kernel
theorem dX11_blocks_81 : decode cX11_blocks 81 = .ok (.lcmp, 1) := by decide +kernel
theorem dX11_blocks_82 : decode cX11_blocks 82 = .ok (.ifCond .le 7, 3) := by decide +kernel
theorem dX11_blocks_85 : decode cX11_blocks 85 = .ok (.iconst 1, 1) := by decide +kernel
theorem dX11_blocks_86 : decode cX11_blocks 86 = .ok (.goto 4, 3) := by decide +kernel
theorem dX11_blocks_89 : decode cX11_blocks 89 = .ok (.iconst 0, 1) := by decide +kernel
theorem dX11_blocks_90 : decode cX11_blocks 90 = .ok (.istore 11, 2) := by decide +kernel
theorem dX11_blocks_92 : decode cX11_blocks 92 = .ok (.iload 11, 2) := by decide +kernel
theorem dX11_blocks_94 : decode cX11_blocks 94 = .ok (.ifCond .eq 11, 3) := by decide +kernel
theorem dX11_blocks_97 : decode cX11_blocks 97 = .ok (.aload_n 0, 1) := by decide +kernel
theorem dX11_blocks_98 : decode cX11_blocks 98 = .ok (.bipush 6, 2) := by decide +kernel
theorem dX11_blocks_100 : decode cX11_blocks 100 = .ok (.iload 8, 2) := by decide +kernel
theorem dX11_blocks_102 : decode cX11_blocks 102 = .ok (.invokevirtual 102, 3) := by decide +kernel
theorem dX11_blocks_105 : decode cX11_blocks 105 = .ok (.lload 9, 2) := by decide +kernel
theorem dX11_blocks_107 : decode cX11_blocks 107 = .ok (.lconst 0, 1) := by decide +kernel
theorem dX11_blocks_108 : decode cX11_blocks 108 = .ok (.lcmp, 1) := by decide +kernel
theorem dX11_blocks_109 : decode cX11_blocks 109 = .ok (.ifCond .ge 7, 3) := by decide +kernel
theorem dX11_blocks_112 : decode cX11_blocks 112 = .ok (.iconst 1, 1) := by decide +kernel
theorem dX11_blocks_113 : decode cX11_blocks 113 = .ok (.goto 4, 3) := by decide +kernel
theorem dX11_blocks_116 : decode cX11_blocks 116 = .ok (.iconst 0, 1) := by decide +kernel
theorem dX11_blocks_117 : decode cX11_blocks 117 = .ok (.istore 12, 2) := by decide +kernel
theorem dX11_blocks_119 : decode cX11_blocks 119 = .ok (.aload_n 0, 1) := by decide +kernel
theorem dX11_blocks_120 : decode cX11_blocks 120 = .ok (.getfield 99, 3) := by decide +kernel
theorem dX11_blocks_123 : decode cX11_blocks 123 = .ok (.istore 13, 2) := by decide +kernel
theorem dX11_blocks_125 : decode cX11_blocks 125 = .ok (.iload 12, 2) := by decide +kernel
theorem dX11_blocks_127 : decode cX11_blocks 127 = .ok (.ifCond .eq 10, 3) := by decide +kernel
theorem dX11_blocks_130 : decode cX11_blocks 130 = .ok (.aload_n 0, 1) := by decide +kernel
theorem dX11_blocks_131 : decode cX11_blocks 131 = .ok (.invokevirtual 118, 3) := by decide +kernel
theorem dX11_blocks_134 : decode cX11_blocks 134 = .ok (.goto 4, 3) := by decide +kernel
theorem dX11_blocks_137 : decode cX11_blocks 137 = .ok (.lconst 0, 1) := by decide +kernel
theorem dX11_blocks_138 : decode cX11_blocks 138 = .ok (.lstore 14, 2) := by decide +kernel
theorem dX11_blocks_140 : decode cX11_blocks 140 = .ok (.iload 12, 2) := by decide +kernel
theorem dX11_blocks_142 : decode cX11_blocks 142 = .ok (.ifCond .eq 9, 3) := by decide +kernel
theorem dX11_blocks_145 : decode cX11_blocks 145 = .ok (.lload 9, 2) := by decide +kernel
theorem dX11_blocks_147 : decode cX11_blocks 147 = .ok (.lneg, 1) := by decide +kernel
theorem dX11_blocks_148 : decode cX11_blocks 148 = .ok (.goto 5, 3) := by decide +kernel
theorem dX11_blocks_151 : decode cX11_blocks 151 = .ok (.lload 9, 2) := by decide +kernel
theorem dX11_blocks_153 : decode cX11_blocks 153 = .ok (.lstore 9, 2) := by decide +kernel
theorem dX11_blocks_155 : decode cX11_blocks 155 = .ok (.aload_n 0, 1) := by decide +kernel
theorem dX11_blocks_156 : decode cX11_blocks 156 = .ok (.aload_n 0, 1) := by decide +kernel
theorem dX11_blocks_157 : decode cX11_blocks 157 = .ok (.getfield 175, 3) := by decide +kernel
theorem dX11_blocks_160 : decode cX11_blocks 160 = .ok (.lload 9, 2) := by decide +kernel
theorem dX11_blocks_162 : decode cX11_blocks 162 = .ok (.l2i, 1) := by decide +kernel
theorem dX11_blocks_163 : decode cX11_blocks 163 = .ok (.iadd, 1) := by decide +kernel
theorem dX11_blocks_164 : decode cX11_blocks 164 = .ok (.putfield 175, 3) := by decide +kernel
theorem dX11_blocks_167 : decode cX11_blocks 167 = .ok (.aload_n 0, 1) := by decide +kernel
theorem dX11_blocks_168 : decode cX11_blocks 168 = .ok (.getfield 99, 3) := by decide +kernel
theorem dX11_blocks_171 : decode cX11_blocks 171 = .ok (.istore 16, 2) := by decide +kernel
theorem dX11_blocks_173 : decode cX11_blocks 173 = .ok (.iconst 0, 1) := by decide +kernel
theorem dX11_blocks_174 : decode cX11_blocks 174 = .ok (.istore 17, 2) := by decide +kernel
theorem dX11_blocks_176 : decode cX11_blocks 176 = .ok (.iload 17, 2) := by decide +kernel
theorem dX11_blocks_178 : decode cX11_blocks 178 = .ok (.i2l, 1) := by decide +kernel
theorem dX11_blocks_179 : decode cX11_blocks 179 = .ok (.lload 9, 2) := by decide +kernel
theorem dX11_blocks_181 : decode cX11_blocks 181 = .ok (.lcmp, 1) := by decide +kernel
theorem dX11_blocks_182 : decode cX11_blocks 182 = .ok (.ifCond .ge 18, 3) := by decide +kernel
theorem dX11_blocks_185 : decode cX11_blocks 185 = .ok (.aload_n 0, 1) := by decide +kernel
theorem dX11_blocks_186 : decode cX11_blocks 186 = .ok (.aload_n 1, 1) := by decide +kernel
theorem dX11_blocks_187 : decode cX11_blocks 187 = .ok (.iload_n 2, 1) := by decide +kernel
theorem dX11_blocks_188 : decode cX11_blocks 188 = .ok (.iload_n 3, 1) := by decide +kernel
theorem dX11_blocks_189 : decode cX11_blocks 189 = .ok (.iload 4, 2) := by decide +kernel
theorem dX11_blocks_191 : decode cX11_blocks 191 = .ok (.invokevirtual 178, 3) := by decide +kernel
theorem dX11_blocks_194 : decode cX11_blocks 194 = .ok (.iinc 17 1, 3) := by decide +kernel
theorem dX11_blocks_197 : decode cX11_blocks 197 = .ok (.goto (-21), 3) := by decide +kernel
theorem dX11_blocks_200 : decode cX11_blocks 200 = .ok (.iload 12, 2) := by decide +kernel
theorem dX11_blocks_202 : decode cX11_blocks 202 = .ok (.ifCond .eq 25, 3) := by decide +kernel
theorem dX11_blocks_205 : decode cX11_blocks 205 = .ok (.lload 14, 2) := by decide +kernel
theorem dX11_blocks_207 : decode cX11_blocks 207 = .ok (.aload_n 0, 1) := by decide +kernel
theorem dX11_blocks_208 : decode cX11_blocks 208 = .ok (.getfield 99, 3) := by decide +kernel
theorem dX11_blocks_211 : decode cX11_blocks 211 = .ok (.iload 16, 2) := by decide +kernel
theorem dX11_blocks_213 : decode cX11_blocks 213 = .ok (.isub, 1) := by decide +kernel
theorem dX11_blocks_214 : decode cX11_blocks 214 = .ok (.i2l, 1) := by decide +kernel
theorem dX11_blocks_215 : decode cX11_blocks 215 = .ok (.lcmp, 1) := by decide +kernel
theorem dX11_blocks_216 : decode cX11_blocks 216 = .ok (.ifCond .eq 11, 3) := by decide +kernel
theorem dX11_blocks_219 : decode cX11_blocks 219 = .ok (.aload_n 0, 1) := by decide +kernel
theorem dX11_blocks_220 : decode cX11_blocks 220 = .ok (.bipush 6, 2) := by decide +kernel
theorem dX11_blocks_222 : decode cX11_blocks 222 = .ok (.iload 13, 2) := by decide +kernel
theorem dX11_blocks_224 : decode cX11_blocks 224 = .ok (.invokevirtual 102, 3) := by decide +kernel
theorem dX11_blocks_227 : decode cX11_blocks 227 = .ok (.iload 6, 2) := by decide +kernel
theorem dX11_blocks_229 : decode cX11_blocks 229 = .ok (.lload 9, 2) := by decide +kernel
theorem dX11_blocks_231 : decode cX11_blocks 231 = .ok (.l2i, 1) := by decide +kernel
theorem dX11_blocks_232 : decode cX11_blocks 232 = .ok (.iadd, 1) := by decide +kernel
theorem dX11_blocks_233 : decode cX11_blocks 233 = .ok (.istore 6, 2) := by decide +kernel
theorem dX11_blocks_235 : decode cX11_blocks 235 = .ok (.goto (-223), 3) := by decide +kernel
theorem dX11_blocks_238 : decode cX11_blocks 238 = .ok (.iload 4, 2) := by decide +kernel
theorem dX11_blocks_240 : decode cX11_blocks 240 = .ok (.ifCond .eq 16, 3) := by decide +kernel
theorem dX11_blocks_243 : decode cX11_blocks 243 = .ok (.aload_n 0, 1) := by decide +kernel
theorem dX11_blocks_244 : decode cX11_blocks 244 = .ok (.iload 5, 2) := by decide +kernel
theorem dX11_blocks_246 : decode cX11_blocks 246 = .ok (.iload 6, 2) := by decide +kernel
theorem dX11_blocks_248 : decode cX11_blocks 248 = .ok (.invokevirtual 181, 3) := by decide +kernel
theorem dX11_blocks_251 : decode cX11_blocks 251 = .ok (.aload_n 0, 1) := by decide +kernel
theorem dX11_blocks_252 : decode cX11_blocks 252 = .ok (.lconst 0, 1) := by decide +kernel
theorem dX11_blocks_253 : decode cX11_blocks 253 = .ok (.invokevirtual 126, 3) := by decide +kernel
theorem dX11_blocks_256 : decode cX11_blocks 256 = .ok (.return_, 1) := by decide +kernel
theorem dX11_insert_0 : decode cX11_insert 0 = .ok (.iload_n 2, 1) := by decide +kernel
theorem dX11_insert_1 : decode cX11_insert 1 = .ok (.ifCond .ne 4, 3) := by decide +kernel
theorem dX11_insert_4 : decode cX11_insert 4 = .ok (.return_, 1) := by decide +kernel
theorem dX11_insert_5 : decode cX11_insert 5 = .ok (.iload_n 2, 1) := by decide +kernel
theorem dX11_insert_6 : decode cX11_insert 6 = .ok (.i2l, 1) := by decide +kernel
theorem dX11_insert_7 : decode cX11_insert 7 = .ok (.invokestatic 184, 3) := by decide +kernel
theorem dX11_insert_10 : decode cX11_insert 10 = .ok (.istore_n 3, 1) := by decide +kernel
theorem dX11_insert_11 : decode cX11_insert 11 = .ok (.aload_n 0, 1) := by decide +kernel
theorem dX11_insert_12 : decode cX11_insert 12 = .ok (.getfield 115, 3) := by decide +kernel
theorem dX11_insert_15 : decode cX11_insert 15 = .ok (.iconst 1, 1) := by decide +kernel
theorem dX11_insert_16 : decode cX11_insert 16 = .ok (.isub, 1) := by decide +kernel
theorem dX11_insert_17 : decode cX11_insert 17 = .ok (.istore 4, 2) := by decide +kernel
theorem dX11_insert_19 : decode cX11_insert 19 = .ok (.iload 4, 2) := by decide +kernel
theorem dX11_insert_21 : decode cX11_insert 21 = .ok (.iload_n 1, 1) := by decide +kernel
theorem dX11_insert_22 : decode cX11_insert 22 = .ok (.if_icmp .lt 37, 3) := by decide +kernel
theorem dX11_insert_25 : decode cX11_insert 25 = .ok (.aload_n 0, 1) := by decide +kernel
theorem dX11_insert_26 : decode cX11_insert 26 = .ok (.getfield 115, 3) := by decide +kernel
theorem dX11_insert_29 : decode cX11_insert 29 = .ok (.iload_n 3, 1) := by decide +kernel
theorem dX11_insert_30 : decode cX11_insert 30 = .ok (.iadd, 1) := by decide +kernel
theorem dX11_insert_31 : decode cX11_insert 31 = .ok (.sipush 4200, 3) := by decide +kernel
theorem dX11_insert_34 : decode cX11_insert 34 = .ok (.if_icmp .gt 25, 3) := by decide +kernel
theorem dX11_insert_37 : decode cX11_insert 37 = .ok (.aload_n 0, 1) := by decide +kernel
theorem dX11_insert_38 : decode cX11_insert 38 = .ok (.getfield 44, 3) := by decide +kernel
theorem dX11_insert_41 : decode cX11_insert 41 = .ok (.iload 4, 2) := by decide +kernel
theorem dX11_insert_43 : decode cX11_insert 43 = .ok (.iload_n 3, 1) := by decide +kernel
theorem dX11_insert_44 : decode cX11_insert 44 = .ok (.iadd, 1) := by decide +kernel
theorem dX11_insert_45 : decode cX11_insert 45 = .ok (.aload_n 0, 1) := by decide +kernel
theorem dX11_insert_46 : decode cX11_insert 46 = .ok (.getfield 44, 3) := by decide +kernel
theorem dX11_insert_49 : decode cX11_insert 49 = .ok (.iload 4, 2) := by decide +kernel
theorem dX11_insert_51 : decode cX11_insert 51 = .ok (.baload, 1) := by decide +kernel
theorem dX11_insert_52 : decode cX11_insert 52 = .ok (.bastore, 1) := by decide +kernel
theorem dX11_insert_53 : decode cX11_insert 53 = .ok (.iinc 4 (-1), 3) := by decide +kernel
theorem dX11_insert_56 : decode cX11_insert 56 = .ok (.goto (-37), 3) := by decide +kernel
theorem dX11_insert_59 : decode cX11_insert 59 = .ok (.aload_n 0, 1) := by decide +kernel
theorem dX11_insert_60 : decode cX11_insert 60 = .ok (.getfield 115, 3) := by decide +kernel
theorem dX11_insert_63 : decode cX11_insert 63 = .ok (.istore 4, 2) := by decide +kernel
theorem dX11_insert_65 : decode cX11_insert 65 = .ok (.aload_n 0, 1) := by decide +kernel
theorem dX11_insert_66 : decode cX11_insert 66 = .ok (.iload_n 1, 1) := by decide +kernel
theorem dX11_insert_67 : decode cX11_insert 67 = .ok (.putfield 115, 3) := by decide +kernel
theorem dX11_insert_70 : decode cX11_insert 70 = .ok (.aload_n 0, 1) := by decide +kernel
theorem dX11_insert_71 : decode cX11_insert 71 = .ok (.iload_n 2, 1) := by decide +kernel
theorem dX11_insert_72 : decode cX11_insert 72 = .ok (.i2l, 1) := by decide +kernel
theorem dX11_insert_73 : decode cX11_insert 73 = .ok (.invokevirtual 126, 3) := by decide +kernel
theorem dX11_insert_76 : decode cX11_insert 76 = .ok (.aload_n 0, 1) := by decide +kernel
theorem dX11_insert_77 : decode cX11_insert 77 = .ok (.iload 4, 2) := by decide +kernel
theorem dX11_insert_79 : decode cX11_insert 79 = .ok (.iload_n 3, 1) := by decide +kernel
theorem dX11_insert_80 : decode cX11_insert 80 = .ok (.iadd, 1) := by decide +kernel
theorem dX11_insert_81 : decode cX11_insert 81 = .ok (.putfield 115, 3) := by decide +kernel
theorem dX11_insert_84 : decode cX11_insert 84 = .ok (.return_, 1) := by decide +kernel
theorem dX11_item_0 : decode cX11_item 0 = .ok (.aload_n 1, 1) := by decide +kernel
theorem dX11_item_1 : decode cX11_item 1 = .ok (.getfield 132, 3) := by decide +kernel
theorem dX11_item_4 : decode cX11_item 4 = .ok (.iload_n 2, 1) := by decide +kernel
theorem dX11_item_5 : decode cX11_item 5 = .ok (.iaload, 1) := by decide +kernel
theorem dX11_item_6 : decode cX11_item 6 = .ok (.bipush 7, 2) := by decide +kernel
theorem dX11_item_8 : decode cX11_item 8 = .ok (.if_icmp .ne 9, 3) := by decide +kernel
theorem dX11_item_11 : decode cX11_item 11 = .ok (.aload_n 0, 1) := by decide +kernel
theorem dX11_item_12 : decode cX11_item 12 = .ok (.iload 4, 2) := by decide +kernel
theorem dX11_item_14 : decode cX11_item 14 = .ok (.invokevirtual 139, 3) := by decide +kernel
theorem dX11_item_17 : decode cX11_item 17 = .ok (.aload_n 0, 1) := by decide +kernel
theorem dX11_item_18 : decode cX11_item 18 = .ok (.aload_n 1, 1) := by decide +kernel
theorem dX11_item_19 : decode cX11_item 19 = .ok (.aload_n 1, 1) := by decide +kernel
theorem dX11_item_20 : decode cX11_item 20 = .ok (.getfield 149, 3) := by decide +kernel
theorem dX11_item_23 : decode cX11_item 23 = .ok (.aload_n 1, 1) := by decide +kernel
theorem dX11_item_24 : decode cX11_item 24 = .ok (.getfield 160, 3) := by decide +kernel
theorem dX11_item_27 : decode cX11_item 27 = .ok (.iload_n 2, 1) := by decide +kernel
theorem dX11_item_28 : decode cX11_item 28 = .ok (.iaload, 1) := by decide +kernel
theorem dX11_item_29 : decode cX11_item 29 = .ok (.iaload, 1) := by decide +kernel
theorem dX11_item_30 : decode cX11_item 30 = .ok (.iload_n 3, 1) := by decide +kernel
theorem dX11_item_31 : decode cX11_item 31 = .ok (.iconst 1, 1) := by decide +kernel
theorem dX11_item_32 : decode cX11_item 32 = .ok (.iadd, 1) := by decide +kernel
theorem dX11_item_33 : decode cX11_item 33 = .ok (.iload 4, 2) := by decide +kernel
theorem dX11_item_35 : decode cX11_item 35 = .ok (.invokevirtual 156, 3) := by decide +kernel
theorem dX11_item_38 : decode cX11_item 38 = .ok (.return_, 1) := by decide +kernel
theorem dX11_lookAtRows_0 : decode cX11_lookAtRows 0 = .ok (.aload_n 0, 1) := by decide +kernel
theorem dX11_lookAtRows_1 : decode cX11_lookAtRows 1 = .ok (.iconst 0, 1) := by decide +kernel
theorem dX11_lookAtRows_2 : decode cX11_lookAtRows 2 = .ok (.putfield 99, 3) := by decide +kernel
theorem dX11_lookAtRows_5 : decode cX11_lookAtRows 5 = .ok (.aload_n 0, 1) := by decide +kernel
theorem dX11_lookAtRows_6 : decode cX11_lookAtRows 6 = .ok (.iconst 0, 1) := by decide +kernel
theorem dX11_lookAtRows_7 : decode cX11_lookAtRows 7 = .ok (.putfield 115, 3) := by decide +kernel
theorem dX11_lookAtRows_10 : decode cX11_lookAtRows 10 = .ok (.aload_n 0, 1) := by decide +kernel
theorem dX11_lookAtRows_11 : decode cX11_lookAtRows 11 = .ok (.iconst (-1), 1) := by decide +kernel
theorem dX11_lookAtRows_12 : decode cX11_lookAtRows 12 = .ok (.putfield 13, 3) := by decide +kernel
theorem dX11_lookAtRows_15 : decode cX11_lookAtRows 15 = .ok (.aload_n 0, 1) := by decide +kernel
theorem dX11_lookAtRows_16 : decode cX11_lookAtRows 16 = .ok (.getfield 57, 3) := by decide +kernel
theorem dX11_lookAtRows_19 : decode cX11_lookAtRows 19 = .ok (.ifCond .ne 6, 3) := by decide +kernel
theorem dX11_lookAtRows_22 : decode cX11_lookAtRows 22 = .ok (.bipush (-34), 2) := by decide +kernel
theorem dX11_lookAtRows_24 : decode cX11_lookAtRows 24 = .ok (.ireturn, 1) := by decide +kernel
theorem dX11_lookAtRows_25 : decode cX11_lookAtRows 25 = .ok (.iconst 0, 1) := by decide +kernel
theorem dX11_lookAtRows_26 : decode cX11_lookAtRows 26 = .ok (.istore_n 3, 1) := by decide +kernel
theorem dX11_lookAtRows_27 : decode cX11_lookAtRows 27 = .ok (.aload_n 0, 1) := by decide +kernel
theorem dX11_lookAtRows_28 : decode cX11_lookAtRows 28 = .ok (.getfield 99, 3) := by decide +kernel
theorem dX11_lookAtRows_31 : decode cX11_lookAtRows 31 = .ok (.aload_n 0, 1) := by decide +kernel
theorem dX11_lookAtRows_32 : decode cX11_lookAtRows 32 = .ok (.getfield 57, 3) := by decide +kernel
theorem dX11_lookAtRows_35 : decode cX11_lookAtRows 35 = .ok (.if_icmp .ge 48, 3) := by decide +kernel
theorem dX11_lookAtRows_38 : decode cX11_lookAtRows 38 = .ok (.aload_n 0, 1) := by decide +kernel
theorem dX11_lookAtRows_39 : decode cX11_lookAtRows 39 = .ok (.getfield 99, 3) := by decide +kernel
theorem dX11_lookAtRows_42 : decode cX11_lookAtRows 42 = .ok (.istore 4, 2) := by decide +kernel
theorem dX11_lookAtRows_44 : decode cX11_lookAtRows 44 = .ok (.aload_n 0, 1) := by decide +kernel
theorem dX11_lookAtRows_45 : decode cX11_lookAtRows 45 = .ok (.iconst 0, 1) := by decide +kernel
theorem dX11_lookAtRows_46 : decode cX11_lookAtRows 46 = .ok (.putfield 175, 3) := by decide +kernel
theorem dX11_lookAtRows_49 : decode cX11_lookAtRows 49 = .ok (.aload_n 0, 1) := by decide +kernel
theorem dX11_lookAtRows_50 : decode cX11_lookAtRows 50 = .ok (.iconst 0, 1) := by decide +kernel
theorem dX11_lookAtRows_51 : decode cX11_lookAtRows 51 = .ok (.putfield 129, 3) := by decide +kernel
theorem dX11_lookAtRows_54 : decode cX11_lookAtRows 54 = .ok (.aload_n 0, 1) := by decide +kernel
theorem dX11_lookAtRows_55 : decode cX11_lookAtRows 55 = .ok (.aload_n 1, 1) := by decide +kernel
theorem dX11_lookAtRows_56 : decode cX11_lookAtRows 56 = .ok (.aload_n 1, 1) := by decide +kernel
theorem dX11_lookAtRows_57 : decode cX11_lookAtRows 57 = .ok (.getfield 188, 3) := by decide +kernel
theorem dX11_lookAtRows_60 : decode cX11_lookAtRows 60 = .ok (.iconst 0, 1) := by decide +kernel
theorem dX11_lookAtRows_61 : decode cX11_lookAtRows 61 = .ok (.iload_n 2, 1) := by decide +kernel
theorem dX11_lookAtRows_62 : decode cX11_lookAtRows 62 = .ok (.invokevirtual 156, 3) := by decide +kernel
theorem dX11_lookAtRows_65 : decode cX11_lookAtRows 65 = .ok (.aload_n 0, 1) := by decide +kernel
theorem dX11_lookAtRows_66 : decode cX11_lookAtRows 66 = .ok (.getfield 99, 3) := by decide +kernel
theorem dX11_lookAtRows_69 : decode cX11_lookAtRows 69 = .ok (.iload 4, 2) := by decide +kernel
theorem dX11_lookAtRows_71 : decode cX11_lookAtRows 71 = .ok (.if_icmp .ne 6, 3) := by decide +kernel
theorem dX11_lookAtRows_74 : decode cX11_lookAtRows 74 = .ok (.bipush (-34), 2) := by decide +kernel
theorem dX11_lookAtRows_76 : decode cX11_lookAtRows 76 = .ok (.ireturn, 1) := by decide +kernel
theorem dX11_lookAtRows_77 : decode cX11_lookAtRows 77 = .ok (.iinc 3 1, 3) := by decide +kernel
theorem dX11_lookAtRows_80 : decode cX11_lookAtRows 80 = .ok (.goto (-53), 3) := by decide +kernel
theorem dX11_lookAtRows_83 : decode cX11_lookAtRows 83 = .ok (.goto 19, 3) := by decide +kernel
theorem dX11_lookAtRows_86 : decode cX11_lookAtRows 86 = .ok (.astore 4, 2) := by decide +kernel
theorem dX11_lookAtRows_88 : decode cX11_lookAtRows 88 = .ok (.aload_n 0, 1) := by decide +kernel
theorem dX11_lookAtRows_89 : decode cX11_lookAtRows 89 = .ok (.aload_n 0, 1) := by decide +kernel
theorem dX11_lookAtRows_90 : decode cX11_lookAtRows 90 = .ok (.getfield 90, 3) := by decide +kernel
theorem dX11_lookAtRows_93 : decode cX11_lookAtRows 93 = .ok (.putfield 13, 3) := by decide +kernel
theorem dX11_lookAtRows_96 : decode cX11_lookAtRows 96 = .ok (.aload_n 0, 1) := by decide +kernel
theorem dX11_lookAtRows_97 : decode cX11_lookAtRows 97 = .ok (.getfield 87, 3) := by decide +kernel
theorem dX11_lookAtRows_100 : decode cX11_lookAtRows 100 = .ok (.ineg, 1) := by decide +kernel
theorem dX11_lookAtRows_101 : decode cX11_lookAtRows 101 = .ok (.ireturn, 1) := by decide +kernel
theorem dX11_lookAtRows_102 : decode cX11_lookAtRows 102 = .ok (.iload_n 3, 1) := by decide +kernel
theorem dX11_lookAtRows_103 : decode cX11_lookAtRows 103 = .ok (.ireturn, 1) := by decide +kernel
theorem dX11_load_0 : decode cX11_load 0 = .ok (.aload_n 0, 1) := by decide +kernel
theorem dX11_load_1 : decode cX11_load 1 = .ok (.iload_n 1, 1) := by decide +kernel
theorem dX11_load_2 : decode cX11_load 2 = .ok (.invokestatic 76, 3) := by decide +kernel
theorem dX11_load_5 : decode cX11_load 5 = .ok (.ifCond .ne 7, 3) := by decide +kernel
theorem dX11_load_8 : decode cX11_load 8 = .ok (.iconst 1, 1) := by decide +kernel
theorem dX11_load_9 : decode cX11_load 9 = .ok (.goto 4, 3) := by decide +kernel
theorem dX11_load_12 : decode cX11_load 12 = .ok (.iconst 0, 1) := by decide +kernel
theorem dX11_load_13 : decode cX11_load 13 = .ok (.iload_n 1, 1) := by decide +kernel
theorem dX11_load_14 : decode cX11_load 14 = .ok (.invokestatic 76, 3) := by decide +kernel
theorem dX11_load_17 : decode cX11_load 17 = .ok (.ifCond .eq 16, 3) := by decide +kernel
theorem dX11_load_20 : decode cX11_load 20 = .ok (.aload_n 0, 1) := by decide +kernel
theorem dX11_load_21 : decode cX11_load 21 = .ok (.getfield 31, 3) := by decide +kernel
theorem dX11_load_24 : decode cX11_load 24 = .ok (.iload_n 1, 1) := by decide +kernel
theorem dX11_load_25 : decode cX11_load 25 = .ok (.iaload, 1) := by decide +kernel
theorem dX11_load_26 : decode cX11_load 26 = .ok (.ifCond .ge 7, 3) := by decide +kernel
theorem dX11_load_29 : decode cX11_load 29 = .ok (.iconst 1, 1) := by decide +kernel
theorem dX11_load_30 : decode cX11_load 30 = .ok (.goto 4, 3) := by decide +kernel
theorem dX11_load_33 : decode cX11_load 33 = .ok (.iconst 0, 1) := by decide +kernel
theorem dX11_load_34 : decode cX11_load 34 = .ok (.invokevirtual 60, 3) := by decide +kernel
theorem dX11_load_37 : decode cX11_load 37 = .ok (.ifCond .eq 5, 3) := by decide +kernel
theorem dX11_load_40 : decode cX11_load 40 = .ok (.iconst 0, 1) := by decide +kernel
theorem dX11_load_41 : decode cX11_load 41 = .ok (.ireturn, 1) := by decide +kernel
theorem dX11_load_42 : decode cX11_load 42 = .ok (.aload_n 0, 1) := by decide +kernel
theorem dX11_load_43 : decode cX11_load 43 = .ok (.aload_n 0, 1) := by decide +kernel
theorem dX11_load_44 : decode cX11_load 44 = .ok (.getfield 20, 3) := by decide +kernel
theorem dX11_load_47 : decode cX11_load 47 = .ok (.iload_n 1, 1) := by decide +kernel
theorem dX11_load_48 : decode cX11_load 48 = .ok (.invokevirtual 191, 3) := by decide +kernel
theorem dX11_load_51 : decode cX11_load 51 = .ok (.aload_n 0, 1) := by decide +kernel
theorem dX11_load_52 : decode cX11_load 52 = .ok (.aload_n 0, 1) := by decide +kernel
theorem dX11_load_53 : decode cX11_load 53 = .ok (.getfield 20, 3) := by decide +kernel
theorem dX11_load_56 : decode cX11_load 56 = .ok (.iconst 1, 1) := by decide +kernel
theorem dX11_load_57 : decode cX11_load 57 = .ok (.invokevirtual 194, 3) := by decide +kernel
theorem dX11_load_60 : decode cX11_load 60 = .ok (.istore_n 2, 1) := by decide +kernel
theorem dX11_load_61 : decode cX11_load 61 = .ok (.iload_n 2, 1) := by decide +kernel
theorem dX11_load_62 : decode cX11_load 62 = .ok (.ifCond .ge 5, 3) := by decide +kernel
theorem dX11_load_65 : decode cX11_load 65 = .ok (.iload_n 2, 1) := by decide +kernel
theorem dX11_load_66 : decode cX11_load 66 = .ok (.ireturn, 1) := by decide +kernel
theorem dX11_load_67 : decode cX11_load 67 = .ok (.aload_n 0, 1) := by decide +kernel
theorem dX11_load_68 : decode cX11_load 68 = .ok (.iload_n 1, 1) := by decide +kernel
theorem dX11_load_69 : decode cX11_load 69 = .ok (.putfield 38, 3) := by decide +kernel
theorem dX11_load_72 : decode cX11_load 72 = .ok (.aload_n 0, 1) := by decide +kernel
theorem dX11_load_73 : decode cX11_load 73 = .ok (.iload_n 2, 1) := by decide +kernel
theorem dX11_load_74 : decode cX11_load 74 = .ok (.putfield 81, 3) := by decide +kernel
theorem dX11_load_77 : decode cX11_load 77 = .ok (.aload_n 0, 1) := by decide +kernel
theorem dX11_load_78 : decode cX11_load 78 = .ok (.aload_n 0, 1) := by decide +kernel
theorem dX11_load_79 : decode cX11_load 79 = .ok (.getfield 115, 3) := by decide +kernel
theorem dX11_load_82 : decode cX11_load 82 = .ok (.putfield 84, 3) := by decide +kernel
theorem dX11_load_85 : decode cX11_load 85 = .ok (.iconst 0, 1) := by decide +kernel
theorem dX11_load_86 : decode cX11_load 86 = .ok (.istore_n 3, 1) := by decide +kernel
theorem dX11_load_87 : decode cX11_load 87 = .ok (.iload_n 3, 1) := by decide +kernel
theorem dX11_load_88 : decode cX11_load 88 = .ok (.aload_n 0, 1) := by decide +kernel
theorem dX11_load_89 : decode cX11_load 89 = .ok (.getfield 115, 3) := by decide +kernel
theorem dX11_load_92 : decode cX11_load 92 = .ok (.if_icmp .ge 21, 3) := by decide +kernel
theorem dX11_load_95 : decode cX11_load 95 = .ok (.aload_n 0, 1) := by decide +kernel
theorem dX11_load_96 : decode cX11_load 96 = .ok (.getfield 35, 3) := by decide +kernel
theorem dX11_load_99 : decode cX11_load 99 = .ok (.iload_n 3, 1) := by decide +kernel
theorem dX11_load_100 : decode cX11_load 100 = .ok (.aload_n 0, 1) := by decide +kernel
theorem dX11_load_101 : decode cX11_load 101 = .ok (.getfield 44, 3) := by decide +kernel
theorem dX11_load_104 : decode cX11_load 104 = .ok (.iload_n 3, 1) := by decide +kernel
theorem dX11_load_105 : decode cX11_load 105 = .ok (.baload, 1) := by decide +kernel
theorem dX11_load_106 : decode cX11_load 106 = .ok (.bastore, 1) := by decide +kernel
theorem dX11_load_107 : decode cX11_load 107 = .ok (.iinc 3 1, 3) := by decide +kernel
theorem dX11_load_110 : decode cX11_load 110 = .ok (.goto (-23), 3) := by decide +kernel
theorem dX11_load_113 : decode cX11_load 113 = .ok (.aload_n 0, 1) := by decide +kernel
theorem dX11_load_114 : decode cX11_load 114 = .ok (.iconst 0, 1) := by decide +kernel
theorem dX11_load_115 : decode cX11_load 115 = .ok (.putfield 57, 3) := by decide +kernel
theorem dX11_load_118 : decode cX11_load 118 = .ok (.iload_n 2, 1) := by decide +kernel
theorem dX11_load_119 : decode cX11_load 119 = .ok (.ireturn, 1) := by decide +kernel
theorem dX11_place_0 : decode cX11_place 0 = .ok (.aload_n 0, 1) := by decide +kernel
theorem dX11_place_1 : decode cX11_place 1 = .ok (.iconst 0, 1) := by decide +kernel
theorem dX11_place_2 : decode cX11_place 2 = .ok (.putfield 54, 3) := by decide +kernel
theorem dX11_place_5 : decode cX11_place 5 = .ok (.aload_n 0, 1) := by decide +kernel
theorem dX11_place_6 : decode cX11_place 6 = .ok (.getfield 13, 3) := by decide +kernel
theorem dX11_place_9 : decode cX11_place 9 = .ok (.ireturn, 1) := by decide +kernel
theorem dX11_rows_0 : decode cX11_rows 0 = .ok (.aload_n 0, 1) := by decide +kernel
theorem dX11_rows_1 : decode cX11_rows 1 = .ok (.iconst 0, 1) := by decide +kernel
theorem dX11_rows_2 : decode cX11_rows 2 = .ok (.putfield 54, 3) := by decide +kernel
theorem dX11_rows_5 : decode cX11_rows 5 = .ok (.aload_n 0, 1) := by decide +kernel
theorem dX11_rows_6 : decode cX11_rows 6 = .ok (.getfield 81, 3) := by decide +kernel
theorem dX11_rows_9 : decode cX11_rows 9 = .ok (.ireturn, 1) := by decide +kernel
theorem dX11_size_0 : decode cX11_size 0 = .ok (.aload_n 0, 1) := by decide +kernel
theorem dX11_size_1 : decode cX11_size 1 = .ok (.iload_n 1, 1) := by decide +kernel
theorem dX11_size_2 : decode cX11_size 2 = .ok (.iconst 0, 1) := by decide +kernel
theorem dX11_size_3 : decode cX11_size 3 = .ok (.iconst 1, 1) := by decide +kernel
theorem dX11_size_4 : decode cX11_size 4 = .ok (.invokestatic 68, 3) := by decide +kernel
theorem dX11_size_7 : decode cX11_size 7 = .ok (.ifCond .ne 7, 3) := by decide +kernel
theorem dX11_size_10 : decode cX11_size 10 = .ok (.iconst 1, 1) := by decide +kernel
theorem dX11_size_11 : decode cX11_size 11 = .ok (.goto 4, 3) := by decide +kernel
theorem dX11_size_14 : decode cX11_size 14 = .ok (.iconst 0, 1) := by decide +kernel
theorem dX11_size_15 : decode cX11_size 15 = .ok (.iconst 0, 1) := by decide +kernel
theorem dX11_size_16 : decode cX11_size 16 = .ok (.invokevirtual 60, 3) := by decide +kernel
theorem dX11_size_19 : decode cX11_size 19 = .ok (.ifCond .eq 7, 3) := by decide +kernel
theorem dX11_size_22 : decode cX11_size 22 = .ok (.iconst 0, 1) := by decide +kernel
theorem dX11_size_23 : decode cX11_size 23 = .ok (.goto 18, 3) := by decide +kernel
theorem dX11_size_26 : decode cX11_size 26 = .ok (.iload_n 1, 1) := by decide +kernel
theorem dX11_size_27 : decode cX11_size 27 = .ok (.ifCond .ne 10, 3) := by decide +kernel
theorem dX11_size_30 : decode cX11_size 30 = .ok (.aload_n 0, 1) := by decide +kernel
theorem dX11_size_31 : decode cX11_size 31 = .ok (.getfield 84, 3) := by decide +kernel
theorem dX11_size_34 : decode cX11_size 34 = .ok (.goto 7, 3) := by decide +kernel
theorem dX11_size_37 : decode cX11_size 37 = .ok (.aload_n 0, 1) := by decide +kernel
theorem dX11_size_38 : decode cX11_size 38 = .ok (.getfield 198, 3) := by decide +kernel
theorem dX11_size_41 : decode cX11_size 41 = .ok (.ireturn, 1) := by decide +kernel
theorem dX11_letter_0 : decode cX11_letter 0 = .ok (.iload_n 2, 1) := by decide +kernel
theorem dX11_letter_1 : decode cX11_letter 1 = .ok (.iconst 0, 1) := by decide +kernel
theorem dX11_letter_2 : decode cX11_letter 2 = .ok (.iconst 1, 1) := by decide +kernel
theorem dX11_letter_3 : decode cX11_letter 3 = .ok (.invokestatic 68, 3) := by decide +kernel
theorem dX11_letter_6 : decode cX11_letter 6 = .ok (.ifCond .ne 7, 3) := by decide +kernel
theorem dX11_letter_9 : decode cX11_letter 9 = .ok (.iconst 1, 1) := by decide +kernel
theorem dX11_letter_10 : decode cX11_letter 10 = .ok (.goto 4, 3) := by decide +kernel
theorem dX11_letter_13 : decode cX11_letter 13 = .ok (.iconst 0, 1) := by decide +kernel
theorem dX11_letter_14 : decode cX11_letter 14 = .ok (.istore_n 3, 1) := by decide +kernel
theorem dX11_letter_15 : decode cX11_letter 15 = .ok (.aload_n 0, 1) := by decide +kernel
theorem dX11_letter_16 : decode cX11_letter 16 = .ok (.iload_n 3, 1) := by decide +kernel
theorem dX11_letter_17 : decode cX11_letter 17 = .ok (.ifCond .ne 32, 3) := by decide +kernel
theorem dX11_letter_20 : decode cX11_letter 20 = .ok (.iload_n 1, 1) := by decide +kernel
theorem dX11_letter_21 : decode cX11_letter 21 = .ok (.iconst 0, 1) := by decide +kernel
theorem dX11_letter_22 : decode cX11_letter 22 = .ok (.iload_n 2, 1) := by decide +kernel
theorem dX11_letter_23 : decode cX11_letter 23 = .ok (.ifCond .ne 10, 3) := by decide +kernel
theorem dX11_letter_26 : decode cX11_letter 26 = .ok (.aload_n 0, 1) := by decide +kernel
theorem dX11_letter_27 : decode cX11_letter 27 = .ok (.getfield 84, 3) := by decide +kernel
theorem dX11_letter_30 : decode cX11_letter 30 = .ok (.goto 7, 3) := by decide +kernel
theorem dX11_letter_33 : decode cX11_letter 33 = .ok (.aload_n 0, 1) := by decide +kernel
theorem dX11_letter_34 : decode cX11_letter 34 = .ok (.getfield 198, 3) := by decide +kernel
theorem dX11_letter_37 : decode cX11_letter 37 = .ok (.iconst 1, 1) := by decide +kernel
theorem dX11_letter_38 : decode cX11_letter 38 = .ok (.isub, 1) := by decide +kernel
theorem dX11_letter_39 : decode cX11_letter 39 = .ok (.invokestatic 68, 3) := by decide +kernel
theorem dX11_letter_42 : decode cX11_letter 42 = .ok (.ifCond .ne 7, 3) := by decide +kernel
theorem dX11_letter_45 : decode cX11_letter 45 = .ok (.iconst 1, 1) := by decide +kernel
theorem dX11_letter_46 : decode cX11_letter 46 = .ok (.goto 4, 3) := by decide +kernel
theorem dX11_letter_49 : decode cX11_letter 49 = .ok (.iconst 0, 1) := by decide +kernel
theorem dX11_letter_50 : decode cX11_letter 50 = .ok (.iload_n 3, 1) := by decide +kernel
theorem dX11_letter_51 : decode cX11_letter 51 = .ok (.invokevirtual 60, 3) := by decide +kernel
theorem dX11_letter_54 : decode cX11_letter 54 = .ok (.ifCond .eq 5, 3) := by decide +kernel
theorem dX11_letter_57 : decode cX11_letter 57 = .ok (.iconst 0, 1) := by decide +kernel
theorem dX11_letter_58 : decode cX11_letter 58 = .ok (.ireturn, 1) := by decide +kernel
theorem dX11_letter_59 : decode cX11_letter 59 = .ok (.iload_n 2, 1) := by decide +kernel
theorem dX11_letter_60 : decode cX11_letter 60 = .ok (.ifCond .ne 16, 3) := by decide +kernel
theorem dX11_letter_63 : decode cX11_letter 63 = .ok (.aload_n 0, 1) := by decide +kernel
theorem dX11_letter_64 : decode cX11_letter 64 = .ok (.getfield 35, 3) := by decide +kernel
theorem dX11_letter_67 : decode cX11_letter 67 = .ok (.iload_n 1, 1) := by decide +kernel
theorem dX11_letter_68 : decode cX11_letter 68 = .ok (.baload, 1) := by decide +kernel
theorem dX11_letter_69 : decode cX11_letter 69 = .ok (.sipush 255, 3) := by decide +kernel
theorem dX11_letter_72 : decode cX11_letter 72 = .ok (.iand, 1) := by decide +kernel
theorem dX11_letter_73 : decode cX11_letter 73 = .ok (.goto 13, 3) := by decide +kernel
theorem dX11_letter_76 : decode cX11_letter 76 = .ok (.aload_n 0, 1) := by decide +kernel
theorem dX11_letter_77 : decode cX11_letter 77 = .ok (.getfield 41, 3) := by decide +kernel
theorem dX11_letter_80 : decode cX11_letter 80 = .ok (.iload_n 1, 1) := by decide +kernel
theorem dX11_letter_81 : decode cX11_letter 81 = .ok (.baload, 1) := by decide +kernel
theorem dX11_letter_82 : decode cX11_letter 82 = .ok (.sipush 255, 3) := by decide +kernel
theorem dX11_letter_85 : decode cX11_letter 85 = .ok (.iand, 1) := by decide +kernel
theorem dX11_letter_86 : decode cX11_letter 86 = .ok (.ireturn, 1) := by decide +kernel
theorem dX11_sixOf_0 : decode cX11_sixOf 0 = .ok (.iload_n 0, 1) := by decide +kernel
theorem dX11_sixOf_1 : decode cX11_sixOf 1 = .ok (.bipush 6, 2) := by decide +kernel
theorem dX11_sixOf_3 : decode cX11_sixOf 3 = .ok (.if_icmp .ge 7, 3) := by decide +kernel
theorem dX11_sixOf_6 : decode cX11_sixOf 6 = .ok (.iconst 1, 1) := by decide +kernel
theorem dX11_sixOf_7 : decode cX11_sixOf 7 = .ok (.goto 4, 3) := by decide +kernel
theorem dX11_sixOf_10 : decode cX11_sixOf 10 = .ok (.iconst 0, 1) := by decide +kernel
theorem dX11_sixOf_11 : decode cX11_sixOf 11 = .ok (.ireturn, 1) := by decide +kernel
theorem dX11_matchesSix_0 : decode cX11_matchesSix 0 = .ok (.iload_n 0, 1) := by decide +kernel
theorem dX11_matchesSix_1 : decode cX11_matchesSix 1 = .ok (.iload_n 1, 1) := by decide +kernel
theorem dX11_matchesSix_2 : decode cX11_matchesSix 2 = .ok (.if_icmp .eq 33, 3) := by decide +kernel
theorem dX11_matchesSix_5 : decode cX11_matchesSix 5 = .ok (.iload_n 0, 1) := by decide +kernel
theorem dX11_matchesSix_6 : decode cX11_matchesSix 6 = .ok (.iconst 2, 1) := by decide +kernel
theorem dX11_matchesSix_7 : decode cX11_matchesSix 7 = .ok (.if_icmp .ne 8, 3) := by decide +kernel
theorem dX11_matchesSix_10 : decode cX11_matchesSix 10 = .ok (.iload_n 1, 1) := by decide +kernel
theorem dX11_matchesSix_11 : decode cX11_matchesSix 11 = .ok (.iconst 3, 1) := by decide +kernel
theorem dX11_matchesSix_12 : decode cX11_matchesSix 12 = .ok (.if_icmp .eq 23, 3) := by decide +kernel
theorem dX11_matchesSix_15 : decode cX11_matchesSix 15 = .ok (.iload_n 0, 1) := by decide +kernel
theorem dX11_matchesSix_16 : decode cX11_matchesSix 16 = .ok (.iconst 4, 1) := by decide +kernel
theorem dX11_matchesSix_17 : decode cX11_matchesSix 17 = .ok (.if_icmp .eq 8, 3) := by decide +kernel
theorem dX11_matchesSix_20 : decode cX11_matchesSix 20 = .ok (.iload_n 0, 1) := by decide +kernel
theorem dX11_matchesSix_21 : decode cX11_matchesSix 21 = .ok (.iconst 5, 1) := by decide +kernel
theorem dX11_matchesSix_22 : decode cX11_matchesSix 22 = .ok (.if_icmp .ne 17, 3) := by decide +kernel
theorem dX11_matchesSix_25 : decode cX11_matchesSix 25 = .ok (.iload_n 1, 1) := by decide +kernel
theorem dX11_matchesSix_26 : decode cX11_matchesSix 26 = .ok (.iconst 4, 1) := by decide +kernel
theorem dX11_matchesSix_27 : decode cX11_matchesSix 27 = .ok (.if_icmp .eq 8, 3) := by decide +kernel
theorem dX11_matchesSix_30 : decode cX11_matchesSix 30 = .ok (.iload_n 1, 1) := by decide +kernel
theorem dX11_matchesSix_31 : decode cX11_matchesSix 31 = .ok (.iconst 5, 1) := by decide +kernel
theorem dX11_matchesSix_32 : decode cX11_matchesSix 32 = .ok (.if_icmp .ne 7, 3) := by decide +kernel
theorem dX11_matchesSix_35 : decode cX11_matchesSix 35 = .ok (.iconst 1, 1) := by decide +kernel
theorem dX11_matchesSix_36 : decode cX11_matchesSix 36 = .ok (.goto 4, 3) := by decide +kernel
theorem dX11_matchesSix_39 : decode cX11_matchesSix 39 = .ok (.iconst 0, 1) := by decide +kernel
theorem dX11_matchesSix_40 : decode cX11_matchesSix 40 = .ok (.ireturn, 1) := by decide +kernel
theorem dX11_matches_0 : decode cX11_matches 0 = .ok (.aload_n 0, 1) := by decide +kernel
theorem dX11_matches_1 : decode cX11_matches 1 = .ok (.getfield 132, 3) := by decide +kernel
theorem dX11_matches_4 : decode cX11_matches 4 = .ok (.iload_n 1, 1) := by decide +kernel
theorem dX11_matches_5 : decode cX11_matches 5 = .ok (.iaload, 1) := by decide +kernel
theorem dX11_matches_6 : decode cX11_matches 6 = .ok (.istore 4, 2) := by decide +kernel
theorem dX11_matches_8 : decode cX11_matches 8 = .ok (.aload_n 2, 1) := by decide +kernel
theorem dX11_matches_9 : decode cX11_matches 9 = .ok (.getfield 132, 3) := by decide +kernel
theorem dX11_matches_12 : decode cX11_matches 12 = .ok (.iload_n 3, 1) := by decide +kernel
theorem dX11_matches_13 : decode cX11_matches 13 = .ok (.iaload, 1) := by decide +kernel
theorem dX11_matches_14 : decode cX11_matches 14 = .ok (.istore 5, 2) := by decide +kernel
theorem dX11_matches_16 : decode cX11_matches 16 = .ok (.iload 4, 2) := by decide +kernel
theorem dX11_matches_18 : decode cX11_matches 18 = .ok (.bipush 8, 2) := by decide +kernel
theorem dX11_matches_20 : decode cX11_matches 20 = .ok (.if_icmp .eq 10, 3) := by decide +kernel
theorem dX11_matches_23 : decode cX11_matches 23 = .ok (.iload 5, 2) := by decide +kernel
theorem dX11_matches_25 : decode cX11_matches 25 = .ok (.bipush 8, 2) := by decide +kernel
theorem dX11_matches_27 : decode cX11_matches 27 = .ok (.if_icmp .ne 5, 3) := by decide +kernel
theorem dX11_matches_30 : decode cX11_matches 30 = .ok (.iconst 1, 1) := by decide +kernel
theorem dX11_matches_31 : decode cX11_matches 31 = .ok (.ireturn, 1) := by decide +kernel
theorem dX11_matches_32 : decode cX11_matches 32 = .ok (.iload 4, 2) := by decide +kernel
theorem dX11_matches_34 : decode cX11_matches 34 = .ok (.invokestatic 201, 3) := by decide +kernel
theorem dX11_matches_37 : decode cX11_matches 37 = .ok (.ifCond .ne 11, 3) := by decide +kernel
theorem dX11_matches_40 : decode cX11_matches 40 = .ok (.iload 5, 2) := by decide +kernel
theorem dX11_matches_42 : decode cX11_matches 42 = .ok (.invokestatic 201, 3) := by decide +kernel
theorem dX11_matches_45 : decode cX11_matches 45 = .ok (.ifCond .eq 35, 3) := by decide +kernel
theorem dX11_matches_48 : decode cX11_matches 48 = .ok (.iload 4, 2) := by decide +kernel
theorem dX11_matches_50 : decode cX11_matches 50 = .ok (.invokestatic 201, 3) := by decide +kernel
theorem dX11_matches_53 : decode cX11_matches 53 = .ok (.ifCond .eq 25, 3) := by decide +kernel
theorem dX11_matches_56 : decode cX11_matches 56 = .ok (.iload 5, 2) := by decide +kernel
theorem dX11_matches_58 : decode cX11_matches 58 = .ok (.invokestatic 201, 3) := by decide +kernel
theorem dX11_matches_61 : decode cX11_matches 61 = .ok (.ifCond .eq 17, 3) := by decide +kernel
theorem dX11_matches_64 : decode cX11_matches 64 = .ok (.iload 4, 2) := by decide +kernel
theorem dX11_matches_66 : decode cX11_matches 66 = .ok (.iload 5, 2) := by decide +kernel
theorem dX11_matches_68 : decode cX11_matches 68 = .ok (.invokestatic 204, 3) := by decide +kernel
theorem dX11_matches_71 : decode cX11_matches 71 = .ok (.ifCond .eq 7, 3) := by decide +kernel
theorem dX11_matches_74 : decode cX11_matches 74 = .ok (.iconst 1, 1) := by decide +kernel
theorem dX11_matches_75 : decode cX11_matches 75 = .ok (.goto 4, 3) := by decide +kernel
theorem dX11_matches_78 : decode cX11_matches 78 = .ok (.iconst 0, 1) := by decide +kernel
theorem dX11_matches_79 : decode cX11_matches 79 = .ok (.ireturn, 1) := by decide +kernel
theorem dX11_matches_80 : decode cX11_matches 80 = .ok (.iload 4, 2) := by decide +kernel
theorem dX11_matches_82 : decode cX11_matches 82 = .ok (.iload 5, 2) := by decide +kernel
theorem dX11_matches_84 : decode cX11_matches 84 = .ok (.if_icmp .eq 5, 3) := by decide +kernel
theorem dX11_matches_87 : decode cX11_matches 87 = .ok (.iconst 0, 1) := by decide +kernel
theorem dX11_matches_88 : decode cX11_matches 88 = .ok (.ireturn, 1) := by decide +kernel
theorem dX11_matches_89 : decode cX11_matches 89 = .ok (.iload 4, 2) := by decide +kernel
theorem dX11_matches_91 : decode cX11_matches 91 = .ok (.bipush 6, 2) := by decide +kernel
theorem dX11_matches_93 : decode cX11_matches 93 = .ok (.if_icmp .eq 10, 3) := by decide +kernel
theorem dX11_matches_96 : decode cX11_matches 96 = .ok (.iload 4, 2) := by decide +kernel
theorem dX11_matches_98 : decode cX11_matches 98 = .ok (.bipush 7, 2) := by decide +kernel
theorem dX11_matches_100 : decode cX11_matches 100 = .ok (.if_icmp .ne 31, 3) := by decide +kernel
theorem dX11_matches_103 : decode cX11_matches 103 = .ok (.aload_n 0, 1) := by decide +kernel
theorem dX11_matches_104 : decode cX11_matches 104 = .ok (.aload_n 0, 1) := by decide +kernel
theorem dX11_matches_105 : decode cX11_matches 105 = .ok (.getfield 149, 3) := by decide +kernel
theorem dX11_matches_108 : decode cX11_matches 108 = .ok (.aload_n 0, 1) := by decide +kernel
theorem dX11_matches_109 : decode cX11_matches 109 = .ok (.getfield 160, 3) := by decide +kernel
theorem dX11_matches_112 : decode cX11_matches 112 = .ok (.iload_n 1, 1) := by decide +kernel
theorem dX11_matches_113 : decode cX11_matches 113 = .ok (.iaload, 1) := by decide +kernel
theorem dX11_matches_114 : decode cX11_matches 114 = .ok (.iaload, 1) := by decide +kernel
theorem dX11_matches_115 : decode cX11_matches 115 = .ok (.aload_n 2, 1) := by decide +kernel
theorem dX11_matches_116 : decode cX11_matches 116 = .ok (.aload_n 2, 1) := by decide +kernel
theorem dX11_matches_117 : decode cX11_matches 117 = .ok (.getfield 149, 3) := by decide +kernel
theorem dX11_matches_120 : decode cX11_matches 120 = .ok (.aload_n 2, 1) := by decide +kernel
theorem dX11_matches_121 : decode cX11_matches 121 = .ok (.getfield 160, 3) := by decide +kernel
theorem dX11_matches_124 : decode cX11_matches 124 = .ok (.iload_n 3, 1) := by decide +kernel
theorem dX11_matches_125 : decode cX11_matches 125 = .ok (.iaload, 1) := by decide +kernel
theorem dX11_matches_126 : decode cX11_matches 126 = .ok (.iaload, 1) := by decide +kernel
theorem dX11_matches_127 : decode cX11_matches 127 = .ok (.invokestatic 208, 3) := by decide +kernel
theorem dX11_matches_130 : decode cX11_matches 130 = .ok (.ireturn, 1) := by decide +kernel
theorem dX11_matches_131 : decode cX11_matches 131 = .ok (.aload_n 0, 1) := by decide +kernel
theorem dX11_matches_132 : decode cX11_matches 132 = .ok (.aload_n 0, 1) := by decide +kernel
theorem dX11_matches_133 : decode cX11_matches 133 = .ok (.getfield 212, 3) := by decide +kernel
theorem dX11_matches_136 : decode cX11_matches 136 = .ok (.iload_n 1, 1) := by decide +kernel
theorem dX11_matches_137 : decode cX11_matches 137 = .ok (.iaload, 1) := by decide +kernel
theorem dX11_matches_138 : decode cX11_matches 138 = .ok (.aload_n 2, 1) := by decide +kernel
theorem dX11_matches_139 : decode cX11_matches 139 = .ok (.aload_n 2, 1) := by decide +kernel
theorem dX11_matches_140 : decode cX11_matches 140 = .ok (.getfield 212, 3) := by decide +kernel
theorem dX11_matches_143 : decode cX11_matches 143 = .ok (.iload_n 3, 1) := by decide +kernel
theorem dX11_matches_144 : decode cX11_matches 144 = .ok (.iaload, 1) := by decide +kernel
theorem dX11_matches_145 : decode cX11_matches 145 = .ok (.invokevirtual 215, 3) := by decide +kernel
theorem dX11_matches_148 : decode cX11_matches 148 = .ok (.ifCond .eq 29, 3) := by decide +kernel
theorem dX11_matches_151 : decode cX11_matches 151 = .ok (.iload 4, 2) := by decide +kernel
theorem dX11_matches_153 : decode cX11_matches 153 = .ok (.bipush 9, 2) := by decide +kernel
theorem dX11_matches_155 : decode cX11_matches 155 = .ok (.if_icmp .ne 18, 3) := by decide +kernel
theorem dX11_matches_158 : decode cX11_matches 158 = .ok (.aload_n 0, 1) := by decide +kernel
theorem dX11_matches_159 : decode cX11_matches 159 = .ok (.getfield 143, 3) := by decide +kernel
theorem dX11_matches_162 : decode cX11_matches 162 = .ok (.iload_n 1, 1) := by decide +kernel
theorem dX11_matches_163 : decode cX11_matches 163 = .ok (.iaload, 1) := by decide +kernel
theorem dX11_matches_164 : decode cX11_matches 164 = .ok (.aload_n 2, 1) := by decide +kernel
theorem dX11_matches_165 : decode cX11_matches 165 = .ok (.getfield 143, 3) := by decide +kernel
theorem dX11_matches_168 : decode cX11_matches 168 = .ok (.iload_n 3, 1) := by decide +kernel
theorem dX11_matches_169 : decode cX11_matches 169 = .ok (.iaload, 1) := by decide +kernel
theorem dX11_matches_170 : decode cX11_matches 170 = .ok (.if_icmp .ne 7, 3) := by decide +kernel
theorem dX11_matches_173 : decode cX11_matches 173 = .ok (.iconst 1, 1) := by decide +kernel
theorem dX11_matches_174 : decode cX11_matches 174 = .ok (.goto 4, 3) := by decide +kernel
theorem dX11_matches_177 : decode cX11_matches 177 = .ok (.iconst 0, 1) := by decide +kernel
theorem dX11_matches_178 : decode cX11_matches 178 = .ok (.ireturn, 1) := by decide +kernel
theorem dX11_branchFor_0 : decode cX11_branchFor 0 = .ok (.aload_n 2, 1) := by decide +kernel
theorem dX11_branchFor_1 : decode cX11_branchFor 1 = .ok (.getfield 160, 3) := by decide +kernel
theorem dX11_branchFor_4 : decode cX11_branchFor 4 = .ok (.iload_n 3, 1) := by decide +kernel
theorem dX11_branchFor_5 : decode cX11_branchFor 5 = .ok (.iaload, 1) := by decide +kernel
theorem dX11_branchFor_6 : decode cX11_branchFor 6 = .ok (.istore 4, 2) := by decide +kernel
theorem dX11_branchFor_8 : decode cX11_branchFor 8 = .ok (.iload 4, 2) := by decide +kernel
theorem dX11_branchFor_10 : decode cX11_branchFor 10 = .ok (.ifCond .lt 34, 3) := by decide +kernel
theorem dX11_branchFor_13 : decode cX11_branchFor 13 = .ok (.aload_n 0, 1) := by decide +kernel
theorem dX11_branchFor_14 : decode cX11_branchFor 14 = .ok (.iload_n 1, 1) := by decide +kernel
theorem dX11_branchFor_15 : decode cX11_branchFor 15 = .ok (.aload_n 2, 1) := by decide +kernel
theorem dX11_branchFor_16 : decode cX11_branchFor 16 = .ok (.aload_n 2, 1) := by decide +kernel
theorem dX11_branchFor_17 : decode cX11_branchFor 17 = .ok (.getfield 149, 3) := by decide +kernel
theorem dX11_branchFor_20 : decode cX11_branchFor 20 = .ok (.iload 4, 2) := by decide +kernel
theorem dX11_branchFor_22 : decode cX11_branchFor 22 = .ok (.iaload, 1) := by decide +kernel
theorem dX11_branchFor_23 : decode cX11_branchFor 23 = .ok (.invokestatic 208, 3) := by decide +kernel
theorem dX11_branchFor_26 : decode cX11_branchFor 26 = .ok (.ifCond .eq 6, 3) := by decide +kernel
theorem dX11_branchFor_29 : decode cX11_branchFor 29 = .ok (.iload 4, 2) := by decide +kernel
theorem dX11_branchFor_31 : decode cX11_branchFor 31 = .ok (.ireturn, 1) := by decide +kernel
theorem dX11_branchFor_32 : decode cX11_branchFor 32 = .ok (.aload_n 2, 1) := by decide +kernel
theorem dX11_branchFor_33 : decode cX11_branchFor 33 = .ok (.getfield 163, 3) := by decide +kernel
theorem dX11_branchFor_36 : decode cX11_branchFor 36 = .ok (.iload 4, 2) := by decide +kernel
theorem dX11_branchFor_38 : decode cX11_branchFor 38 = .ok (.iaload, 1) := by decide +kernel
theorem dX11_branchFor_39 : decode cX11_branchFor 39 = .ok (.istore 4, 2) := by decide +kernel
theorem dX11_branchFor_41 : decode cX11_branchFor 41 = .ok (.goto (-33), 3) := by decide +kernel
theorem dX11_branchFor_44 : decode cX11_branchFor 44 = .ok (.iconst (-1), 1) := by decide +kernel
theorem dX11_branchFor_45 : decode cX11_branchFor 45 = .ok (.ireturn, 1) := by decide +kernel
theorem dX11_ask_0 : decode cX11_ask 0 = .ok (.aload_n 0, 1) := by decide +kernel
theorem dX11_ask_1 : decode cX11_ask 1 = .ok (.getfield 47, 3) := by decide +kernel
theorem dX11_ask_4 : decode cX11_ask 4 = .ok (.sipush 140, 3) := by decide +kernel
theorem dX11_ask_7 : decode cX11_ask 7 = .ok (.iload_n 1, 1) := by decide +kernel
theorem dX11_ask_8 : decode cX11_ask 8 = .ok (.imul, 1) := by decide +kernel
theorem dX11_ask_9 : decode cX11_ask 9 = .ok (.iload_n 2, 1) := by decide +kernel
theorem dX11_ask_10 : decode cX11_ask 10 = .ok (.iadd, 1) := by decide +kernel
theorem dX11_ask_11 : decode cX11_ask 11 = .ok (.baload, 1) := by decide +kernel
theorem dX11_ask_12 : decode cX11_ask 12 = .ok (.ifCond .ne 42, 3) := by decide +kernel
theorem dX11_ask_15 : decode cX11_ask 15 = .ok (.aload_n 0, 1) := by decide +kernel
theorem dX11_ask_16 : decode cX11_ask 16 = .ok (.getfield 47, 3) := by decide +kernel
theorem dX11_ask_19 : decode cX11_ask 19 = .ok (.sipush 140, 3) := by decide +kernel
theorem dX11_ask_22 : decode cX11_ask 22 = .ok (.iload_n 1, 1) := by decide +kernel
theorem dX11_ask_23 : decode cX11_ask 23 = .ok (.imul, 1) := by decide +kernel
theorem dX11_ask_24 : decode cX11_ask 24 = .ok (.iload_n 2, 1) := by decide +kernel
theorem dX11_ask_25 : decode cX11_ask 25 = .ok (.iadd, 1) := by decide +kernel
theorem dX11_ask_26 : decode cX11_ask 26 = .ok (.iconst 1, 1) := by decide +kernel
theorem dX11_ask_27 : decode cX11_ask 27 = .ok (.bastore, 1) := by decide +kernel
theorem dX11_ask_28 : decode cX11_ask 28 = .ok (.aload_n 0, 1) := by decide +kernel
theorem dX11_ask_29 : decode cX11_ask 29 = .ok (.getfield 51, 3) := by decide +kernel
theorem dX11_ask_32 : decode cX11_ask 32 = .ok (.aload_n 0, 1) := by decide +kernel
theorem dX11_ask_33 : decode cX11_ask 33 = .ok (.getfield 219, 3) := by decide +kernel
theorem dX11_ask_36 : decode cX11_ask 36 = .ok (.sipush 140, 3) := by decide +kernel
theorem dX11_ask_39 : decode cX11_ask 39 = .ok (.iload_n 1, 1) := by decide +kernel
theorem dX11_ask_40 : decode cX11_ask 40 = .ok (.imul, 1) := by decide +kernel
theorem dX11_ask_41 : decode cX11_ask 41 = .ok (.iload_n 2, 1) := by decide +kernel
theorem dX11_ask_42 : decode cX11_ask 42 = .ok (.iadd, 1) := by decide +kernel
theorem dX11_ask_43 : decode cX11_ask 43 = .ok (.iastore, 1) := by decide +kernel
theorem dX11_ask_44 : decode cX11_ask 44 = .ok (.aload_n 0, 1) := by decide +kernel
theorem dX11_ask_45 : decode cX11_ask 45 = .ok (.dup, 1) := by decide +kernel
theorem dX11_ask_46 : decode cX11_ask 46 = .ok (.getfield 219, 3) := by decide +kernel
theorem dX11_ask_49 : decode cX11_ask 49 = .ok (.iconst 1, 1) := by decide +kernel
theorem dX11_ask_50 : decode cX11_ask 50 = .ok (.iadd, 1) := by decide +kernel
theorem dX11_ask_51 : decode cX11_ask 51 = .ok (.putfield 219, 3) := by decide +kernel
theorem dX11_ask_54 : decode cX11_ask 54 = .ok (.return_, 1) := by decide +kernel
theorem dX11_fitsAll_0 : decode cX11_fitsAll 0 = .ok (.iconst 0, 1) := by decide +kernel
theorem dX11_fitsAll_1 : decode cX11_fitsAll 1 = .ok (.istore_n 3, 1) := by decide +kernel
theorem dX11_fitsAll_2 : decode cX11_fitsAll 2 = .ok (.iload_n 3, 1) := by decide +kernel
theorem dX11_fitsAll_3 : decode cX11_fitsAll 3 = .ok (.sipush 19600, 3) := by decide +kernel
theorem dX11_fitsAll_6 : decode cX11_fitsAll 6 = .ok (.if_icmp .ge 16, 3) := by decide +kernel
theorem dX11_fitsAll_9 : decode cX11_fitsAll 9 = .ok (.aload_n 0, 1) := by decide +kernel
theorem dX11_fitsAll_10 : decode cX11_fitsAll 10 = .ok (.getfield 47, 3) := by decide +kernel
theorem dX11_fitsAll_13 : decode cX11_fitsAll 13 = .ok (.iload_n 3, 1) := by decide +kernel
theorem dX11_fitsAll_14 : decode cX11_fitsAll 14 = .ok (.iconst 0, 1) := by decide +kernel
theorem dX11_fitsAll_15 : decode cX11_fitsAll 15 = .ok (.bastore, 1) := by decide +kernel
theorem dX11_fitsAll_16 : decode cX11_fitsAll 16 = .ok (.iinc 3 1, 3) := by decide +kernel
theorem dX11_fitsAll_19 : decode cX11_fitsAll 19 = .ok (.goto (-17), 3) := by decide +kernel
theorem dX11_fitsAll_22 : decode cX11_fitsAll 22 = .ok (.aload_n 0, 1) := by decide +kernel
theorem dX11_fitsAll_23 : decode cX11_fitsAll 23 = .ok (.iconst 0, 1) := by decide +kernel
theorem dX11_fitsAll_24 : decode cX11_fitsAll 24 = .ok (.putfield 219, 3) := by decide +kernel
theorem dX11_fitsAll_27 : decode cX11_fitsAll 27 = .ok (.aload_n 0, 1) := by decide +kernel
theorem dX11_fitsAll_28 : decode cX11_fitsAll 28 = .ok (.aload_n 1, 1) := by decide +kernel
theorem dX11_fitsAll_29 : decode cX11_fitsAll 29 = .ok (.getfield 188, 3) := by decide +kernel
theorem dX11_fitsAll_32 : decode cX11_fitsAll 32 = .ok (.aload_n 2, 1) := by decide +kernel
theorem dX11_fitsAll_33 : decode cX11_fitsAll 33 = .ok (.getfield 188, 3) := by decide +kernel
theorem dX11_fitsAll_36 : decode cX11_fitsAll 36 = .ok (.invokevirtual 221, 3) := by decide +kernel
theorem dX11_fitsAll_39 : decode cX11_fitsAll 39 = .ok (.iconst 1, 1) := by decide +kernel
theorem dX11_fitsAll_40 : decode cX11_fitsAll 40 = .ok (.istore_n 3, 1) := by decide +kernel
theorem dX11_fitsAll_41 : decode cX11_fitsAll 41 = .ok (.iconst 0, 1) := by decide +kernel
theorem dX11_fitsAll_42 : decode cX11_fitsAll 42 = .ok (.istore 4, 2) := by decide +kernel
theorem dX11_fitsAll_44 : decode cX11_fitsAll 44 = .ok (.iload 4, 2) := by decide +kernel
theorem dX11_fitsAll_46 : decode cX11_fitsAll 46 = .ok (.aload_n 0, 1) := by decide +kernel
theorem dX11_fitsAll_47 : decode cX11_fitsAll 47 = .ok (.getfield 219, 3) := by decide +kernel
theorem dX11_fitsAll_50 : decode cX11_fitsAll 50 = .ok (.if_icmp .ge 42, 3) := by decide +kernel
theorem dX11_fitsAll_53 : decode cX11_fitsAll 53 = .ok (.iload_n 3, 1) := by decide +kernel
theorem dX11_fitsAll_54 : decode cX11_fitsAll 54 = .ok (.ifCond .eq 38, 3) := by decide +kernel
theorem dX11_fitsAll_57 : decode cX11_fitsAll 57 = .ok (.aload_n 0, 1) := by decide +kernel
theorem dX11_fitsAll_58 : decode cX11_fitsAll 58 = .ok (.aload_n 1, 1) := by decide +kernel
theorem dX11_fitsAll_59 : decode cX11_fitsAll 59 = .ok (.aload_n 0, 1) := by decide +kernel
theorem dX11_fitsAll_60 : decode cX11_fitsAll 60 = .ok (.getfield 51, 3) := by decide +kernel
theorem dX11_fitsAll_63 : decode cX11_fitsAll 63 = .ok (.iload 4, 2) := by decide +kernel
theorem dX11_fitsAll_65 : decode cX11_fitsAll 65 = .ok (.iaload, 1) := by decide +kernel
theorem dX11_fitsAll_66 : decode cX11_fitsAll 66 = .ok (.sipush 140, 3) := by decide +kernel
theorem dX11_fitsAll_69 : decode cX11_fitsAll 69 = .ok (.idiv, 1) := by decide +kernel
theorem dX11_fitsAll_70 : decode cX11_fitsAll 70 = .ok (.aload_n 2, 1) := by decide +kernel
theorem dX11_fitsAll_71 : decode cX11_fitsAll 71 = .ok (.aload_n 0, 1) := by decide +kernel
theorem dX11_fitsAll_72 : decode cX11_fitsAll 72 = .ok (.getfield 51, 3) := by decide +kernel
theorem dX11_fitsAll_75 : decode cX11_fitsAll 75 = .ok (.iload 4, 2) := by decide +kernel
theorem dX11_fitsAll_77 : decode cX11_fitsAll 77 = .ok (.iaload, 1) := by decide +kernel
theorem dX11_fitsAll_78 : decode cX11_fitsAll 78 = .ok (.sipush 140, 3) := by decide +kernel
theorem dX11_fitsAll_81 : decode cX11_fitsAll 81 = .ok (.irem, 1) := by decide +kernel
theorem dX11_fitsAll_82 : decode cX11_fitsAll 82 = .ok (.invokevirtual 224, 3) := by decide +kernel
theorem dX11_fitsAll_85 : decode cX11_fitsAll 85 = .ok (.istore_n 3, 1) := by decide +kernel
theorem dX11_fitsAll_86 : decode cX11_fitsAll 86 = .ok (.iinc 4 1, 3) := by decide +kernel
theorem dX11_fitsAll_89 : decode cX11_fitsAll 89 = .ok (.goto (-45), 3) := by decide +kernel
theorem dX11_fitsAll_92 : decode cX11_fitsAll 92 = .ok (.iload_n 3, 1) := by decide +kernel
theorem dX11_fitsAll_93 : decode cX11_fitsAll 93 = .ok (.ireturn, 1) := by decide +kernel
theorem dX11_may_0 : decode cX11_may 0 = .ok (.aload_n 1, 1) := by decide +kernel
theorem dX11_may_1 : decode cX11_may 1 = .ok (.getfield 132, 3) := by decide +kernel
theorem dX11_may_4 : decode cX11_may 4 = .ok (.iload_n 2, 1) := by decide +kernel
theorem dX11_may_5 : decode cX11_may 5 = .ok (.iaload, 1) := by decide +kernel
theorem dX11_may_6 : decode cX11_may 6 = .ok (.istore 5, 2) := by decide +kernel
theorem dX11_may_8 : decode cX11_may 8 = .ok (.iload 5, 2) := by decide +kernel
theorem dX11_may_10 : decode cX11_may 10 = .ok (.bipush 8, 2) := by decide +kernel
theorem dX11_may_12 : decode cX11_may 12 = .ok (.if_icmp .ne 43, 3) := by decide +kernel
theorem dX11_may_15 : decode cX11_may 15 = .ok (.aload_n 1, 1) := by decide +kernel
theorem dX11_may_16 : decode cX11_may 16 = .ok (.getfield 160, 3) := by decide +kernel
theorem dX11_may_19 : decode cX11_may 19 = .ok (.iload_n 2, 1) := by decide +kernel
theorem dX11_may_20 : decode cX11_may 20 = .ok (.iaload, 1) := by decide +kernel
theorem dX11_may_21 : decode cX11_may 21 = .ok (.istore 6, 2) := by decide +kernel
theorem dX11_may_23 : decode cX11_may 23 = .ok (.iload 6, 2) := by decide +kernel
theorem dX11_may_25 : decode cX11_may 25 = .ok (.ifCond .lt 28, 3) := by decide +kernel
theorem dX11_may_28 : decode cX11_may 28 = .ok (.aload_n 0, 1) := by decide +kernel
theorem dX11_may_29 : decode cX11_may 29 = .ok (.aload_n 1, 1) := by decide +kernel
theorem dX11_may_30 : decode cX11_may 30 = .ok (.getfield 149, 3) := by decide +kernel
theorem dX11_may_33 : decode cX11_may 33 = .ok (.iload 6, 2) := by decide +kernel
theorem dX11_may_35 : decode cX11_may 35 = .ok (.iaload, 1) := by decide +kernel
theorem dX11_may_36 : decode cX11_may 36 = .ok (.iload 4, 2) := by decide +kernel
theorem dX11_may_38 : decode cX11_may 38 = .ok (.invokevirtual 221, 3) := by decide +kernel
theorem dX11_may_41 : decode cX11_may 41 = .ok (.aload_n 1, 1) := by decide +kernel
theorem dX11_may_42 : decode cX11_may 42 = .ok (.getfield 163, 3) := by decide +kernel
theorem dX11_may_45 : decode cX11_may 45 = .ok (.iload 6, 2) := by decide +kernel
theorem dX11_may_47 : decode cX11_may 47 = .ok (.iaload, 1) := by decide +kernel
theorem dX11_may_48 : decode cX11_may 48 = .ok (.istore 6, 2) := by decide +kernel
theorem dX11_may_50 : decode cX11_may 50 = .ok (.goto (-27), 3) := by decide +kernel
theorem dX11_may_53 : decode cX11_may 53 = .ok (.iconst 1, 1) := by decide +kernel
theorem dX11_may_54 : decode cX11_may 54 = .ok (.ireturn, 1) := by decide +kernel
theorem dX11_may_55 : decode cX11_may 55 = .ok (.aload_n 3, 1) := by decide +kernel
theorem dX11_may_56 : decode cX11_may 56 = .ok (.getfield 132, 3) := by decide +kernel
theorem dX11_may_59 : decode cX11_may 59 = .ok (.iload 4, 2) := by decide +kernel
theorem dX11_may_61 : decode cX11_may 61 = .ok (.iaload, 1) := by decide +kernel
theorem dX11_may_62 : decode cX11_may 62 = .ok (.bipush 8, 2) := by decide +kernel
theorem dX11_may_64 : decode cX11_may 64 = .ok (.if_icmp .ne 41, 3) := by decide +kernel
theorem dX11_may_67 : decode cX11_may 67 = .ok (.aload_n 1, 1) := by decide +kernel
theorem dX11_may_68 : decode cX11_may 68 = .ok (.iload_n 2, 1) := by decide +kernel
theorem dX11_may_69 : decode cX11_may 69 = .ok (.aload_n 3, 1) := by decide +kernel
theorem dX11_may_70 : decode cX11_may 70 = .ok (.iload 4, 2) := by decide +kernel
theorem dX11_may_72 : decode cX11_may 72 = .ok (.invokestatic 227, 3) := by decide +kernel
theorem dX11_may_75 : decode cX11_may 75 = .ok (.istore 6, 2) := by decide +kernel
theorem dX11_may_77 : decode cX11_may 77 = .ok (.iload 6, 2) := by decide +kernel
theorem dX11_may_79 : decode cX11_may 79 = .ok (.ifCond .lt 15, 3) := by decide +kernel
theorem dX11_may_82 : decode cX11_may 82 = .ok (.aload_n 0, 1) := by decide +kernel
theorem dX11_may_83 : decode cX11_may 83 = .ok (.iload_n 2, 1) := by decide +kernel
theorem dX11_may_84 : decode cX11_may 84 = .ok (.aload_n 3, 1) := by decide +kernel
theorem dX11_may_85 : decode cX11_may 85 = .ok (.getfield 149, 3) := by decide +kernel
theorem dX11_may_88 : decode cX11_may 88 = .ok (.iload 6, 2) := by decide +kernel
theorem dX11_may_90 : decode cX11_may 90 = .ok (.iaload, 1) := by decide +kernel
theorem dX11_may_91 : decode cX11_may 91 = .ok (.invokevirtual 221, 3) := by decide +kernel
theorem dX11_may_94 : decode cX11_may 94 = .ok (.iload 6, 2) := by decide +kernel
theorem dX11_may_96 : decode cX11_may 96 = .ok (.ifCond .lt 7, 3) := by decide +kernel
theorem dX11_may_99 : decode cX11_may 99 = .ok (.iconst 1, 1) := by decide +kernel
theorem dX11_may_100 : decode cX11_may 100 = .ok (.goto 4, 3) := by decide +kernel
theorem dX11_may_103 : decode cX11_may 103 = .ok (.iconst 0, 1) := by decide +kernel
theorem dX11_may_104 : decode cX11_may 104 = .ok (.ireturn, 1) := by decide +kernel
theorem dX11_may_105 : decode cX11_may 105 = .ok (.iload 5, 2) := by decide +kernel
theorem dX11_may_107 : decode cX11_may 107 = .ok (.invokestatic 201, 3) := by decide +kernel
theorem dX11_may_110 : decode cX11_may 110 = .ok (.ifCond .ne 16, 3) := by decide +kernel
theorem dX11_may_113 : decode cX11_may 113 = .ok (.aload_n 3, 1) := by decide +kernel
theorem dX11_may_114 : decode cX11_may 114 = .ok (.getfield 132, 3) := by decide +kernel
theorem dX11_may_117 : decode cX11_may 117 = .ok (.iload 4, 2) := by decide +kernel
theorem dX11_may_119 : decode cX11_may 119 = .ok (.iaload, 1) := by decide +kernel
theorem dX11_may_120 : decode cX11_may 120 = .ok (.invokestatic 201, 3) := by decide +kernel
theorem dX11_may_123 : decode cX11_may 123 = .ok (.ifCond .eq 45, 3) := by decide +kernel
theorem dX11_may_126 : decode cX11_may 126 = .ok (.iload 5, 2) := by decide +kernel
theorem dX11_may_128 : decode cX11_may 128 = .ok (.invokestatic 201, 3) := by decide +kernel
theorem dX11_may_131 : decode cX11_may 131 = .ok (.ifCond .eq 35, 3) := by decide +kernel
theorem dX11_may_134 : decode cX11_may 134 = .ok (.aload_n 3, 1) := by decide +kernel
theorem dX11_may_135 : decode cX11_may 135 = .ok (.getfield 132, 3) := by decide +kernel
theorem dX11_may_138 : decode cX11_may 138 = .ok (.iload 4, 2) := by decide +kernel
theorem dX11_may_140 : decode cX11_may 140 = .ok (.iaload, 1) := by decide +kernel
theorem dX11_may_141 : decode cX11_may 141 = .ok (.invokestatic 201, 3) := by decide +kernel
theorem dX11_may_144 : decode cX11_may 144 = .ok (.ifCond .eq 22, 3) := by decide +kernel
theorem dX11_may_147 : decode cX11_may 147 = .ok (.iload 5, 2) := by decide +kernel
theorem dX11_may_149 : decode cX11_may 149 = .ok (.aload_n 3, 1) := by decide +kernel
theorem dX11_may_150 : decode cX11_may 150 = .ok (.getfield 132, 3) := by decide +kernel
theorem dX11_may_153 : decode cX11_may 153 = .ok (.iload 4, 2) := by decide +kernel
theorem dX11_may_155 : decode cX11_may 155 = .ok (.iaload, 1) := by decide +kernel
theorem dX11_may_156 : decode cX11_may 156 = .ok (.invokestatic 204, 3) := by decide +kernel
theorem dX11_may_159 : decode cX11_may 159 = .ok (.ifCond .eq 7, 3) := by decide +kernel
theorem dX11_may_162 : decode cX11_may 162 = .ok (.iconst 1, 1) := by decide +kernel
theorem dX11_may_163 : decode cX11_may 163 = .ok (.goto 4, 3) := by decide +kernel
theorem dX11_may_166 : decode cX11_may 166 = .ok (.iconst 0, 1) := by decide +kernel
theorem dX11_may_167 : decode cX11_may 167 = .ok (.ireturn, 1) := by decide +kernel
theorem dX11_may_168 : decode cX11_may 168 = .ok (.iload 5, 2) := by decide +kernel
theorem dX11_may_170 : decode cX11_may 170 = .ok (.aload_n 3, 1) := by decide +kernel
theorem dX11_may_171 : decode cX11_may 171 = .ok (.getfield 132, 3) := by decide +kernel
theorem dX11_may_174 : decode cX11_may 174 = .ok (.iload 4, 2) := by decide +kernel
theorem dX11_may_176 : decode cX11_may 176 = .ok (.iaload, 1) := by decide +kernel
theorem dX11_may_177 : decode cX11_may 177 = .ok (.if_icmp .eq 5, 3) := by decide +kernel
theorem dX11_may_180 : decode cX11_may 180 = .ok (.iconst 0, 1) := by decide +kernel
theorem dX11_may_181 : decode cX11_may 181 = .ok (.ireturn, 1) := by decide +kernel
theorem dX11_may_182 : decode cX11_may 182 = .ok (.iload 5, 2) := by decide +kernel
theorem dX11_may_184 : decode cX11_may 184 = .ok (.bipush 6, 2) := by decide +kernel
theorem dX11_may_186 : decode cX11_may 186 = .ok (.if_icmp .eq 10, 3) := by decide +kernel
theorem dX11_may_189 : decode cX11_may 189 = .ok (.iload 5, 2) := by decide +kernel
theorem dX11_may_191 : decode cX11_may 191 = .ok (.bipush 7, 2) := by decide +kernel
theorem dX11_may_193 : decode cX11_may 193 = .ok (.if_icmp .ne 32, 3) := by decide +kernel
theorem dX11_may_196 : decode cX11_may 196 = .ok (.aload_n 0, 1) := by decide +kernel
theorem dX11_may_197 : decode cX11_may 197 = .ok (.aload_n 1, 1) := by decide +kernel
theorem dX11_may_198 : decode cX11_may 198 = .ok (.getfield 149, 3) := by decide +kernel
theorem dX11_may_201 : decode cX11_may 201 = .ok (.aload_n 1, 1) := by decide +kernel
theorem dX11_may_202 : decode cX11_may 202 = .ok (.getfield 160, 3) := by decide +kernel
theorem dX11_may_205 : decode cX11_may 205 = .ok (.iload_n 2, 1) := by decide +kernel
theorem dX11_may_206 : decode cX11_may 206 = .ok (.iaload, 1) := by decide +kernel
theorem dX11_may_207 : decode cX11_may 207 = .ok (.iaload, 1) := by decide +kernel
theorem dX11_may_208 : decode cX11_may 208 = .ok (.aload_n 3, 1) := by decide +kernel
theorem dX11_may_209 : decode cX11_may 209 = .ok (.getfield 149, 3) := by decide +kernel
theorem dX11_may_212 : decode cX11_may 212 = .ok (.aload_n 3, 1) := by decide +kernel
theorem dX11_may_213 : decode cX11_may 213 = .ok (.getfield 160, 3) := by decide +kernel
theorem dX11_may_216 : decode cX11_may 216 = .ok (.iload 4, 2) := by decide +kernel
theorem dX11_may_218 : decode cX11_may 218 = .ok (.iaload, 1) := by decide +kernel
theorem dX11_may_219 : decode cX11_may 219 = .ok (.iaload, 1) := by decide +kernel
theorem dX11_may_220 : decode cX11_may 220 = .ok (.invokevirtual 221, 3) := by decide +kernel
theorem dX11_may_223 : decode cX11_may 223 = .ok (.iconst 1, 1) := by decide +kernel
theorem dX11_may_224 : decode cX11_may 224 = .ok (.ireturn, 1) := by decide +kernel
theorem dX11_may_225 : decode cX11_may 225 = .ok (.aload_n 1, 1) := by decide +kernel
theorem dX11_may_226 : decode cX11_may 226 = .ok (.iload_n 2, 1) := by decide +kernel
theorem dX11_may_227 : decode cX11_may 227 = .ok (.aload_n 3, 1) := by decide +kernel
theorem dX11_may_228 : decode cX11_may 228 = .ok (.iload 4, 2) := by decide +kernel
theorem dX11_may_230 : decode cX11_may 230 = .ok (.invokestatic 208, 3) := by decide +kernel
theorem dX11_may_233 : decode cX11_may 233 = .ok (.ifCond .ne 5, 3) := by decide +kernel
theorem dX11_may_236 : decode cX11_may 236 = .ok (.iconst 0, 1) := by decide +kernel
theorem dX11_may_237 : decode cX11_may 237 = .ok (.ireturn, 1) := by decide +kernel
theorem dX11_may_238 : decode cX11_may 238 = .ok (.iload 5, 2) := by decide +kernel
theorem dX11_may_240 : decode cX11_may 240 = .ok (.bipush 10, 2) := by decide +kernel
theorem dX11_may_242 : decode cX11_may 242 = .ok (.if_icmp .ne 81, 3) := by decide +kernel
theorem dX11_may_245 : decode cX11_may 245 = .ok (.iconst 1, 1) := by decide +kernel
theorem dX11_may_246 : decode cX11_may 246 = .ok (.istore 6, 2) := by decide +kernel
theorem dX11_may_248 : decode cX11_may 248 = .ok (.aload_n 1, 1) := by decide +kernel
theorem dX11_may_249 : decode cX11_may 249 = .ok (.getfield 160, 3) := by decide +kernel
theorem dX11_may_252 : decode cX11_may 252 = .ok (.iload_n 2, 1) := by decide +kernel
theorem dX11_may_253 : decode cX11_may 253 = .ok (.iaload, 1) := by decide +kernel
theorem dX11_may_254 : decode cX11_may 254 = .ok (.istore 7, 2) := by decide +kernel
theorem dX11_may_256 : decode cX11_may 256 = .ok (.iload 7, 2) := by decide +kernel
theorem dX11_may_258 : decode cX11_may 258 = .ok (.ifCond .lt 44, 3) := by decide +kernel
theorem dX11_may_261 : decode cX11_may 261 = .ok (.iload 6, 2) := by decide +kernel
theorem dX11_may_263 : decode cX11_may 263 = .ok (.ifCond .eq 24, 3) := by decide +kernel
theorem dX11_may_266 : decode cX11_may 266 = .ok (.aload_n 3, 1) := by decide +kernel
theorem dX11_may_267 : decode cX11_may 267 = .ok (.iload 4, 2) := by decide +kernel
theorem dX11_may_269 : decode cX11_may 269 = .ok (.aload_n 1, 1) := by decide +kernel
theorem dX11_may_270 : decode cX11_may 270 = .ok (.aload_n 1, 1) := by decide +kernel
theorem dX11_may_271 : decode cX11_may 271 = .ok (.getfield 231, 3) := by decide +kernel
theorem dX11_may_274 : decode cX11_may 274 = .ok (.iload 7, 2) := by decide +kernel
theorem dX11_may_276 : decode cX11_may 276 = .ok (.iaload, 1) := by decide +kernel
theorem dX11_may_277 : decode cX11_may 277 = .ok (.invokevirtual 234, 3) := by decide +kernel
theorem dX11_may_280 : decode cX11_may 280 = .ok (.ifCond .lt 7, 3) := by decide +kernel
theorem dX11_may_283 : decode cX11_may 283 = .ok (.iconst 1, 1) := by decide +kernel
theorem dX11_may_284 : decode cX11_may 284 = .ok (.goto 4, 3) := by decide +kernel
theorem dX11_may_287 : decode cX11_may 287 = .ok (.iconst 0, 1) := by decide +kernel
theorem dX11_may_288 : decode cX11_may 288 = .ok (.istore 6, 2) := by decide +kernel
theorem dX11_may_290 : decode cX11_may 290 = .ok (.aload_n 1, 1) := by decide +kernel
theorem dX11_may_291 : decode cX11_may 291 = .ok (.getfield 163, 3) := by decide +kernel
theorem dX11_may_294 : decode cX11_may 294 = .ok (.iload 7, 2) := by decide +kernel
theorem dX11_may_296 : decode cX11_may 296 = .ok (.iaload, 1) := by decide +kernel
theorem dX11_may_297 : decode cX11_may 297 = .ok (.istore 7, 2) := by decide +kernel
theorem dX11_may_299 : decode cX11_may 299 = .ok (.goto (-43), 3) := by decide +kernel
theorem dX11_may_302 : decode cX11_may 302 = .ok (.aload_n 3, 1) := by decide +kernel
theorem dX11_may_303 : decode cX11_may 303 = .ok (.getfield 238, 3) := by decide +kernel
theorem dX11_may_306 : decode cX11_may 306 = .ok (.iload 4, 2) := by decide +kernel
theorem dX11_may_308 : decode cX11_may 308 = .ok (.iaload, 1) := by decide +kernel
theorem dX11_may_309 : decode cX11_may 309 = .ok (.ifCond .ge 8, 3) := by decide +kernel
theorem dX11_may_312 : decode cX11_may 312 = .ok (.iload 6, 2) := by decide +kernel
theorem dX11_may_314 : decode cX11_may 314 = .ok (.ifCond .eq 7, 3) := by decide +kernel
theorem dX11_may_317 : decode cX11_may 317 = .ok (.iconst 1, 1) := by decide +kernel
theorem dX11_may_318 : decode cX11_may 318 = .ok (.goto 4, 3) := by decide +kernel
theorem dX11_may_321 : decode cX11_may 321 = .ok (.iconst 0, 1) := by decide +kernel
theorem dX11_may_322 : decode cX11_may 322 = .ok (.ireturn, 1) := by decide +kernel
theorem dX11_may_323 : decode cX11_may 323 = .ok (.iconst 1, 1) := by decide +kernel
theorem dX11_may_324 : decode cX11_may 324 = .ok (.istore 6, 2) := by decide +kernel
theorem dX11_may_326 : decode cX11_may 326 = .ok (.aload_n 3, 1) := by decide +kernel
theorem dX11_may_327 : decode cX11_may 327 = .ok (.getfield 160, 3) := by decide +kernel
theorem dX11_may_330 : decode cX11_may 330 = .ok (.iload 4, 2) := by decide +kernel
theorem dX11_may_332 : decode cX11_may 332 = .ok (.iaload, 1) := by decide +kernel
theorem dX11_may_333 : decode cX11_may 333 = .ok (.istore 7, 2) := by decide +kernel
theorem dX11_may_335 : decode cX11_may 335 = .ok (.iload 7, 2) := by decide +kernel
theorem dX11_may_337 : decode cX11_may 337 = .ok (.ifCond .lt 82, 3) := by decide +kernel
theorem dX11_may_340 : decode cX11_may 340 = .ok (.iload 5, 2) := by decide +kernel
theorem dX11_may_342 : decode cX11_may 342 = .ok (.bipush 11, 2) := by decide +kernel
theorem dX11_may_344 : decode cX11_may 344 = .ok (.if_icmp .ne 75, 3) := by decide +kernel
theorem dX11_may_347 : decode cX11_may 347 = .ok (.aload_n 1, 1) := by decide +kernel
theorem dX11_may_348 : decode cX11_may 348 = .ok (.iload_n 2, 1) := by decide +kernel
theorem dX11_may_349 : decode cX11_may 349 = .ok (.aload_n 3, 1) := by decide +kernel
theorem dX11_may_350 : decode cX11_may 350 = .ok (.iload 7, 2) := by decide +kernel
theorem dX11_may_352 : decode cX11_may 352 = .ok (.invokestatic 241, 3) := by decide +kernel
theorem dX11_may_355 : decode cX11_may 355 = .ok (.istore 8, 2) := by decide +kernel
theorem dX11_may_357 : decode cX11_may 357 = .ok (.iload 8, 2) := by decide +kernel
theorem dX11_may_359 : decode cX11_may 359 = .ok (.ifCond .lt 21, 3) := by decide +kernel
theorem dX11_may_362 : decode cX11_may 362 = .ok (.aload_n 0, 1) := by decide +kernel
theorem dX11_may_363 : decode cX11_may 363 = .ok (.aload_n 1, 1) := by decide +kernel
theorem dX11_may_364 : decode cX11_may 364 = .ok (.getfield 149, 3) := by decide +kernel
theorem dX11_may_367 : decode cX11_may 367 = .ok (.iload 8, 2) := by decide +kernel
theorem dX11_may_369 : decode cX11_may 369 = .ok (.iaload, 1) := by decide +kernel
theorem dX11_may_370 : decode cX11_may 370 = .ok (.aload_n 3, 1) := by decide +kernel
theorem dX11_may_371 : decode cX11_may 371 = .ok (.getfield 149, 3) := by decide +kernel
theorem dX11_may_374 : decode cX11_may 374 = .ok (.iload 7, 2) := by decide +kernel
theorem dX11_may_376 : decode cX11_may 376 = .ok (.iaload, 1) := by decide +kernel
theorem dX11_may_377 : decode cX11_may 377 = .ok (.invokevirtual 221, 3) := by decide +kernel
theorem dX11_may_380 : decode cX11_may 380 = .ok (.iload 6, 2) := by decide +kernel
theorem dX11_may_382 : decode cX11_may 382 = .ok (.ifCond .eq 22, 3) := by decide +kernel
theorem dX11_may_385 : decode cX11_may 385 = .ok (.iload 8, 2) := by decide +kernel
theorem dX11_may_387 : decode cX11_may 387 = .ok (.ifCond .ge 13, 3) := by decide +kernel
theorem dX11_may_390 : decode cX11_may 390 = .ok (.aload_n 3, 1) := by decide +kernel
theorem dX11_may_391 : decode cX11_may 391 = .ok (.getfield 244, 3) := by decide +kernel
theorem dX11_may_394 : decode cX11_may 394 = .ok (.iload 7, 2) := by decide +kernel
theorem dX11_may_396 : decode cX11_may 396 = .ok (.iaload, 1) := by decide +kernel
theorem dX11_may_397 : decode cX11_may 397 = .ok (.ifCond .lt 7, 3) := by decide +kernel
theorem dX11_may_400 : decode cX11_may 400 = .ok (.iconst 1, 1) := by decide +kernel
theorem dX11_may_401 : decode cX11_may 401 = .ok (.goto 4, 3) := by decide +kernel
theorem dX11_may_404 : decode cX11_may 404 = .ok (.iconst 0, 1) := by decide +kernel
theorem dX11_may_405 : decode cX11_may 405 = .ok (.istore 6, 2) := by decide +kernel
theorem dX11_may_407 : decode cX11_may 407 = .ok (.aload_n 3, 1) := by decide +kernel
theorem dX11_may_408 : decode cX11_may 408 = .ok (.getfield 163, 3) := by decide +kernel
theorem dX11_may_411 : decode cX11_may 411 = .ok (.iload 7, 2) := by decide +kernel
theorem dX11_may_413 : decode cX11_may 413 = .ok (.iaload, 1) := by decide +kernel
theorem dX11_may_414 : decode cX11_may 414 = .ok (.istore 7, 2) := by decide +kernel
theorem dX11_may_416 : decode cX11_may 416 = .ok (.goto (-81), 3) := by decide +kernel
theorem dX11_may_419 : decode cX11_may 419 = .ok (.iload 6, 2) := by decide +kernel
theorem dX11_may_421 : decode cX11_may 421 = .ok (.ireturn, 1) := by decide +kernel
theorem dX11_fieldLike_0 : decode cX11_fieldLike 0 = .ok (.aload_n 0, 1) := by decide +kernel
theorem dX11_fieldLike_1 : decode cX11_fieldLike 1 = .ok (.getfield 160, 3) := by decide +kernel
theorem dX11_fieldLike_4 : decode cX11_fieldLike 4 = .ok (.iload_n 1, 1) := by decide +kernel
theorem dX11_fieldLike_5 : decode cX11_fieldLike 5 = .ok (.iaload, 1) := by decide +kernel
theorem dX11_fieldLike_6 : decode cX11_fieldLike 6 = .ok (.istore 4, 2) := by decide +kernel
theorem dX11_fieldLike_8 : decode cX11_fieldLike 8 = .ok (.iload 4, 2) := by decide +kernel
theorem dX11_fieldLike_10 : decode cX11_fieldLike 10 = .ok (.ifCond .lt 39, 3) := by decide +kernel
theorem dX11_fieldLike_13 : decode cX11_fieldLike 13 = .ok (.aload_n 0, 1) := by decide +kernel
theorem dX11_fieldLike_14 : decode cX11_fieldLike 14 = .ok (.aload_n 0, 1) := by decide +kernel
theorem dX11_fieldLike_15 : decode cX11_fieldLike 15 = .ok (.getfield 231, 3) := by decide +kernel
theorem dX11_fieldLike_18 : decode cX11_fieldLike 18 = .ok (.iload 4, 2) := by decide +kernel
theorem dX11_fieldLike_20 : decode cX11_fieldLike 20 = .ok (.iaload, 1) := by decide +kernel
theorem dX11_fieldLike_21 : decode cX11_fieldLike 21 = .ok (.aload_n 2, 1) := by decide +kernel
theorem dX11_fieldLike_22 : decode cX11_fieldLike 22 = .ok (.aload_n 2, 1) := by decide +kernel
theorem dX11_fieldLike_23 : decode cX11_fieldLike 23 = .ok (.getfield 231, 3) := by decide +kernel
theorem dX11_fieldLike_26 : decode cX11_fieldLike 26 = .ok (.iload_n 3, 1) := by decide +kernel
theorem dX11_fieldLike_27 : decode cX11_fieldLike 27 = .ok (.iaload, 1) := by decide +kernel
theorem dX11_fieldLike_28 : decode cX11_fieldLike 28 = .ok (.invokevirtual 215, 3) := by decide +kernel
theorem dX11_fieldLike_31 : decode cX11_fieldLike 31 = .ok (.ifCond .eq 6, 3) := by decide +kernel
theorem dX11_fieldLike_34 : decode cX11_fieldLike 34 = .ok (.iload 4, 2) := by decide +kernel
theorem dX11_fieldLike_36 : decode cX11_fieldLike 36 = .ok (.ireturn, 1) := by decide +kernel
theorem dX11_fieldLike_37 : decode cX11_fieldLike 37 = .ok (.aload_n 0, 1) := by decide +kernel
theorem dX11_fieldLike_38 : decode cX11_fieldLike 38 = .ok (.getfield 163, 3) := by decide +kernel
theorem dX11_fieldLike_41 : decode cX11_fieldLike 41 = .ok (.iload 4, 2) := by decide +kernel
theorem dX11_fieldLike_43 : decode cX11_fieldLike 43 = .ok (.iaload, 1) := by decide +kernel
theorem dX11_fieldLike_44 : decode cX11_fieldLike 44 = .ok (.istore 4, 2) := by decide +kernel
theorem dX11_fieldLike_46 : decode cX11_fieldLike 46 = .ok (.goto (-38), 3) := by decide +kernel
theorem dX11_fieldLike_49 : decode cX11_fieldLike 49 = .ok (.iconst (-1), 1) := by decide +kernel
theorem dX11_fieldLike_50 : decode cX11_fieldLike 50 = .ok (.ireturn, 1) := by decide +kernel
theorem dX11_tellByte_0 : decode cX11_tellByte 0 = .ok (.aload_n 0, 1) := by decide +kernel
theorem dX11_tellByte_1 : decode cX11_tellByte 1 = .ok (.getfield 115, 3) := by decide +kernel
theorem dX11_tellByte_4 : decode cX11_tellByte 4 = .ok (.aload_n 0, 1) := by decide +kernel
theorem dX11_tellByte_5 : decode cX11_tellByte 5 = .ok (.getfield 247, 3) := by decide +kernel
theorem dX11_tellByte_8 : decode cX11_tellByte 8 = .ok (.if_icmp .ne 10, 3) := by decide +kernel
theorem dX11_tellByte_11 : decode cX11_tellByte 11 = .ok (.aload_n 0, 1) := by decide +kernel
theorem dX11_tellByte_12 : decode cX11_tellByte 12 = .ok (.bipush 31, 2) := by decide +kernel
theorem dX11_tellByte_14 : decode cX11_tellByte 14 = .ok (.iconst 0, 1) := by decide +kernel
theorem dX11_tellByte_15 : decode cX11_tellByte 15 = .ok (.invokevirtual 102, 3) := by decide +kernel
theorem dX11_tellByte_18 : decode cX11_tellByte 18 = .ok (.aload_n 0, 1) := by decide +kernel
theorem dX11_tellByte_19 : decode cX11_tellByte 19 = .ok (.getfield 44, 3) := by decide +kernel
theorem dX11_tellByte_22 : decode cX11_tellByte 22 = .ok (.aload_n 0, 1) := by decide +kernel
theorem dX11_tellByte_23 : decode cX11_tellByte 23 = .ok (.getfield 115, 3) := by decide +kernel
theorem dX11_tellByte_26 : decode cX11_tellByte 26 = .ok (.iload_n 1, 1) := by decide +kernel
theorem dX11_tellByte_27 : decode cX11_tellByte 27 = .ok (.i2b, 1) := by decide +kernel
theorem dX11_tellByte_28 : decode cX11_tellByte 28 = .ok (.bastore, 1) := by decide +kernel
theorem dX11_tellByte_29 : decode cX11_tellByte 29 = .ok (.aload_n 0, 1) := by decide +kernel
theorem dX11_tellByte_30 : decode cX11_tellByte 30 = .ok (.dup, 1) := by decide +kernel
theorem dX11_tellByte_31 : decode cX11_tellByte 31 = .ok (.getfield 115, 3) := by decide +kernel
theorem dX11_tellByte_34 : decode cX11_tellByte 34 = .ok (.iconst 1, 1) := by decide +kernel
theorem dX11_tellByte_35 : decode cX11_tellByte 35 = .ok (.iadd, 1) := by decide +kernel
theorem dX11_tellByte_36 : decode cX11_tellByte 36 = .ok (.putfield 115, 3) := by decide +kernel
theorem dX11_tellByte_39 : decode cX11_tellByte 39 = .ok (.return_, 1) := by decide +kernel
theorem dX11_tellVarint_0 : decode cX11_tellVarint 0 = .ok (.lload_n 1, 1) := by decide +kernel
theorem dX11_tellVarint_1 : decode cX11_tellVarint 1 = .ok (.iconst 1, 1) := by decide +kernel
theorem dX11_tellVarint_2 : decode cX11_tellVarint 2 = .ok (.lshl, 1) := by decide +kernel
theorem dX11_tellVarint_3 : decode cX11_tellVarint 3 = .ok (.lload_n 1, 1) := by decide +kernel
theorem dX11_tellVarint_4 : decode cX11_tellVarint 4 = .ok (.bipush 63, 2) := by decide +kernel
theorem dX11_tellVarint_6 : decode cX11_tellVarint 6 = .ok (.lshr, 1) := by decide +kernel
theorem dX11_tellVarint_7 : decode cX11_tellVarint 7 = .ok (.lxor, 1) := by decide +kernel
theorem dX11_tellVarint_8 : decode cX11_tellVarint 8 = .ok (.lstore_n 3, 1) := by decide +kernel
theorem dX11_tellVarint_9 : decode cX11_tellVarint 9 = .ok (.lload_n 3, 1) := by decide +kernel
theorem dX11_tellVarint_10 : decode cX11_tellVarint 10 = .ok (.bipush 7, 2) := by decide +kernel
theorem dX11_tellVarint_12 : decode cX11_tellVarint 12 = .ok (.lushr, 1) := by decide +kernel
theorem dX11_tellVarint_13 : decode cX11_tellVarint 13 = .ok (.lconst 0, 1) := by decide +kernel
theorem dX11_tellVarint_14 : decode cX11_tellVarint 14 = .ok (.lcmp, 1) := by decide +kernel
theorem dX11_tellVarint_15 : decode cX11_tellVarint 15 = .ok (.ifCond .eq 25, 3) := by decide +kernel
theorem dX11_tellVarint_18 : decode cX11_tellVarint 18 = .ok (.aload_n 0, 1) := by decide +kernel
theorem dX11_tellVarint_19 : decode cX11_tellVarint 19 = .ok (.lload_n 3, 1) := by decide +kernel
theorem dX11_tellVarint_20 : decode cX11_tellVarint 20 = .ok (.ldc2_w 110, 3) := by decide +kernel
theorem dX11_tellVarint_23 : decode cX11_tellVarint 23 = .ok (.land, 1) := by decide +kernel
theorem dX11_tellVarint_24 : decode cX11_tellVarint 24 = .ok (.l2i, 1) := by decide +kernel
theorem dX11_tellVarint_25 : decode cX11_tellVarint 25 = .ok (.sipush 128, 3) := by decide +kernel
theorem dX11_tellVarint_28 : decode cX11_tellVarint 28 = .ok (.ior, 1) := by decide +kernel
theorem dX11_tellVarint_29 : decode cX11_tellVarint 29 = .ok (.invokevirtual 250, 3) := by decide +kernel
theorem dX11_tellVarint_32 : decode cX11_tellVarint 32 = .ok (.lload_n 3, 1) := by decide +kernel
theorem dX11_tellVarint_33 : decode cX11_tellVarint 33 = .ok (.bipush 7, 2) := by decide +kernel
theorem dX11_tellVarint_35 : decode cX11_tellVarint 35 = .ok (.lushr, 1) := by decide +kernel
theorem dX11_tellVarint_36 : decode cX11_tellVarint 36 = .ok (.lstore_n 3, 1) := by decide +kernel
theorem dX11_tellVarint_37 : decode cX11_tellVarint 37 = .ok (.goto (-28), 3) := by decide +kernel
theorem dX11_tellVarint_40 : decode cX11_tellVarint 40 = .ok (.aload_n 0, 1) := by decide +kernel
theorem dX11_tellVarint_41 : decode cX11_tellVarint 41 = .ok (.lload_n 3, 1) := by decide +kernel
theorem dX11_tellVarint_42 : decode cX11_tellVarint 42 = .ok (.l2i, 1) := by decide +kernel
theorem dX11_tellVarint_43 : decode cX11_tellVarint 43 = .ok (.invokevirtual 250, 3) := by decide +kernel
theorem dX11_tellVarint_46 : decode cX11_tellVarint 46 = .ok (.return_, 1) := by decide +kernel
theorem dX11_readVarint_0 : decode cX11_readVarint 0 = .ok (.lconst 0, 1) := by decide +kernel
theorem dX11_readVarint_1 : decode cX11_readVarint 1 = .ok (.lstore_n 1, 1) := by decide +kernel
theorem dX11_readVarint_2 : decode cX11_readVarint 2 = .ok (.iconst 0, 1) := by decide +kernel
theorem dX11_readVarint_3 : decode cX11_readVarint 3 = .ok (.istore_n 3, 1) := by decide +kernel
theorem dX11_readVarint_4 : decode cX11_readVarint 4 = .ok (.sipush 128, 3) := by decide +kernel
theorem dX11_readVarint_7 : decode cX11_readVarint 7 = .ok (.istore 4, 2) := by decide +kernel
theorem dX11_readVarint_9 : decode cX11_readVarint 9 = .ok (.iload 4, 2) := by decide +kernel
theorem dX11_readVarint_11 : decode cX11_readVarint 11 = .ok (.bipush 127, 2) := by decide +kernel
theorem dX11_readVarint_13 : decode cX11_readVarint 13 = .ok (.if_icmp .le 47, 3) := by decide +kernel
theorem dX11_readVarint_16 : decode cX11_readVarint 16 = .ok (.aload_n 0, 1) := by decide +kernel
theorem dX11_readVarint_17 : decode cX11_readVarint 17 = .ok (.getfield 35, 3) := by decide +kernel
theorem dX11_readVarint_20 : decode cX11_readVarint 20 = .ok (.aload_n 0, 1) := by decide +kernel
theorem dX11_readVarint_21 : decode cX11_readVarint 21 = .ok (.getfield 253, 3) := by decide +kernel
theorem dX11_readVarint_24 : decode cX11_readVarint 24 = .ok (.baload, 1) := by decide +kernel
theorem dX11_readVarint_25 : decode cX11_readVarint 25 = .ok (.sipush 255, 3) := by decide +kernel
theorem dX11_readVarint_28 : decode cX11_readVarint 28 = .ok (.iand, 1) := by decide +kernel
theorem dX11_readVarint_29 : decode cX11_readVarint 29 = .ok (.istore 4, 2) := by decide +kernel
theorem dX11_readVarint_31 : decode cX11_readVarint 31 = .ok (.aload_n 0, 1) := by decide +kernel
theorem dX11_readVarint_32 : decode cX11_readVarint 32 = .ok (.dup, 1) := by decide +kernel
theorem dX11_readVarint_33 : decode cX11_readVarint 33 = .ok (.getfield 253, 3) := by decide +kernel
theorem dX11_readVarint_36 : decode cX11_readVarint 36 = .ok (.iconst 1, 1) := by decide +kernel
theorem dX11_readVarint_37 : decode cX11_readVarint 37 = .ok (.iadd, 1) := by decide +kernel
theorem dX11_readVarint_38 : decode cX11_readVarint 38 = .ok (.putfield 253, 3) := by decide +kernel
theorem dX11_readVarint_41 : decode cX11_readVarint 41 = .ok (.lload_n 1, 1) := by decide +kernel
theorem dX11_readVarint_42 : decode cX11_readVarint 42 = .ok (.iload 4, 2) := by decide +kernel
theorem dX11_readVarint_44 : decode cX11_readVarint 44 = .ok (.bipush 127, 2) := by decide +kernel
theorem dX11_readVarint_46 : decode cX11_readVarint 46 = .ok (.iand, 1) := by decide +kernel
theorem dX11_readVarint_47 : decode cX11_readVarint 47 = .ok (.i2l, 1) := by decide +kernel
theorem dX11_readVarint_48 : decode cX11_readVarint 48 = .ok (.iload_n 3, 1) := by decide +kernel
theorem dX11_readVarint_49 : decode cX11_readVarint 49 = .ok (.lshl, 1) := by decide +kernel
theorem dX11_readVarint_50 : decode cX11_readVarint 50 = .ok (.lor, 1) := by decide +kernel
theorem dX11_readVarint_51 : decode cX11_readVarint 51 = .ok (.lstore_n 1, 1) := by decide +kernel
theorem dX11_readVarint_52 : decode cX11_readVarint 52 = .ok (.iload_n 3, 1) := by decide +kernel
theorem dX11_readVarint_53 : decode cX11_readVarint 53 = .ok (.bipush 7, 2) := by decide +kernel
theorem dX11_readVarint_55 : decode cX11_readVarint 55 = .ok (.iadd, 1) := by decide +kernel
theorem dX11_readVarint_56 : decode cX11_readVarint 56 = .ok (.istore_n 3, 1) := by decide +kernel
theorem dX11_readVarint_57 : decode cX11_readVarint 57 = .ok (.goto (-48), 3) := by decide +kernel
theorem dX11_readVarint_60 : decode cX11_readVarint 60 = .ok (.lload_n 1, 1) := by decide +kernel
theorem dX11_readVarint_61 : decode cX11_readVarint 61 = .ok (.iconst 1, 1) := by decide +kernel
