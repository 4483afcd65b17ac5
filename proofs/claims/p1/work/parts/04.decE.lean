theorem dX4_init_0 : decode cX4_init 0 = .ok (.aload_n 0, 1) := by decide +kernel
theorem dX4_init_1 : decode cX4_init 1 = .ok (.invokespecial 3, 3) := by decide +kernel
theorem dX4_init_4 : decode cX4_init 4 = .ok (.aload_n 0, 1) := by decide +kernel
theorem dX4_init_5 : decode cX4_init 5 = .ok (.iconst (-1), 1) := by decide +kernel
theorem dX4_init_6 : decode cX4_init 6 = .ok (.putfield 9, 3) := by decide +kernel
theorem dX4_init_9 : decode cX4_init 9 = .ok (.return_, 1) := by decide +kernel
theorem dX4_lookAtRows_0 : decode cX4_lookAtRows 0 = .ok (.aload_n 0, 1) := by decide +kernel
theorem dX4_lookAtRows_1 : decode cX4_lookAtRows 1 = .ok (.iconst (-1), 1) := by decide +kernel
theorem dX4_lookAtRows_2 : decode cX4_lookAtRows 2 = .ok (.putfield 9, 3) := by decide +kernel
theorem dX4_lookAtRows_5 : decode cX4_lookAtRows 5 = .ok (.aload_n 0, 1) := by decide +kernel
theorem dX4_lookAtRows_6 : decode cX4_lookAtRows 6 = .ok (.iconst 0, 1) := by decide +kernel
theorem dX4_lookAtRows_7 : decode cX4_lookAtRows 7 = .ok (.putfield 15, 3) := by decide +kernel
theorem dX4_lookAtRows_10 : decode cX4_lookAtRows 10 = .ok (.aload_n 0, 1) := by decide +kernel
theorem dX4_lookAtRows_11 : decode cX4_lookAtRows 11 = .ok (.iconst 0, 1) := by decide +kernel
theorem dX4_lookAtRows_12 : decode cX4_lookAtRows 12 = .ok (.putfield 18, 3) := by decide +kernel
theorem dX4_lookAtRows_15 : decode cX4_lookAtRows 15 = .ok (.aload_n 1, 1) := by decide +kernel
theorem dX4_lookAtRows_16 : decode cX4_lookAtRows 16 = .ok (.ifnull 18, 3) := by decide +kernel
theorem dX4_lookAtRows_19 : decode cX4_lookAtRows 19 = .ok (.aload_n 2, 1) := by decide +kernel
theorem dX4_lookAtRows_20 : decode cX4_lookAtRows 20 = .ok (.ifnull 14, 3) := by decide +kernel
theorem dX4_lookAtRows_23 : decode cX4_lookAtRows 23 = .ok (.aload_n 3, 1) := by decide +kernel
theorem dX4_lookAtRows_24 : decode cX4_lookAtRows 24 = .ok (.ifnull 10, 3) := by decide +kernel
theorem dX4_lookAtRows_27 : decode cX4_lookAtRows 27 = .ok (.aload_n 1, 1) := by decide +kernel
theorem dX4_lookAtRows_28 : decode cX4_lookAtRows 28 = .ok (.invokevirtual 21, 3) := by decide +kernel
theorem dX4_lookAtRows_31 : decode cX4_lookAtRows 31 = .ok (.ifCond .ne 6, 3) := by decide +kernel
theorem dX4_lookAtRows_34 : decode cX4_lookAtRows 34 = .ok (.bipush (-34), 2) := by decide +kernel
theorem dX4_lookAtRows_36 : decode cX4_lookAtRows 36 = .ok (.ireturn, 1) := by decide +kernel
theorem dX4_lookAtRows_37 : decode cX4_lookAtRows 37 = .ok (.aload_n 0, 1) := by decide +kernel
theorem dX4_lookAtRows_38 : decode cX4_lookAtRows 38 = .ok (.aload_n 1, 1) := by decide +kernel
theorem dX4_lookAtRows_39 : decode cX4_lookAtRows 39 = .ok (.putfield 27, 3) := by decide +kernel
theorem dX4_lookAtRows_42 : decode cX4_lookAtRows 42 = .ok (.aload_n 0, 1) := by decide +kernel
theorem dX4_lookAtRows_43 : decode cX4_lookAtRows 43 = .ok (.aload_n 2, 1) := by decide +kernel
theorem dX4_lookAtRows_44 : decode cX4_lookAtRows 44 = .ok (.putfield 31, 3) := by decide +kernel
theorem dX4_lookAtRows_47 : decode cX4_lookAtRows 47 = .ok (.aload_n 0, 1) := by decide +kernel
theorem dX4_lookAtRows_48 : decode cX4_lookAtRows 48 = .ok (.aload_n 3, 1) := by decide +kernel
theorem dX4_lookAtRows_49 : decode cX4_lookAtRows 49 = .ok (.invokevirtual 35, 3) := by decide +kernel
theorem dX4_lookAtRows_52 : decode cX4_lookAtRows 52 = .ok (.putfield 41, 3) := by decide +kernel
theorem dX4_lookAtRows_55 : decode cX4_lookAtRows 55 = .ok (.aload_n 3, 1) := by decide +kernel
theorem dX4_lookAtRows_56 : decode cX4_lookAtRows 56 = .ok (.invokevirtual 44, 3) := by decide +kernel
theorem dX4_lookAtRows_59 : decode cX4_lookAtRows 59 = .ok (.iconst 0, 1) := by decide +kernel
theorem dX4_lookAtRows_60 : decode cX4_lookAtRows 60 = .ok (.istore 4, 2) := by decide +kernel
theorem dX4_lookAtRows_62 : decode cX4_lookAtRows 62 = .ok (.iload 4, 2) := by decide +kernel
theorem dX4_lookAtRows_64 : decode cX4_lookAtRows 64 = .ok (.sipush 4096, 3) := by decide +kernel
theorem dX4_lookAtRows_67 : decode cX4_lookAtRows 67 = .ok (.if_icmp .ge 80, 3) := by decide +kernel
theorem dX4_lookAtRows_70 : decode cX4_lookAtRows 70 = .ok (.aload_n 0, 1) := by decide +kernel
theorem dX4_lookAtRows_71 : decode cX4_lookAtRows 71 = .ok (.getfield 18, 3) := by decide +kernel
theorem dX4_lookAtRows_74 : decode cX4_lookAtRows 74 = .ok (.aload_n 0, 1) := by decide +kernel
theorem dX4_lookAtRows_75 : decode cX4_lookAtRows 75 = .ok (.getfield 27, 3) := by decide +kernel
theorem dX4_lookAtRows_78 : decode cX4_lookAtRows 78 = .ok (.invokevirtual 21, 3) := by decide +kernel
theorem dX4_lookAtRows_81 : decode cX4_lookAtRows 81 = .ok (.if_icmp .ge 66, 3) := by decide +kernel
theorem dX4_lookAtRows_84 : decode cX4_lookAtRows 84 = .ok (.aload_n 0, 1) := by decide +kernel
theorem dX4_lookAtRows_85 : decode cX4_lookAtRows 85 = .ok (.getfield 18, 3) := by decide +kernel
theorem dX4_lookAtRows_88 : decode cX4_lookAtRows 88 = .ok (.istore 5, 2) := by decide +kernel
theorem dX4_lookAtRows_90 : decode cX4_lookAtRows 90 = .ok (.aload_n 0, 1) := by decide +kernel
theorem dX4_lookAtRows_91 : decode cX4_lookAtRows 91 = .ok (.iconst 0, 1) := by decide +kernel
theorem dX4_lookAtRows_92 : decode cX4_lookAtRows 92 = .ok (.putfield 47, 3) := by decide +kernel
theorem dX4_lookAtRows_95 : decode cX4_lookAtRows 95 = .ok (.aload_n 0, 1) := by decide +kernel
theorem dX4_lookAtRows_96 : decode cX4_lookAtRows 96 = .ok (.iconst 0, 1) := by decide +kernel
theorem dX4_lookAtRows_97 : decode cX4_lookAtRows 97 = .ok (.putfield 50, 3) := by decide +kernel
theorem dX4_lookAtRows_100 : decode cX4_lookAtRows 100 = .ok (.aload_n 3, 1) := by decide +kernel
theorem dX4_lookAtRows_101 : decode cX4_lookAtRows 101 = .ok (.invokevirtual 53, 3) := by decide +kernel
theorem dX4_lookAtRows_104 : decode cX4_lookAtRows 104 = .ok (.aload_n 0, 1) := by decide +kernel
theorem dX4_lookAtRows_105 : decode cX4_lookAtRows 105 = .ok (.aload_n 0, 1) := by decide +kernel
theorem dX4_lookAtRows_106 : decode cX4_lookAtRows 106 = .ok (.getfield 31, 3) := by decide +kernel
theorem dX4_lookAtRows_109 : decode cX4_lookAtRows 109 = .ok (.invokevirtual 56, 3) := by decide +kernel
theorem dX4_lookAtRows_112 : decode cX4_lookAtRows 112 = .ok (.iconst 0, 1) := by decide +kernel
theorem dX4_lookAtRows_113 : decode cX4_lookAtRows 113 = .ok (.invokevirtual 61, 3) := by decide +kernel
theorem dX4_lookAtRows_116 : decode cX4_lookAtRows 116 = .ok (.aload_n 0, 1) := by decide +kernel
theorem dX4_lookAtRows_117 : decode cX4_lookAtRows 117 = .ok (.getfield 15, 3) := by decide +kernel
theorem dX4_lookAtRows_120 : decode cX4_lookAtRows 120 = .ok (.ifCond .eq 9, 3) := by decide +kernel
theorem dX4_lookAtRows_123 : decode cX4_lookAtRows 123 = .ok (.aload_n 0, 1) := by decide +kernel
theorem dX4_lookAtRows_124 : decode cX4_lookAtRows 124 = .ok (.getfield 15, 3) := by decide +kernel
theorem dX4_lookAtRows_127 : decode cX4_lookAtRows 127 = .ok (.ineg, 1) := by decide +kernel
theorem dX4_lookAtRows_128 : decode cX4_lookAtRows 128 = .ok (.ireturn, 1) := by decide +kernel
theorem dX4_lookAtRows_129 : decode cX4_lookAtRows 129 = .ok (.aload_n 0, 1) := by decide +kernel
theorem dX4_lookAtRows_130 : decode cX4_lookAtRows 130 = .ok (.getfield 18, 3) := by decide +kernel
theorem dX4_lookAtRows_133 : decode cX4_lookAtRows 133 = .ok (.iload 5, 2) := by decide +kernel
theorem dX4_lookAtRows_135 : decode cX4_lookAtRows 135 = .ok (.if_icmp .ne 6, 3) := by decide +kernel
theorem dX4_lookAtRows_138 : decode cX4_lookAtRows 138 = .ok (.bipush (-34), 2) := by decide +kernel
theorem dX4_lookAtRows_140 : decode cX4_lookAtRows 140 = .ok (.ireturn, 1) := by decide +kernel
theorem dX4_lookAtRows_141 : decode cX4_lookAtRows 141 = .ok (.iinc 4 1, 3) := by decide +kernel
theorem dX4_lookAtRows_144 : decode cX4_lookAtRows 144 = .ok (.goto (-82), 3) := by decide +kernel
theorem dX4_lookAtRows_147 : decode cX4_lookAtRows 147 = .ok (.aload_n 3, 1) := by decide +kernel
theorem dX4_lookAtRows_148 : decode cX4_lookAtRows 148 = .ok (.invokevirtual 65, 3) := by decide +kernel
theorem dX4_lookAtRows_151 : decode cX4_lookAtRows 151 = .ok (.ireturn, 1) := by decide +kernel
theorem dX4_wrongPlace_0 : decode cX4_wrongPlace 0 = .ok (.aload_n 0, 1) := by decide +kernel
theorem dX4_wrongPlace_1 : decode cX4_wrongPlace 1 = .ok (.getfield 9, 3) := by decide +kernel
theorem dX4_wrongPlace_4 : decode cX4_wrongPlace 4 = .ok (.ireturn, 1) := by decide +kernel
theorem dX4_fail_0 : decode cX4_fail 0 = .ok (.aload_n 0, 1) := by decide +kernel
theorem dX4_fail_1 : decode cX4_fail 1 = .ok (.getfield 15, 3) := by decide +kernel
theorem dX4_fail_4 : decode cX4_fail 4 = .ok (.ifCond .ne 13, 3) := by decide +kernel
theorem dX4_fail_7 : decode cX4_fail 7 = .ok (.aload_n 0, 1) := by decide +kernel
theorem dX4_fail_8 : decode cX4_fail 8 = .ok (.iload_n 1, 1) := by decide +kernel
theorem dX4_fail_9 : decode cX4_fail 9 = .ok (.putfield 15, 3) := by decide +kernel
theorem dX4_fail_12 : decode cX4_fail 12 = .ok (.aload_n 0, 1) := by decide +kernel
theorem dX4_fail_13 : decode cX4_fail 13 = .ok (.iload_n 2, 1) := by decide +kernel
theorem dX4_fail_14 : decode cX4_fail 14 = .ok (.putfield 9, 3) := by decide +kernel
theorem dX4_fail_17 : decode cX4_fail 17 = .ok (.return_, 1) := by decide +kernel
theorem dX4_look_0 : decode cX4_look 0 = .ok (.iload_n 2, 1) := by decide +kernel
theorem dX4_look_1 : decode cX4_look 1 = .ok (.bipush 32, 2) := by decide +kernel
theorem dX4_look_3 : decode cX4_look 3 = .ok (.if_icmp .lt 14, 3) := by decide +kernel
theorem dX4_look_6 : decode cX4_look 6 = .ok (.aload_n 0, 1) := by decide +kernel
theorem dX4_look_7 : decode cX4_look 7 = .ok (.bipush 7, 2) := by decide +kernel
theorem dX4_look_9 : decode cX4_look 9 = .ok (.aload_n 0, 1) := by decide +kernel
theorem dX4_look_10 : decode cX4_look 10 = .ok (.getfield 18, 3) := by decide +kernel
theorem dX4_look_13 : decode cX4_look 13 = .ok (.invokevirtual 66, 3) := by decide +kernel
theorem dX4_look_16 : decode cX4_look 16 = .ok (.return_, 1) := by decide +kernel
theorem dX4_look_17 : decode cX4_look 17 = .ok (.aload_n 0, 1) := by decide +kernel
theorem dX4_look_18 : decode cX4_look 18 = .ok (.getfield 47, 3) := by decide +kernel
theorem dX4_look_21 : decode cX4_look 21 = .ok (.sipush 4000, 3) := by decide +kernel
theorem dX4_look_24 : decode cX4_look 24 = .ok (.if_icmp .lt 14, 3) := by decide +kernel
theorem dX4_look_27 : decode cX4_look 27 = .ok (.aload_n 0, 1) := by decide +kernel
theorem dX4_look_28 : decode cX4_look 28 = .ok (.bipush 8, 2) := by decide +kernel
theorem dX4_look_30 : decode cX4_look 30 = .ok (.aload_n 0, 1) := by decide +kernel
theorem dX4_look_31 : decode cX4_look 31 = .ok (.getfield 18, 3) := by decide +kernel
theorem dX4_look_34 : decode cX4_look 34 = .ok (.invokevirtual 66, 3) := by decide +kernel
theorem dX4_look_37 : decode cX4_look 37 = .ok (.return_, 1) := by decide +kernel
theorem dX4_look_38 : decode cX4_look 38 = .ok (.aload_n 0, 1) := by decide +kernel
theorem dX4_look_39 : decode cX4_look 39 = .ok (.dup, 1) := by decide +kernel
theorem dX4_look_40 : decode cX4_look 40 = .ok (.getfield 47, 3) := by decide +kernel
theorem dX4_look_43 : decode cX4_look 43 = .ok (.iconst 1, 1) := by decide +kernel
theorem dX4_look_44 : decode cX4_look 44 = .ok (.iadd, 1) := by decide +kernel
theorem dX4_look_45 : decode cX4_look 45 = .ok (.putfield 47, 3) := by decide +kernel
theorem dX4_look_48 : decode cX4_look 48 = .ok (.aload_n 0, 1) := by decide +kernel
theorem dX4_look_49 : decode cX4_look 49 = .ok (.getfield 31, 3) := by decide +kernel
theorem dX4_look_52 : decode cX4_look 52 = .ok (.iload_n 1, 1) := by decide +kernel
theorem dX4_look_53 : decode cX4_look 53 = .ok (.invokevirtual 69, 3) := by decide +kernel
theorem dX4_look_56 : decode cX4_look 56 = .ok (.tableswitch 135 1 11 #[60, 65, 65, 87, 87, 121, 121, 114, 92, 106, 128], 60) := by decide +kernel
theorem dX4_look_116 : decode cX4_look 116 = .ok (.aload_n 0, 1) := by decide +kernel
theorem dX4_look_117 : decode cX4_look 117 = .ok (.invokevirtual 73, 3) := by decide +kernel
theorem dX4_look_120 : decode cX4_look 120 = .ok (.return_, 1) := by decide +kernel
theorem dX4_look_121 : decode cX4_look 121 = .ok (.aload_n 0, 1) := by decide +kernel
theorem dX4_look_122 : decode cX4_look 122 = .ok (.aload_n 0, 1) := by decide +kernel
theorem dX4_look_123 : decode cX4_look 123 = .ok (.getfield 31, 3) := by decide +kernel
theorem dX4_look_126 : decode cX4_look 126 = .ok (.iload_n 1, 1) := by decide +kernel
theorem dX4_look_127 : decode cX4_look 127 = .ok (.invokevirtual 69, 3) := by decide +kernel
theorem dX4_look_130 : decode cX4_look 130 = .ok (.iconst 2, 1) := by decide +kernel
theorem dX4_look_131 : decode cX4_look 131 = .ok (.if_icmp .ne 7, 3) := by decide +kernel
theorem dX4_look_134 : decode cX4_look 134 = .ok (.iconst 1, 1) := by decide +kernel
theorem dX4_look_135 : decode cX4_look 135 = .ok (.goto 4, 3) := by decide +kernel
theorem dX4_look_138 : decode cX4_look 138 = .ok (.iconst 0, 1) := by decide +kernel
theorem dX4_look_139 : decode cX4_look 139 = .ok (.invokevirtual 76, 3) := by decide +kernel
theorem dX4_look_142 : decode cX4_look 142 = .ok (.return_, 1) := by decide +kernel
theorem dX4_look_143 : decode cX4_look 143 = .ok (.aload_n 0, 1) := by decide +kernel
theorem dX4_look_144 : decode cX4_look 144 = .ok (.invokevirtual 80, 3) := by decide +kernel
theorem dX4_look_147 : decode cX4_look 147 = .ok (.return_, 1) := by decide +kernel
theorem dX4_look_148 : decode cX4_look 148 = .ok (.aload_n 0, 1) := by decide +kernel
theorem dX4_look_149 : decode cX4_look 149 = .ok (.aload_n 0, 1) := by decide +kernel
theorem dX4_look_150 : decode cX4_look 150 = .ok (.getfield 31, 3) := by decide +kernel
theorem dX4_look_153 : decode cX4_look 153 = .ok (.iload_n 1, 1) := by decide +kernel
theorem dX4_look_154 : decode cX4_look 154 = .ok (.invokevirtual 83, 3) := by decide +kernel
theorem dX4_look_157 : decode cX4_look 157 = .ok (.i2l, 1) := by decide +kernel
theorem dX4_look_158 : decode cX4_look 158 = .ok (.invokevirtual 86, 3) := by decide +kernel
theorem dX4_look_161 : decode cX4_look 161 = .ok (.return_, 1) := by decide +kernel
theorem dX4_look_162 : decode cX4_look 162 = .ok (.aload_n 0, 1) := by decide +kernel
theorem dX4_look_163 : decode cX4_look 163 = .ok (.iload_n 1, 1) := by decide +kernel
theorem dX4_look_164 : decode cX4_look 164 = .ok (.iconst 5, 1) := by decide +kernel
theorem dX4_look_165 : decode cX4_look 165 = .ok (.invokevirtual 90, 3) := by decide +kernel
theorem dX4_look_168 : decode cX4_look 168 = .ok (.pop, 1) := by decide +kernel
theorem dX4_look_169 : decode cX4_look 169 = .ok (.return_, 1) := by decide +kernel
theorem dX4_look_170 : decode cX4_look 170 = .ok (.aload_n 0, 1) := by decide +kernel
theorem dX4_look_171 : decode cX4_look 171 = .ok (.iload_n 1, 1) := by decide +kernel
theorem dX4_look_172 : decode cX4_look 172 = .ok (.iload_n 2, 1) := by decide +kernel
theorem dX4_look_173 : decode cX4_look 173 = .ok (.invokevirtual 94, 3) := by decide +kernel
theorem dX4_look_176 : decode cX4_look 176 = .ok (.return_, 1) := by decide +kernel
theorem dX4_look_177 : decode cX4_look 177 = .ok (.aload_n 0, 1) := by decide +kernel
theorem dX4_look_178 : decode cX4_look 178 = .ok (.iload_n 1, 1) := by decide +kernel
theorem dX4_look_179 : decode cX4_look 179 = .ok (.iload_n 2, 1) := by decide +kernel
theorem dX4_look_180 : decode cX4_look 180 = .ok (.invokevirtual 97, 3) := by decide +kernel
theorem dX4_look_183 : decode cX4_look 183 = .ok (.return_, 1) := by decide +kernel
theorem dX4_look_184 : decode cX4_look 184 = .ok (.aload_n 0, 1) := by decide +kernel
theorem dX4_look_185 : decode cX4_look 185 = .ok (.iload_n 1, 1) := by decide +kernel
theorem dX4_look_186 : decode cX4_look 186 = .ok (.iload_n 2, 1) := by decide +kernel
theorem dX4_look_187 : decode cX4_look 187 = .ok (.invokevirtual 100, 3) := by decide +kernel
theorem dX4_look_190 : decode cX4_look 190 = .ok (.return_, 1) := by decide +kernel
theorem dX4_look_191 : decode cX4_look 191 = .ok (.return_, 1) := by decide +kernel
theorem dX4_lookAtBoolean_0 : decode cX4_lookAtBoolean 0 = .ok (.aload_n 0, 1) := by decide +kernel
theorem dX4_lookAtBoolean_1 : decode cX4_lookAtBoolean 1 = .ok (.getfield 18, 3) := by decide +kernel
theorem dX4_lookAtBoolean_4 : decode cX4_lookAtBoolean 4 = .ok (.aload_n 0, 1) := by decide +kernel
theorem dX4_lookAtBoolean_5 : decode cX4_lookAtBoolean 5 = .ok (.getfield 27, 3) := by decide +kernel
theorem dX4_lookAtBoolean_8 : decode cX4_lookAtBoolean 8 = .ok (.invokevirtual 21, 3) := by decide +kernel
theorem dX4_lookAtBoolean_11 : decode cX4_lookAtBoolean 11 = .ok (.if_icmp .lt 18, 3) := by decide +kernel
theorem dX4_lookAtBoolean_14 : decode cX4_lookAtBoolean 14 = .ok (.aload_n 0, 1) := by decide +kernel
theorem dX4_lookAtBoolean_15 : decode cX4_lookAtBoolean 15 = .ok (.iconst 1, 1) := by decide +kernel
theorem dX4_lookAtBoolean_16 : decode cX4_lookAtBoolean 16 = .ok (.aload_n 0, 1) := by decide +kernel
theorem dX4_lookAtBoolean_17 : decode cX4_lookAtBoolean 17 = .ok (.getfield 27, 3) := by decide +kernel
theorem dX4_lookAtBoolean_20 : decode cX4_lookAtBoolean 20 = .ok (.invokevirtual 21, 3) := by decide +kernel
theorem dX4_lookAtBoolean_23 : decode cX4_lookAtBoolean 23 = .ok (.invokevirtual 66, 3) := by decide +kernel
theorem dX4_lookAtBoolean_26 : decode cX4_lookAtBoolean 26 = .ok (.goto 59, 3) := by decide +kernel
theorem dX4_lookAtBoolean_29 : decode cX4_lookAtBoolean 29 = .ok (.aload_n 0, 1) := by decide +kernel
theorem dX4_lookAtBoolean_30 : decode cX4_lookAtBoolean 30 = .ok (.getfield 27, 3) := by decide +kernel
theorem dX4_lookAtBoolean_33 : decode cX4_lookAtBoolean 33 = .ok (.aload_n 0, 1) := by decide +kernel
theorem dX4_lookAtBoolean_34 : decode cX4_lookAtBoolean 34 = .ok (.getfield 18, 3) := by decide +kernel
theorem dX4_lookAtBoolean_37 : decode cX4_lookAtBoolean 37 = .ok (.invokevirtual 103, 3) := by decide +kernel
theorem dX4_lookAtBoolean_40 : decode cX4_lookAtBoolean 40 = .ok (.iconst 1, 1) := by decide +kernel
theorem dX4_lookAtBoolean_41 : decode cX4_lookAtBoolean 41 = .ok (.if_icmp .le 15, 3) := by decide +kernel
theorem dX4_lookAtBoolean_44 : decode cX4_lookAtBoolean 44 = .ok (.aload_n 0, 1) := by decide +kernel
theorem dX4_lookAtBoolean_45 : decode cX4_lookAtBoolean 45 = .ok (.iconst 3, 1) := by decide +kernel
theorem dX4_lookAtBoolean_46 : decode cX4_lookAtBoolean 46 = .ok (.aload_n 0, 1) := by decide +kernel
theorem dX4_lookAtBoolean_47 : decode cX4_lookAtBoolean 47 = .ok (.getfield 18, 3) := by decide +kernel
theorem dX4_lookAtBoolean_50 : decode cX4_lookAtBoolean 50 = .ok (.invokevirtual 66, 3) := by decide +kernel
theorem dX4_lookAtBoolean_53 : decode cX4_lookAtBoolean 53 = .ok (.goto 32, 3) := by decide +kernel
theorem dX4_lookAtBoolean_56 : decode cX4_lookAtBoolean 56 = .ok (.aload_n 0, 1) := by decide +kernel
theorem dX4_lookAtBoolean_57 : decode cX4_lookAtBoolean 57 = .ok (.getfield 41, 3) := by decide +kernel
theorem dX4_lookAtBoolean_60 : decode cX4_lookAtBoolean 60 = .ok (.aload_n 0, 1) := by decide +kernel
theorem dX4_lookAtBoolean_61 : decode cX4_lookAtBoolean 61 = .ok (.getfield 27, 3) := by decide +kernel
theorem dX4_lookAtBoolean_64 : decode cX4_lookAtBoolean 64 = .ok (.aload_n 0, 1) := by decide +kernel
theorem dX4_lookAtBoolean_65 : decode cX4_lookAtBoolean 65 = .ok (.getfield 18, 3) := by decide +kernel
theorem dX4_lookAtBoolean_68 : decode cX4_lookAtBoolean 68 = .ok (.invokevirtual 103, 3) := by decide +kernel
theorem dX4_lookAtBoolean_71 : decode cX4_lookAtBoolean 71 = .ok (.invokevirtual 106, 3) := by decide +kernel
theorem dX4_lookAtBoolean_74 : decode cX4_lookAtBoolean 74 = .ok (.pop, 1) := by decide +kernel
theorem dX4_lookAtBoolean_75 : decode cX4_lookAtBoolean 75 = .ok (.aload_n 0, 1) := by decide +kernel
theorem dX4_lookAtBoolean_76 : decode cX4_lookAtBoolean 76 = .ok (.dup, 1) := by decide +kernel
theorem dX4_lookAtBoolean_77 : decode cX4_lookAtBoolean 77 = .ok (.getfield 18, 3) := by decide +kernel
theorem dX4_lookAtBoolean_80 : decode cX4_lookAtBoolean 80 = .ok (.iconst 1, 1) := by decide +kernel
theorem dX4_lookAtBoolean_81 : decode cX4_lookAtBoolean 81 = .ok (.iadd, 1) := by decide +kernel
theorem dX4_lookAtBoolean_82 : decode cX4_lookAtBoolean 82 = .ok (.putfield 18, 3) := by decide +kernel
theorem dX4_lookAtBoolean_85 : decode cX4_lookAtBoolean 85 = .ok (.return_, 1) := by decide +kernel
theorem dX4_varint_0 : decode cX4_varint 0 = .ok (.aload_n 0, 1) := by decide +kernel
theorem dX4_varint_1 : decode cX4_varint 1 = .ok (.getfield 18, 3) := by decide +kernel
theorem dX4_varint_4 : decode cX4_varint 4 = .ok (.istore_n 1, 1) := by decide +kernel
theorem dX4_varint_5 : decode cX4_varint 5 = .ok (.lconst 0, 1) := by decide +kernel
theorem dX4_varint_6 : decode cX4_varint 6 = .ok (.lstore_n 2, 1) := by decide +kernel
theorem dX4_varint_7 : decode cX4_varint 7 = .ok (.iconst 0, 1) := by decide +kernel
theorem dX4_varint_8 : decode cX4_varint 8 = .ok (.istore 4, 2) := by decide +kernel
theorem dX4_varint_10 : decode cX4_varint 10 = .ok (.iload 4, 2) := by decide +kernel
theorem dX4_varint_12 : decode cX4_varint 12 = .ok (.bipush 10, 2) := by decide +kernel
theorem dX4_varint_14 : decode cX4_varint 14 = .ok (.if_icmp .ge 113, 3) := by decide +kernel
theorem dX4_varint_17 : decode cX4_varint 17 = .ok (.aload_n 0, 1) := by decide +kernel
theorem dX4_varint_18 : decode cX4_varint 18 = .ok (.getfield 18, 3) := by decide +kernel
theorem dX4_varint_21 : decode cX4_varint 21 = .ok (.aload_n 0, 1) := by decide +kernel
theorem dX4_varint_22 : decode cX4_varint 22 = .ok (.getfield 27, 3) := by decide +kernel
theorem dX4_varint_25 : decode cX4_varint 25 = .ok (.invokevirtual 21, 3) := by decide +kernel
theorem dX4_varint_28 : decode cX4_varint 28 = .ok (.if_icmp .lt 17, 3) := by decide +kernel
theorem dX4_varint_31 : decode cX4_varint 31 = .ok (.aload_n 0, 1) := by decide +kernel
theorem dX4_varint_32 : decode cX4_varint 32 = .ok (.iconst 1, 1) := by decide +kernel
theorem dX4_varint_33 : decode cX4_varint 33 = .ok (.aload_n 0, 1) := by decide +kernel
theorem dX4_varint_34 : decode cX4_varint 34 = .ok (.getfield 27, 3) := by decide +kernel
theorem dX4_varint_37 : decode cX4_varint 37 = .ok (.invokevirtual 21, 3) := by decide +kernel
theorem dX4_varint_40 : decode cX4_varint 40 = .ok (.invokevirtual 66, 3) := by decide +kernel
theorem dX4_varint_43 : decode cX4_varint 43 = .ok (.lconst 0, 1) := by decide +kernel
theorem dX4_varint_44 : decode cX4_varint 44 = .ok (.lreturn, 1) := by decide +kernel
theorem dX4_varint_45 : decode cX4_varint 45 = .ok (.aload_n 0, 1) := by decide +kernel
theorem dX4_varint_46 : decode cX4_varint 46 = .ok (.getfield 27, 3) := by decide +kernel
theorem dX4_varint_49 : decode cX4_varint 49 = .ok (.aload_n 0, 1) := by decide +kernel
theorem dX4_varint_50 : decode cX4_varint 50 = .ok (.getfield 18, 3) := by decide +kernel
theorem dX4_varint_53 : decode cX4_varint 53 = .ok (.invokevirtual 103, 3) := by decide +kernel
theorem dX4_varint_56 : decode cX4_varint 56 = .ok (.istore 5, 2) := by decide +kernel
theorem dX4_varint_58 : decode cX4_varint 58 = .ok (.iload 4, 2) := by decide +kernel
theorem dX4_varint_60 : decode cX4_varint 60 = .ok (.bipush 9, 2) := by decide +kernel
theorem dX4_varint_62 : decode cX4_varint 62 = .ok (.if_icmp .ne 17, 3) := by decide +kernel
theorem dX4_varint_65 : decode cX4_varint 65 = .ok (.iload 5, 2) := by decide +kernel
theorem dX4_varint_67 : decode cX4_varint 67 = .ok (.iconst 1, 1) := by decide +kernel
theorem dX4_varint_68 : decode cX4_varint 68 = .ok (.if_icmp .le 11, 3) := by decide +kernel
theorem dX4_varint_71 : decode cX4_varint 71 = .ok (.aload_n 0, 1) := by decide +kernel
theorem dX4_varint_72 : decode cX4_varint 72 = .ok (.iconst 2, 1) := by decide +kernel
theorem dX4_varint_73 : decode cX4_varint 73 = .ok (.iload_n 1, 1) := by decide +kernel
theorem dX4_varint_74 : decode cX4_varint 74 = .ok (.invokevirtual 66, 3) := by decide +kernel
theorem dX4_varint_77 : decode cX4_varint 77 = .ok (.lconst 0, 1) := by decide +kernel
theorem dX4_varint_78 : decode cX4_varint 78 = .ok (.lreturn, 1) := by decide +kernel
theorem dX4_varint_79 : decode cX4_varint 79 = .ok (.aload_n 0, 1) := by decide +kernel
theorem dX4_varint_80 : decode cX4_varint 80 = .ok (.dup, 1) := by decide +kernel
theorem dX4_varint_81 : decode cX4_varint 81 = .ok (.getfield 18, 3) := by decide +kernel
theorem dX4_varint_84 : decode cX4_varint 84 = .ok (.iconst 1, 1) := by decide +kernel
theorem dX4_varint_85 : decode cX4_varint 85 = .ok (.iadd, 1) := by decide +kernel
theorem dX4_varint_86 : decode cX4_varint 86 = .ok (.putfield 18, 3) := by decide +kernel
theorem dX4_varint_89 : decode cX4_varint 89 = .ok (.lload_n 2, 1) := by decide +kernel
theorem dX4_varint_90 : decode cX4_varint 90 = .ok (.iload 5, 2) := by decide +kernel
theorem dX4_varint_92 : decode cX4_varint 92 = .ok (.bipush 127, 2) := by decide +kernel
theorem dX4_varint_94 : decode cX4_varint 94 = .ok (.iand, 1) := by decide +kernel
theorem dX4_varint_95 : decode cX4_varint 95 = .ok (.i2l, 1) := by decide +kernel
theorem dX4_varint_96 : decode cX4_varint 96 = .ok (.bipush 7, 2) := by decide +kernel
theorem dX4_varint_98 : decode cX4_varint 98 = .ok (.iload 4, 2) := by decide +kernel
theorem dX4_varint_100 : decode cX4_varint 100 = .ok (.imul, 1) := by decide +kernel
theorem dX4_varint_101 : decode cX4_varint 101 = .ok (.lshl, 1) := by decide +kernel
theorem dX4_varint_102 : decode cX4_varint 102 = .ok (.lor, 1) := by decide +kernel
theorem dX4_varint_103 : decode cX4_varint 103 = .ok (.lstore_n 2, 1) := by decide +kernel
theorem dX4_varint_104 : decode cX4_varint 104 = .ok (.iload 5, 2) := by decide +kernel
theorem dX4_varint_106 : decode cX4_varint 106 = .ok (.sipush 128, 3) := by decide +kernel
theorem dX4_varint_109 : decode cX4_varint 109 = .ok (.if_icmp .ge 12, 3) := by decide +kernel
theorem dX4_varint_112 : decode cX4_varint 112 = .ok (.lload_n 2, 1) := by decide +kernel
theorem dX4_varint_113 : decode cX4_varint 113 = .ok (.iconst 1, 1) := by decide +kernel
theorem dX4_varint_114 : decode cX4_varint 114 = .ok (.lushr, 1) := by decide +kernel
theorem dX4_varint_115 : decode cX4_varint 115 = .ok (.lload_n 2, 1) := by decide +kernel
theorem dX4_varint_116 : decode cX4_varint 116 = .ok (.lconst 1, 1) := by decide +kernel
theorem dX4_varint_117 : decode cX4_varint 117 = .ok (.land, 1) := by decide +kernel
theorem dX4_varint_118 : decode cX4_varint 118 = .ok (.lneg, 1) := by decide +kernel
theorem dX4_varint_119 : decode cX4_varint 119 = .ok (.lxor, 1) := by decide +kernel
theorem dX4_varint_120 : decode cX4_varint 120 = .ok (.lreturn, 1) := by decide +kernel
theorem dX4_varint_121 : decode cX4_varint 121 = .ok (.iinc 4 1, 3) := by decide +kernel
theorem dX4_varint_124 : decode cX4_varint 124 = .ok (.goto (-114), 3) := by decide +kernel
theorem dX4_varint_127 : decode cX4_varint 127 = .ok (.lconst 0, 1) := by decide +kernel
theorem dX4_varint_128 : decode cX4_varint 128 = .ok (.lreturn, 1) := by decide +kernel
theorem dX4_lookAtNumber_0 : decode cX4_lookAtNumber 0 = .ok (.aload_n 0, 1) := by decide +kernel
theorem dX4_lookAtNumber_1 : decode cX4_lookAtNumber 1 = .ok (.getfield 18, 3) := by decide +kernel
theorem dX4_lookAtNumber_4 : decode cX4_lookAtNumber 4 = .ok (.istore_n 2, 1) := by decide +kernel
theorem dX4_lookAtNumber_5 : decode cX4_lookAtNumber 5 = .ok (.aload_n 0, 1) := by decide +kernel
theorem dX4_lookAtNumber_6 : decode cX4_lookAtNumber 6 = .ok (.invokevirtual 110, 3) := by decide +kernel
theorem dX4_lookAtNumber_9 : decode cX4_lookAtNumber 9 = .ok (.lstore_n 3, 1) := by decide +kernel
theorem dX4_lookAtNumber_10 : decode cX4_lookAtNumber 10 = .ok (.iload_n 1, 1) := by decide +kernel
theorem dX4_lookAtNumber_11 : decode cX4_lookAtNumber 11 = .ok (.ifCond .eq 17, 3) := by decide +kernel
theorem dX4_lookAtNumber_14 : decode cX4_lookAtNumber 14 = .ok (.lload_n 3, 1) := by decide +kernel
theorem dX4_lookAtNumber_15 : decode cX4_lookAtNumber 15 = .ok (.lload_n 3, 1) := by decide +kernel
theorem dX4_lookAtNumber_16 : decode cX4_lookAtNumber 16 = .ok (.l2i, 1) := by decide +kernel
theorem dX4_lookAtNumber_17 : decode cX4_lookAtNumber 17 = .ok (.i2l, 1) := by decide +kernel
theorem dX4_lookAtNumber_18 : decode cX4_lookAtNumber 18 = .ok (.lcmp, 1) := by decide +kernel
theorem dX4_lookAtNumber_19 : decode cX4_lookAtNumber 19 = .ok (.ifCond .eq 9, 3) := by decide +kernel
theorem dX4_lookAtNumber_22 : decode cX4_lookAtNumber 22 = .ok (.aload_n 0, 1) := by decide +kernel
theorem dX4_lookAtNumber_23 : decode cX4_lookAtNumber 23 = .ok (.iconst 2, 1) := by decide +kernel
theorem dX4_lookAtNumber_24 : decode cX4_lookAtNumber 24 = .ok (.iload_n 2, 1) := by decide +kernel
theorem dX4_lookAtNumber_25 : decode cX4_lookAtNumber 25 = .ok (.invokevirtual 66, 3) := by decide +kernel
theorem dX4_lookAtNumber_28 : decode cX4_lookAtNumber 28 = .ok (.aload_n 0, 1) := by decide +kernel
theorem dX4_lookAtNumber_29 : decode cX4_lookAtNumber 29 = .ok (.getfield 15, 3) := by decide +kernel
theorem dX4_lookAtNumber_32 : decode cX4_lookAtNumber 32 = .ok (.ifCond .ne 12, 3) := by decide +kernel
theorem dX4_lookAtNumber_35 : decode cX4_lookAtNumber 35 = .ok (.aload_n 0, 1) := by decide +kernel
theorem dX4_lookAtNumber_36 : decode cX4_lookAtNumber 36 = .ok (.getfield 41, 3) := by decide +kernel
theorem dX4_lookAtNumber_39 : decode cX4_lookAtNumber 39 = .ok (.lload_n 3, 1) := by decide +kernel
theorem dX4_lookAtNumber_40 : decode cX4_lookAtNumber 40 = .ok (.invokevirtual 114, 3) := by decide +kernel
theorem dX4_lookAtNumber_43 : decode cX4_lookAtNumber 43 = .ok (.pop, 1) := by decide +kernel
theorem dX4_lookAtNumber_44 : decode cX4_lookAtNumber 44 = .ok (.return_, 1) := by decide +kernel
theorem dX4_lookAtString_0 : decode cX4_lookAtString 0 = .ok (.aload_n 0, 1) := by decide +kernel
theorem dX4_lookAtString_1 : decode cX4_lookAtString 1 = .ok (.getfield 18, 3) := by decide +kernel
theorem dX4_lookAtString_4 : decode cX4_lookAtString 4 = .ok (.istore_n 1, 1) := by decide +kernel
theorem dX4_lookAtString_5 : decode cX4_lookAtString 5 = .ok (.aload_n 0, 1) := by decide +kernel
theorem dX4_lookAtString_6 : decode cX4_lookAtString 6 = .ok (.invokevirtual 110, 3) := by decide +kernel
theorem dX4_lookAtString_9 : decode cX4_lookAtString 9 = .ok (.lstore_n 2, 1) := by decide +kernel
theorem dX4_lookAtString_10 : decode cX4_lookAtString 10 = .ok (.lload_n 2, 1) := by decide +kernel
theorem dX4_lookAtString_11 : decode cX4_lookAtString 11 = .ok (.lconst 0, 1) := by decide +kernel
theorem dX4_lookAtString_12 : decode cX4_lookAtString 12 = .ok (.lcmp, 1) := by decide +kernel
theorem dX4_lookAtString_13 : decode cX4_lookAtString 13 = .ok (.ifCond .ge 10, 3) := by decide +kernel
theorem dX4_lookAtString_16 : decode cX4_lookAtString 16 = .ok (.aload_n 0, 1) := by decide +kernel
theorem dX4_lookAtString_17 : decode cX4_lookAtString 17 = .ok (.bipush 6, 2) := by decide +kernel
theorem dX4_lookAtString_19 : decode cX4_lookAtString 19 = .ok (.iload_n 1, 1) := by decide +kernel
theorem dX4_lookAtString_20 : decode cX4_lookAtString 20 = .ok (.invokevirtual 66, 3) := by decide +kernel
theorem dX4_lookAtString_23 : decode cX4_lookAtString 23 = .ok (.aload_n 0, 1) := by decide +kernel
theorem dX4_lookAtString_24 : decode cX4_lookAtString 24 = .ok (.getfield 15, 3) := by decide +kernel
theorem dX4_lookAtString_27 : decode cX4_lookAtString 27 = .ok (.ifCond .ne 17, 3) := by decide +kernel
theorem dX4_lookAtString_30 : decode cX4_lookAtString 30 = .ok (.aload_n 0, 1) := by decide +kernel
theorem dX4_lookAtString_31 : decode cX4_lookAtString 31 = .ok (.getfield 41, 3) := by decide +kernel
theorem dX4_lookAtString_34 : decode cX4_lookAtString 34 = .ok (.lload_n 2, 1) := by decide +kernel
theorem dX4_lookAtString_35 : decode cX4_lookAtString 35 = .ok (.invokevirtual 114, 3) := by decide +kernel
theorem dX4_lookAtString_38 : decode cX4_lookAtString 38 = .ok (.pop, 1) := by decide +kernel
theorem dX4_lookAtString_39 : decode cX4_lookAtString 39 = .ok (.aload_n 0, 1) := by decide +kernel
theorem dX4_lookAtString_40 : decode cX4_lookAtString 40 = .ok (.lload_n 2, 1) := by decide +kernel
theorem dX4_lookAtString_41 : decode cX4_lookAtString 41 = .ok (.invokevirtual 86, 3) := by decide +kernel
theorem dX4_lookAtString_44 : decode cX4_lookAtString 44 = .ok (.return_, 1) := by decide +kernel
theorem dX4_takeBytes_0 : decode cX4_takeBytes 0 = .ok (.lload_n 1, 1) := by decide +kernel
theorem dX4_takeBytes_1 : decode cX4_takeBytes 1 = .ok (.aload_n 0, 1) := by decide +kernel
theorem dX4_takeBytes_2 : decode cX4_takeBytes 2 = .ok (.getfield 27, 3) := by decide +kernel
theorem dX4_takeBytes_5 : decode cX4_takeBytes 5 = .ok (.invokevirtual 21, 3) := by decide +kernel
theorem dX4_takeBytes_8 : decode cX4_takeBytes 8 = .ok (.aload_n 0, 1) := by decide +kernel
theorem dX4_takeBytes_9 : decode cX4_takeBytes 9 = .ok (.getfield 18, 3) := by decide +kernel
theorem dX4_takeBytes_12 : decode cX4_takeBytes 12 = .ok (.isub, 1) := by decide +kernel
theorem dX4_takeBytes_13 : decode cX4_takeBytes 13 = .ok (.i2l, 1) := by decide +kernel
theorem dX4_takeBytes_14 : decode cX4_takeBytes 14 = .ok (.lcmp, 1) := by decide +kernel
theorem dX4_takeBytes_15 : decode cX4_takeBytes 15 = .ok (.ifCond .le 16, 3) := by decide +kernel
theorem dX4_takeBytes_18 : decode cX4_takeBytes 18 = .ok (.aload_n 0, 1) := by decide +kernel
theorem dX4_takeBytes_19 : decode cX4_takeBytes 19 = .ok (.iconst 1, 1) := by decide +kernel
theorem dX4_takeBytes_20 : decode cX4_takeBytes 20 = .ok (.aload_n 0, 1) := by decide +kernel
theorem dX4_takeBytes_21 : decode cX4_takeBytes 21 = .ok (.getfield 27, 3) := by decide +kernel
theorem dX4_takeBytes_24 : decode cX4_takeBytes 24 = .ok (.invokevirtual 21, 3) := by decide +kernel
theorem dX4_takeBytes_27 : decode cX4_takeBytes 27 = .ok (.invokevirtual 66, 3) := by decide +kernel
theorem dX4_takeBytes_30 : decode cX4_takeBytes 30 = .ok (.return_, 1) := by decide +kernel
theorem dX4_takeBytes_31 : decode cX4_takeBytes 31 = .ok (.aload_n 0, 1) := by decide +kernel
theorem dX4_takeBytes_32 : decode cX4_takeBytes 32 = .ok (.getfield 41, 3) := by decide +kernel
theorem dX4_takeBytes_35 : decode cX4_takeBytes 35 = .ok (.aload_n 0, 1) := by decide +kernel
theorem dX4_takeBytes_36 : decode cX4_takeBytes 36 = .ok (.getfield 27, 3) := by decide +kernel
theorem dX4_takeBytes_39 : decode cX4_takeBytes 39 = .ok (.aload_n 0, 1) := by decide +kernel
theorem dX4_takeBytes_40 : decode cX4_takeBytes 40 = .ok (.getfield 18, 3) := by decide +kernel
theorem dX4_takeBytes_43 : decode cX4_takeBytes 43 = .ok (.aload_n 0, 1) := by decide +kernel
theorem dX4_takeBytes_44 : decode cX4_takeBytes 44 = .ok (.getfield 18, 3) := by decide +kernel
theorem dX4_takeBytes_47 : decode cX4_takeBytes 47 = .ok (.lload_n 1, 1) := by decide +kernel
theorem dX4_takeBytes_48 : decode cX4_takeBytes 48 = .ok (.l2i, 1) := by decide +kernel
theorem dX4_takeBytes_49 : decode cX4_takeBytes 49 = .ok (.iadd, 1) := by decide +kernel
theorem dX4_takeBytes_50 : decode cX4_takeBytes 50 = .ok (.invokevirtual 118, 3) := by decide +kernel
theorem dX4_takeBytes_53 : decode cX4_takeBytes 53 = .ok (.pop, 1) := by decide +kernel
theorem dX4_takeBytes_54 : decode cX4_takeBytes 54 = .ok (.aload_n 0, 1) := by decide +kernel
theorem dX4_takeBytes_55 : decode cX4_takeBytes 55 = .ok (.dup, 1) := by decide +kernel
theorem dX4_takeBytes_56 : decode cX4_takeBytes 56 = .ok (.getfield 18, 3) := by decide +kernel
theorem dX4_takeBytes_59 : decode cX4_takeBytes 59 = .ok (.lload_n 1, 1) := by decide +kernel
theorem dX4_takeBytes_60 : decode cX4_takeBytes 60 = .ok (.l2i, 1) := by decide +kernel
theorem dX4_takeBytes_61 : decode cX4_takeBytes 61 = .ok (.iadd, 1) := by decide +kernel
theorem dX4_takeBytes_62 : decode cX4_takeBytes 62 = .ok (.putfield 18, 3) := by decide +kernel
theorem dX4_takeBytes_65 : decode cX4_takeBytes 65 = .ok (.return_, 1) := by decide +kernel
theorem dX4_lookAtChoice_0 : decode cX4_lookAtChoice 0 = .ok (.aload_n 0, 1) := by decide +kernel
theorem dX4_lookAtChoice_1 : decode cX4_lookAtChoice 1 = .ok (.getfield 18, 3) := by decide +kernel
theorem dX4_lookAtChoice_4 : decode cX4_lookAtChoice 4 = .ok (.istore_n 3, 1) := by decide +kernel
theorem dX4_lookAtChoice_5 : decode cX4_lookAtChoice 5 = .ok (.aload_n 0, 1) := by decide +kernel
theorem dX4_lookAtChoice_6 : decode cX4_lookAtChoice 6 = .ok (.invokevirtual 110, 3) := by decide +kernel
theorem dX4_lookAtChoice_9 : decode cX4_lookAtChoice 9 = .ok (.lstore 4, 2) := by decide +kernel
theorem dX4_lookAtChoice_11 : decode cX4_lookAtChoice 11 = .ok (.lload 4, 2) := by decide +kernel
theorem dX4_lookAtChoice_13 : decode cX4_lookAtChoice 13 = .ok (.lconst 0, 1) := by decide +kernel
theorem dX4_lookAtChoice_14 : decode cX4_lookAtChoice 14 = .ok (.lcmp, 1) := by decide +kernel
theorem dX4_lookAtChoice_15 : decode cX4_lookAtChoice 15 = .ok (.ifCond .lt 18, 3) := by decide +kernel
theorem dX4_lookAtChoice_18 : decode cX4_lookAtChoice 18 = .ok (.lload 4, 2) := by decide +kernel
theorem dX4_lookAtChoice_20 : decode cX4_lookAtChoice 20 = .ok (.aload_n 0, 1) := by decide +kernel
theorem dX4_lookAtChoice_21 : decode cX4_lookAtChoice 21 = .ok (.getfield 31, 3) := by decide +kernel
theorem dX4_lookAtChoice_24 : decode cX4_lookAtChoice 24 = .ok (.iload_n 1, 1) := by decide +kernel
theorem dX4_lookAtChoice_25 : decode cX4_lookAtChoice 25 = .ok (.invokevirtual 122, 3) := by decide +kernel
theorem dX4_lookAtChoice_28 : decode cX4_lookAtChoice 28 = .ok (.i2l, 1) := by decide +kernel
theorem dX4_lookAtChoice_29 : decode cX4_lookAtChoice 29 = .ok (.lcmp, 1) := by decide +kernel
theorem dX4_lookAtChoice_30 : decode cX4_lookAtChoice 30 = .ok (.ifCond .lt 9, 3) := by decide +kernel
theorem dX4_lookAtChoice_33 : decode cX4_lookAtChoice 33 = .ok (.aload_n 0, 1) := by decide +kernel
theorem dX4_lookAtChoice_34 : decode cX4_lookAtChoice 34 = .ok (.iload_n 2, 1) := by decide +kernel
theorem dX4_lookAtChoice_35 : decode cX4_lookAtChoice 35 = .ok (.iload_n 3, 1) := by decide +kernel
theorem dX4_lookAtChoice_36 : decode cX4_lookAtChoice 36 = .ok (.invokevirtual 66, 3) := by decide +kernel
theorem dX4_lookAtChoice_39 : decode cX4_lookAtChoice 39 = .ok (.aload_n 0, 1) := by decide +kernel
theorem dX4_lookAtChoice_40 : decode cX4_lookAtChoice 40 = .ok (.getfield 15, 3) := by decide +kernel
theorem dX4_lookAtChoice_43 : decode cX4_lookAtChoice 43 = .ok (.ifCond .eq 5, 3) := by decide +kernel
theorem dX4_lookAtChoice_46 : decode cX4_lookAtChoice 46 = .ok (.iconst (-1), 1) := by decide +kernel
theorem dX4_lookAtChoice_47 : decode cX4_lookAtChoice 47 = .ok (.ireturn, 1) := by decide +kernel
theorem dX4_lookAtChoice_48 : decode cX4_lookAtChoice 48 = .ok (.aload_n 0, 1) := by decide +kernel
theorem dX4_lookAtChoice_49 : decode cX4_lookAtChoice 49 = .ok (.getfield 41, 3) := by decide +kernel
theorem dX4_lookAtChoice_52 : decode cX4_lookAtChoice 52 = .ok (.lload 4, 2) := by decide +kernel
theorem dX4_lookAtChoice_54 : decode cX4_lookAtChoice 54 = .ok (.invokevirtual 114, 3) := by decide +kernel
theorem dX4_lookAtChoice_57 : decode cX4_lookAtChoice 57 = .ok (.pop, 1) := by decide +kernel
theorem dX4_lookAtChoice_58 : decode cX4_lookAtChoice 58 = .ok (.lload 4, 2) := by decide +kernel
theorem dX4_lookAtChoice_60 : decode cX4_lookAtChoice 60 = .ok (.l2i, 1) := by decide +kernel
theorem dX4_lookAtChoice_61 : decode cX4_lookAtChoice 61 = .ok (.ireturn, 1) := by decide +kernel
theorem dX4_lookAtUnion_0 : decode cX4_lookAtUnion 0 = .ok (.aload_n 0, 1) := by decide +kernel
theorem dX4_lookAtUnion_1 : decode cX4_lookAtUnion 1 = .ok (.iload_n 1, 1) := by decide +kernel
theorem dX4_lookAtUnion_2 : decode cX4_lookAtUnion 2 = .ok (.iconst 4, 1) := by decide +kernel
theorem dX4_lookAtUnion_3 : decode cX4_lookAtUnion 3 = .ok (.invokevirtual 90, 3) := by decide +kernel
theorem dX4_lookAtUnion_6 : decode cX4_lookAtUnion 6 = .ok (.istore_n 3, 1) := by decide +kernel
theorem dX4_lookAtUnion_7 : decode cX4_lookAtUnion 7 = .ok (.aload_n 0, 1) := by decide +kernel
theorem dX4_lookAtUnion_8 : decode cX4_lookAtUnion 8 = .ok (.getfield 15, 3) := by decide +kernel
theorem dX4_lookAtUnion_11 : decode cX4_lookAtUnion 11 = .ok (.ifCond .ne 19, 3) := by decide +kernel
theorem dX4_lookAtUnion_14 : decode cX4_lookAtUnion 14 = .ok (.aload_n 0, 1) := by decide +kernel
theorem dX4_lookAtUnion_15 : decode cX4_lookAtUnion 15 = .ok (.aload_n 0, 1) := by decide +kernel
theorem dX4_lookAtUnion_16 : decode cX4_lookAtUnion 16 = .ok (.getfield 31, 3) := by decide +kernel
theorem dX4_lookAtUnion_19 : decode cX4_lookAtUnion 19 = .ok (.iload_n 1, 1) := by decide +kernel
theorem dX4_lookAtUnion_20 : decode cX4_lookAtUnion 20 = .ok (.iload_n 3, 1) := by decide +kernel
theorem dX4_lookAtUnion_21 : decode cX4_lookAtUnion 21 = .ok (.invokevirtual 125, 3) := by decide +kernel
theorem dX4_lookAtUnion_24 : decode cX4_lookAtUnion 24 = .ok (.iload_n 2, 1) := by decide +kernel
theorem dX4_lookAtUnion_25 : decode cX4_lookAtUnion 25 = .ok (.iconst 1, 1) := by decide +kernel
theorem dX4_lookAtUnion_26 : decode cX4_lookAtUnion 26 = .ok (.iadd, 1) := by decide +kernel
theorem dX4_lookAtUnion_27 : decode cX4_lookAtUnion 27 = .ok (.invokevirtual 61, 3) := by decide +kernel
theorem dX4_lookAtUnion_30 : decode cX4_lookAtUnion 30 = .ok (.return_, 1) := by decide +kernel
theorem dX4_lookAtFields_0 : decode cX4_lookAtFields 0 = .ok (.iconst 0, 1) := by decide +kernel
theorem dX4_lookAtFields_1 : decode cX4_lookAtFields 1 = .ok (.istore_n 3, 1) := by decide +kernel
theorem dX4_lookAtFields_2 : decode cX4_lookAtFields 2 = .ok (.iload_n 3, 1) := by decide +kernel
theorem dX4_lookAtFields_3 : decode cX4_lookAtFields 3 = .ok (.aload_n 0, 1) := by decide +kernel
theorem dX4_lookAtFields_4 : decode cX4_lookAtFields 4 = .ok (.getfield 31, 3) := by decide +kernel
theorem dX4_lookAtFields_7 : decode cX4_lookAtFields 7 = .ok (.iload_n 1, 1) := by decide +kernel
theorem dX4_lookAtFields_8 : decode cX4_lookAtFields 8 = .ok (.invokevirtual 122, 3) := by decide +kernel
theorem dX4_lookAtFields_11 : decode cX4_lookAtFields 11 = .ok (.if_icmp .ge 39, 3) := by decide +kernel
theorem dX4_lookAtFields_14 : decode cX4_lookAtFields 14 = .ok (.aload_n 0, 1) := by decide +kernel
theorem dX4_lookAtFields_15 : decode cX4_lookAtFields 15 = .ok (.getfield 15, 3) := by decide +kernel
theorem dX4_lookAtFields_18 : decode cX4_lookAtFields 18 = .ok (.ifCond .ne 32, 3) := by decide +kernel
theorem dX4_lookAtFields_21 : decode cX4_lookAtFields 21 = .ok (.aload_n 0, 1) := by decide +kernel
theorem dX4_lookAtFields_22 : decode cX4_lookAtFields 22 = .ok (.aload_n 0, 1) := by decide +kernel
theorem dX4_lookAtFields_23 : decode cX4_lookAtFields 23 = .ok (.getfield 31, 3) := by decide +kernel
theorem dX4_lookAtFields_26 : decode cX4_lookAtFields 26 = .ok (.aload_n 0, 1) := by decide +kernel
theorem dX4_lookAtFields_27 : decode cX4_lookAtFields 27 = .ok (.getfield 31, 3) := by decide +kernel
theorem dX4_lookAtFields_30 : decode cX4_lookAtFields 30 = .ok (.iload_n 1, 1) := by decide +kernel
theorem dX4_lookAtFields_31 : decode cX4_lookAtFields 31 = .ok (.iload_n 3, 1) := by decide +kernel
theorem dX4_lookAtFields_32 : decode cX4_lookAtFields 32 = .ok (.invokevirtual 128, 3) := by decide +kernel
theorem dX4_lookAtFields_35 : decode cX4_lookAtFields 35 = .ok (.invokevirtual 131, 3) := by decide +kernel
theorem dX4_lookAtFields_38 : decode cX4_lookAtFields 38 = .ok (.iload_n 2, 1) := by decide +kernel
theorem dX4_lookAtFields_39 : decode cX4_lookAtFields 39 = .ok (.iconst 1, 1) := by decide +kernel
theorem dX4_lookAtFields_40 : decode cX4_lookAtFields 40 = .ok (.iadd, 1) := by decide +kernel
theorem dX4_lookAtFields_41 : decode cX4_lookAtFields 41 = .ok (.invokevirtual 61, 3) := by decide +kernel
theorem dX4_lookAtFields_44 : decode cX4_lookAtFields 44 = .ok (.iinc 3 1, 3) := by decide +kernel
theorem dX4_lookAtFields_47 : decode cX4_lookAtFields 47 = .ok (.goto (-45), 3) := by decide +kernel
theorem dX4_lookAtFields_50 : decode cX4_lookAtFields 50 = .ok (.return_, 1) := by decide +kernel
theorem dX4_lookAtBlocks_0 : decode cX4_lookAtBlocks 0 = .ok (.aload_n 0, 1) := by decide +kernel
theorem dX4_lookAtBlocks_1 : decode cX4_lookAtBlocks 1 = .ok (.getfield 41, 3) := by decide +kernel
theorem dX4_lookAtBlocks_4 : decode cX4_lookAtBlocks 4 = .ok (.invokevirtual 21, 3) := by decide +kernel
theorem dX4_lookAtBlocks_7 : decode cX4_lookAtBlocks 7 = .ok (.istore_n 3, 1) := by decide +kernel
theorem dX4_lookAtBlocks_8 : decode cX4_lookAtBlocks 8 = .ok (.iconst 0, 1) := by decide +kernel
theorem dX4_lookAtBlocks_9 : decode cX4_lookAtBlocks 9 = .ok (.istore 4, 2) := by decide +kernel
theorem dX4_lookAtBlocks_11 : decode cX4_lookAtBlocks 11 = .ok (.iconst 0, 1) := by decide +kernel
theorem dX4_lookAtBlocks_12 : decode cX4_lookAtBlocks 12 = .ok (.istore 5, 2) := by decide +kernel
theorem dX4_lookAtBlocks_14 : decode cX4_lookAtBlocks 14 = .ok (.iload 5, 2) := by decide +kernel
theorem dX4_lookAtBlocks_16 : decode cX4_lookAtBlocks 16 = .ok (.sipush 4096, 3) := by decide +kernel
theorem dX4_lookAtBlocks_19 : decode cX4_lookAtBlocks 19 = .ok (.if_icmp .gt 129, 3) := by decide +kernel
theorem dX4_lookAtBlocks_22 : decode cX4_lookAtBlocks 22 = .ok (.aload_n 0, 1) := by decide +kernel
theorem dX4_lookAtBlocks_23 : decode cX4_lookAtBlocks 23 = .ok (.getfield 18, 3) := by decide +kernel
theorem dX4_lookAtBlocks_26 : decode cX4_lookAtBlocks 26 = .ok (.istore 6, 2) := by decide +kernel
theorem dX4_lookAtBlocks_28 : decode cX4_lookAtBlocks 28 = .ok (.aload_n 0, 1) := by decide +kernel
theorem dX4_lookAtBlocks_29 : decode cX4_lookAtBlocks 29 = .ok (.invokevirtual 110, 3) := by decide +kernel
theorem dX4_lookAtBlocks_32 : decode cX4_lookAtBlocks 32 = .ok (.lstore 7, 2) := by decide +kernel
theorem dX4_lookAtBlocks_34 : decode cX4_lookAtBlocks 34 = .ok (.lload 7, 2) := by decide +kernel
theorem dX4_lookAtBlocks_36 : decode cX4_lookAtBlocks 36 = .ok (.sipush 2000, 3) := by decide +kernel
theorem dX4_lookAtBlocks_39 : decode cX4_lookAtBlocks 39 = .ok (.aload_n 0, 1) := by decide +kernel
theorem dX4_lookAtBlocks_40 : decode cX4_lookAtBlocks 40 = .ok (.getfield 50, 3) := by decide +kernel
theorem dX4_lookAtBlocks_43 : decode cX4_lookAtBlocks 43 = .ok (.isub, 1) := by decide +kernel
theorem dX4_lookAtBlocks_44 : decode cX4_lookAtBlocks 44 = .ok (.i2l, 1) := by decide +kernel
theorem dX4_lookAtBlocks_45 : decode cX4_lookAtBlocks 45 = .ok (.lcmp, 1) := by decide +kernel
theorem dX4_lookAtBlocks_46 : decode cX4_lookAtBlocks 46 = .ok (.ifCond .gt 18, 3) := by decide +kernel
theorem dX4_lookAtBlocks_49 : decode cX4_lookAtBlocks 49 = .ok (.lload 7, 2) := by decide +kernel
theorem dX4_lookAtBlocks_51 : decode cX4_lookAtBlocks 51 = .ok (.aload_n 0, 1) := by decide +kernel
theorem dX4_lookAtBlocks_52 : decode cX4_lookAtBlocks 52 = .ok (.getfield 50, 3) := by decide +kernel
theorem dX4_lookAtBlocks_55 : decode cX4_lookAtBlocks 55 = .ok (.sipush 2000, 3) := by decide +kernel
theorem dX4_lookAtBlocks_58 : decode cX4_lookAtBlocks 58 = .ok (.isub, 1) := by decide +kernel
theorem dX4_lookAtBlocks_59 : decode cX4_lookAtBlocks 59 = .ok (.i2l, 1) := by decide +kernel
theorem dX4_lookAtBlocks_60 : decode cX4_lookAtBlocks 60 = .ok (.lcmp, 1) := by decide +kernel
theorem dX4_lookAtBlocks_61 : decode cX4_lookAtBlocks 61 = .ok (.ifCond .ge 11, 3) := by decide +kernel
theorem dX4_lookAtBlocks_64 : decode cX4_lookAtBlocks 64 = .ok (.aload_n 0, 1) := by decide +kernel
theorem dX4_lookAtBlocks_65 : decode cX4_lookAtBlocks 65 = .ok (.bipush 6, 2) := by decide +kernel
theorem dX4_lookAtBlocks_67 : decode cX4_lookAtBlocks 67 = .ok (.iload 6, 2) := by decide +kernel
theorem dX4_lookAtBlocks_69 : decode cX4_lookAtBlocks 69 = .ok (.invokevirtual 66, 3) := by decide +kernel
theorem dX4_lookAtBlocks_72 : decode cX4_lookAtBlocks 72 = .ok (.aload_n 0, 1) := by decide +kernel
theorem dX4_lookAtBlocks_73 : decode cX4_lookAtBlocks 73 = .ok (.getfield 15, 3) := by decide +kernel
theorem dX4_lookAtBlocks_76 : decode cX4_lookAtBlocks 76 = .ok (.ifCond .eq 4, 3) := by decide +kernel
theorem dX4_lookAtBlocks_79 : decode cX4_lookAtBlocks 79 = .ok (.return_, 1) := by decide +kernel
theorem dX4_lookAtBlocks_80 : decode cX4_lookAtBlocks 80 = .ok (.lload 7, 2) := by decide +kernel
theorem dX4_lookAtBlocks_82 : decode cX4_lookAtBlocks 82 = .ok (.lconst 0, 1) := by decide +kernel
theorem dX4_lookAtBlocks_83 : decode cX4_lookAtBlocks 83 = .ok (.lcmp, 1) := by decide +kernel
theorem dX4_lookAtBlocks_84 : decode cX4_lookAtBlocks 84 = .ok (.ifCond .ne 6, 3) := by decide +kernel
theorem dX4_lookAtBlocks_87 : decode cX4_lookAtBlocks 87 = .ok (.goto 61, 3) := by decide +kernel
theorem dX4_lookAtBlocks_90 : decode cX4_lookAtBlocks 90 = .ok (.lload 7, 2) := by decide +kernel
theorem dX4_lookAtBlocks_92 : decode cX4_lookAtBlocks 92 = .ok (.invokestatic 134, 3) := by decide +kernel
theorem dX4_lookAtBlocks_95 : decode cX4_lookAtBlocks 95 = .ok (.l2i, 1) := by decide +kernel
theorem dX4_lookAtBlocks_96 : decode cX4_lookAtBlocks 96 = .ok (.istore 9, 2) := by decide +kernel
theorem dX4_lookAtBlocks_98 : decode cX4_lookAtBlocks 98 = .ok (.aload_n 0, 1) := by decide +kernel
theorem dX4_lookAtBlocks_99 : decode cX4_lookAtBlocks 99 = .ok (.dup, 1) := by decide +kernel
theorem dX4_lookAtBlocks_100 : decode cX4_lookAtBlocks 100 = .ok (.getfield 50, 3) := by decide +kernel
theorem dX4_lookAtBlocks_103 : decode cX4_lookAtBlocks 103 = .ok (.iload 9, 2) := by decide +kernel
theorem dX4_lookAtBlocks_105 : decode cX4_lookAtBlocks 105 = .ok (.iadd, 1) := by decide +kernel
theorem dX4_lookAtBlocks_106 : decode cX4_lookAtBlocks 106 = .ok (.putfield 50, 3) := by decide +kernel
theorem dX4_lookAtBlocks_109 : decode cX4_lookAtBlocks 109 = .ok (.iload 4, 2) := by decide +kernel
theorem dX4_lookAtBlocks_111 : decode cX4_lookAtBlocks 111 = .ok (.iload 9, 2) := by decide +kernel
theorem dX4_lookAtBlocks_113 : decode cX4_lookAtBlocks 113 = .ok (.iadd, 1) := by decide +kernel
theorem dX4_lookAtBlocks_114 : decode cX4_lookAtBlocks 114 = .ok (.istore 4, 2) := by decide +kernel
theorem dX4_lookAtBlocks_116 : decode cX4_lookAtBlocks 116 = .ok (.lload 7, 2) := by decide +kernel
theorem dX4_lookAtBlocks_118 : decode cX4_lookAtBlocks 118 = .ok (.lconst 0, 1) := by decide +kernel
theorem dX4_lookAtBlocks_119 : decode cX4_lookAtBlocks 119 = .ok (.lcmp, 1) := by decide +kernel
theorem dX4_lookAtBlocks_120 : decode cX4_lookAtBlocks 120 = .ok (.ifCond .le 14, 3) := by decide +kernel
theorem dX4_lookAtBlocks_123 : decode cX4_lookAtBlocks 123 = .ok (.aload_n 0, 1) := by decide +kernel
theorem dX4_lookAtBlocks_124 : decode cX4_lookAtBlocks 124 = .ok (.iload_n 1, 1) := by decide +kernel
theorem dX4_lookAtBlocks_125 : decode cX4_lookAtBlocks 125 = .ok (.iload 9, 2) := by decide +kernel
theorem dX4_lookAtBlocks_127 : decode cX4_lookAtBlocks 127 = .ok (.iload_n 2, 1) := by decide +kernel
theorem dX4_lookAtBlocks_128 : decode cX4_lookAtBlocks 128 = .ok (.invokevirtual 140, 3) := by decide +kernel
theorem dX4_lookAtBlocks_131 : decode cX4_lookAtBlocks 131 = .ok (.goto 11, 3) := by decide +kernel
theorem dX4_lookAtBlocks_134 : decode cX4_lookAtBlocks 134 = .ok (.aload_n 0, 1) := by decide +kernel
theorem dX4_lookAtBlocks_135 : decode cX4_lookAtBlocks 135 = .ok (.iload_n 1, 1) := by decide +kernel
theorem dX4_lookAtBlocks_136 : decode cX4_lookAtBlocks 136 = .ok (.iload 9, 2) := by decide +kernel
theorem dX4_lookAtBlocks_138 : decode cX4_lookAtBlocks 138 = .ok (.iload_n 2, 1) := by decide +kernel
theorem dX4_lookAtBlocks_139 : decode cX4_lookAtBlocks 139 = .ok (.invokevirtual 144, 3) := by decide +kernel
theorem dX4_lookAtBlocks_142 : decode cX4_lookAtBlocks 142 = .ok (.iinc 5 1, 3) := by decide +kernel
theorem dX4_lookAtBlocks_145 : decode cX4_lookAtBlocks 145 = .ok (.goto (-131), 3) := by decide +kernel
theorem dX4_lookAtBlocks_148 : decode cX4_lookAtBlocks 148 = .ok (.aload_n 0, 1) := by decide +kernel
theorem dX4_lookAtBlocks_149 : decode cX4_lookAtBlocks 149 = .ok (.getfield 41, 3) := by decide +kernel
theorem dX4_lookAtBlocks_152 : decode cX4_lookAtBlocks 152 = .ok (.invokevirtual 21, 3) := by decide +kernel
theorem dX4_lookAtBlocks_155 : decode cX4_lookAtBlocks 155 = .ok (.istore 5, 2) := by decide +kernel
theorem dX4_lookAtBlocks_157 : decode cX4_lookAtBlocks 157 = .ok (.iload 4, 2) := by decide +kernel
theorem dX4_lookAtBlocks_159 : decode cX4_lookAtBlocks 159 = .ok (.ifCond .le 24, 3) := by decide +kernel
theorem dX4_lookAtBlocks_162 : decode cX4_lookAtBlocks 162 = .ok (.aload_n 0, 1) := by decide +kernel
theorem dX4_lookAtBlocks_163 : decode cX4_lookAtBlocks 163 = .ok (.getfield 41, 3) := by decide +kernel
theorem dX4_lookAtBlocks_166 : decode cX4_lookAtBlocks 166 = .ok (.iload 4, 2) := by decide +kernel
theorem dX4_lookAtBlocks_168 : decode cX4_lookAtBlocks 168 = .ok (.i2l, 1) := by decide +kernel
theorem dX4_lookAtBlocks_169 : decode cX4_lookAtBlocks 169 = .ok (.invokevirtual 114, 3) := by decide +kernel
theorem dX4_lookAtBlocks_172 : decode cX4_lookAtBlocks 172 = .ok (.pop, 1) := by decide +kernel
theorem dX4_lookAtBlocks_173 : decode cX4_lookAtBlocks 173 = .ok (.aload_n 0, 1) := by decide +kernel
theorem dX4_lookAtBlocks_174 : decode cX4_lookAtBlocks 174 = .ok (.getfield 41, 3) := by decide +kernel
theorem dX4_lookAtBlocks_177 : decode cX4_lookAtBlocks 177 = .ok (.iload_n 3, 1) := by decide +kernel
theorem dX4_lookAtBlocks_178 : decode cX4_lookAtBlocks 178 = .ok (.iload 5, 2) := by decide +kernel
theorem dX4_lookAtBlocks_180 : decode cX4_lookAtBlocks 180 = .ok (.invokevirtual 147, 3) := by decide +kernel
theorem dX4_lookAtBlocks_183 : decode cX4_lookAtBlocks 183 = .ok (.aload_n 0, 1) := by decide +kernel
theorem dX4_lookAtBlocks_184 : decode cX4_lookAtBlocks 184 = .ok (.getfield 41, 3) := by decide +kernel
theorem dX4_lookAtBlocks_187 : decode cX4_lookAtBlocks 187 = .ok (.lconst 0, 1) := by decide +kernel
theorem dX4_lookAtBlocks_188 : decode cX4_lookAtBlocks 188 = .ok (.invokevirtual 114, 3) := by decide +kernel
theorem dX4_lookAtBlocks_191 : decode cX4_lookAtBlocks 191 = .ok (.pop, 1) := by decide +kernel
theorem dX4_lookAtBlocks_192 : decode cX4_lookAtBlocks 192 = .ok (.return_, 1) := by decide +kernel
theorem dX4_lookAtMeasuredItems_0 : decode cX4_lookAtMeasuredItems 0 = .ok (.aload_n 0, 1) := by decide +kernel
theorem dX4_lookAtMeasuredItems_1 : decode cX4_lookAtMeasuredItems 1 = .ok (.getfield 18, 3) := by decide +kernel
theorem dX4_lookAtMeasuredItems_4 : decode cX4_lookAtMeasuredItems 4 = .ok (.istore 4, 2) := by decide +kernel
theorem dX4_lookAtMeasuredItems_6 : decode cX4_lookAtMeasuredItems 6 = .ok (.aload_n 0, 1) := by decide +kernel
theorem dX4_lookAtMeasuredItems_7 : decode cX4_lookAtMeasuredItems 7 = .ok (.invokevirtual 110, 3) := by decide +kernel
theorem dX4_lookAtMeasuredItems_10 : decode cX4_lookAtMeasuredItems 10 = .ok (.lstore 5, 2) := by decide +kernel
theorem dX4_lookAtMeasuredItems_12 : decode cX4_lookAtMeasuredItems 12 = .ok (.aload_n 0, 1) := by decide +kernel
theorem dX4_lookAtMeasuredItems_13 : decode cX4_lookAtMeasuredItems 13 = .ok (.getfield 18, 3) := by decide +kernel
theorem dX4_lookAtMeasuredItems_16 : decode cX4_lookAtMeasuredItems 16 = .ok (.istore 7, 2) := by decide +kernel
theorem dX4_lookAtMeasuredItems_18 : decode cX4_lookAtMeasuredItems 18 = .ok (.aload_n 0, 1) := by decide +kernel
theorem dX4_lookAtMeasuredItems_19 : decode cX4_lookAtMeasuredItems 19 = .ok (.iload_n 1, 1) := by decide +kernel
theorem dX4_lookAtMeasuredItems_20 : decode cX4_lookAtMeasuredItems 20 = .ok (.iload_n 2, 1) := by decide +kernel
theorem dX4_lookAtMeasuredItems_21 : decode cX4_lookAtMeasuredItems 21 = .ok (.iload_n 3, 1) := by decide +kernel
theorem dX4_lookAtMeasuredItems_22 : decode cX4_lookAtMeasuredItems 22 = .ok (.invokevirtual 140, 3) := by decide +kernel
theorem dX4_lookAtMeasuredItems_25 : decode cX4_lookAtMeasuredItems 25 = .ok (.aload_n 0, 1) := by decide +kernel
theorem dX4_lookAtMeasuredItems_26 : decode cX4_lookAtMeasuredItems 26 = .ok (.getfield 18, 3) := by decide +kernel
theorem dX4_lookAtMeasuredItems_29 : decode cX4_lookAtMeasuredItems 29 = .ok (.iload 7, 2) := by decide +kernel
theorem dX4_lookAtMeasuredItems_31 : decode cX4_lookAtMeasuredItems 31 = .ok (.isub, 1) := by decide +kernel
theorem dX4_lookAtMeasuredItems_32 : decode cX4_lookAtMeasuredItems 32 = .ok (.i2l, 1) := by decide +kernel
theorem dX4_lookAtMeasuredItems_33 : decode cX4_lookAtMeasuredItems 33 = .ok (.lload 5, 2) := by decide +kernel
theorem dX4_lookAtMeasuredItems_35 : decode cX4_lookAtMeasuredItems 35 = .ok (.lcmp, 1) := by decide +kernel
theorem dX4_lookAtMeasuredItems_36 : decode cX4_lookAtMeasuredItems 36 = .ok (.ifCond .eq 11, 3) := by decide +kernel
theorem dX4_lookAtMeasuredItems_39 : decode cX4_lookAtMeasuredItems 39 = .ok (.aload_n 0, 1) := by decide +kernel
theorem dX4_lookAtMeasuredItems_40 : decode cX4_lookAtMeasuredItems 40 = .ok (.bipush 6, 2) := by decide +kernel
theorem dX4_lookAtMeasuredItems_42 : decode cX4_lookAtMeasuredItems 42 = .ok (.iload 4, 2) := by decide +kernel
theorem dX4_lookAtMeasuredItems_44 : decode cX4_lookAtMeasuredItems 44 = .ok (.invokevirtual 66, 3) := by decide +kernel
theorem dX4_lookAtMeasuredItems_47 : decode cX4_lookAtMeasuredItems 47 = .ok (.return_, 1) := by decide +kernel
theorem dX4_lookAtItems_0 : decode cX4_lookAtItems 0 = .ok (.iconst 0, 1) := by decide +kernel
theorem dX4_lookAtItems_1 : decode cX4_lookAtItems 1 = .ok (.istore 4, 2) := by decide +kernel
theorem dX4_lookAtItems_3 : decode cX4_lookAtItems 3 = .ok (.iload 4, 2) := by decide +kernel
theorem dX4_lookAtItems_5 : decode cX4_lookAtItems 5 = .ok (.iload_n 2, 1) := by decide +kernel
theorem dX4_lookAtItems_6 : decode cX4_lookAtItems 6 = .ok (.if_icmp .ge 55, 3) := by decide +kernel
theorem dX4_lookAtItems_9 : decode cX4_lookAtItems 9 = .ok (.aload_n 0, 1) := by decide +kernel
theorem dX4_lookAtItems_10 : decode cX4_lookAtItems 10 = .ok (.getfield 15, 3) := by decide +kernel
theorem dX4_lookAtItems_13 : decode cX4_lookAtItems 13 = .ok (.ifCond .ne 48, 3) := by decide +kernel
theorem dX4_lookAtItems_16 : decode cX4_lookAtItems 16 = .ok (.aload_n 0, 1) := by decide +kernel
theorem dX4_lookAtItems_17 : decode cX4_lookAtItems 17 = .ok (.getfield 31, 3) := by decide +kernel
theorem dX4_lookAtItems_20 : decode cX4_lookAtItems 20 = .ok (.iload_n 1, 1) := by decide +kernel
theorem dX4_lookAtItems_21 : decode cX4_lookAtItems 21 = .ok (.invokevirtual 69, 3) := by decide +kernel
theorem dX4_lookAtItems_24 : decode cX4_lookAtItems 24 = .ok (.bipush 7, 2) := by decide +kernel
theorem dX4_lookAtItems_26 : decode cX4_lookAtItems 26 = .ok (.if_icmp .ne 7, 3) := by decide +kernel
theorem dX4_lookAtItems_29 : decode cX4_lookAtItems 29 = .ok (.aload_n 0, 1) := by decide +kernel
theorem dX4_lookAtItems_30 : decode cX4_lookAtItems 30 = .ok (.invokevirtual 80, 3) := by decide +kernel
theorem dX4_lookAtItems_33 : decode cX4_lookAtItems 33 = .ok (.aload_n 0, 1) := by decide +kernel
theorem dX4_lookAtItems_34 : decode cX4_lookAtItems 34 = .ok (.getfield 15, 3) := by decide +kernel
theorem dX4_lookAtItems_37 : decode cX4_lookAtItems 37 = .ok (.ifCond .ne 18, 3) := by decide +kernel
theorem dX4_lookAtItems_40 : decode cX4_lookAtItems 40 = .ok (.aload_n 0, 1) := by decide +kernel
theorem dX4_lookAtItems_41 : decode cX4_lookAtItems 41 = .ok (.aload_n 0, 1) := by decide +kernel
theorem dX4_lookAtItems_42 : decode cX4_lookAtItems 42 = .ok (.getfield 31, 3) := by decide +kernel
theorem dX4_lookAtItems_45 : decode cX4_lookAtItems 45 = .ok (.iload_n 1, 1) := by decide +kernel
theorem dX4_lookAtItems_46 : decode cX4_lookAtItems 46 = .ok (.invokevirtual 150, 3) := by decide +kernel
theorem dX4_lookAtItems_49 : decode cX4_lookAtItems 49 = .ok (.iload_n 3, 1) := by decide +kernel
theorem dX4_lookAtItems_50 : decode cX4_lookAtItems 50 = .ok (.iconst 1, 1) := by decide +kernel
theorem dX4_lookAtItems_51 : decode cX4_lookAtItems 51 = .ok (.iadd, 1) := by decide +kernel
theorem dX4_lookAtItems_52 : decode cX4_lookAtItems 52 = .ok (.invokevirtual 61, 3) := by decide +kernel
theorem dX4_lookAtItems_55 : decode cX4_lookAtItems 55 = .ok (.iinc 4 1, 3) := by decide +kernel
theorem dX4_lookAtItems_58 : decode cX4_lookAtItems 58 = .ok (.goto (-55), 3) := by decide +kernel
theorem dX4_lookAtItems_61 : decode cX4_lookAtItems 61 = .ok (.return_, 1) := by decide +kernel
theorem dX7_init_0 : decode cX7_init 0 = .ok (.aload_n 0, 1) := by decide +kernel
theorem dX7_init_1 : decode cX7_init 1 = .ok (.invokespecial 3, 3) := by decide +kernel
theorem dX7_init_4 : decode cX7_init 4 = .ok (.aload_n 0, 1) := by decide +kernel
theorem dX7_init_5 : decode cX7_init 5 = .ok (.new 9, 3) := by decide +kernel
theorem dX7_init_8 : decode cX7_init 8 = .ok (.dup, 1) := by decide +kernel
theorem dX7_init_9 : decode cX7_init 9 = .ok (.sipush 4096, 3) := by decide +kernel
theorem dX7_init_12 : decode cX7_init 12 = .ok (.invokespecial 11, 3) := by decide +kernel
theorem dX7_init_15 : decode cX7_init 15 = .ok (.putfield 14, 3) := by decide +kernel
theorem dX7_init_18 : decode cX7_init 18 = .ok (.aload_n 0, 1) := by decide +kernel
theorem dX7_init_19 : decode cX7_init 19 = .ok (.new 9, 3) := by decide +kernel
theorem dX7_init_22 : decode cX7_init 22 = .ok (.dup, 1) := by decide +kernel
theorem dX7_init_23 : decode cX7_init 23 = .ok (.sipush 1089, 3) := by decide +kernel
theorem dX7_init_26 : decode cX7_init 26 = .ok (.invokespecial 11, 3) := by decide +kernel
theorem dX7_init_29 : decode cX7_init 29 = .ok (.putfield 20, 3) := by decide +kernel
theorem dX7_init_32 : decode cX7_init 32 = .ok (.return_, 1) := by decide +kernel
theorem dX7_tell_0 : decode cX7_tell 0 = .ok (.aload_n 0, 1) := by decide +kernel
theorem dX7_tell_1 : decode cX7_tell 1 = .ok (.getfield 14, 3) := by decide +kernel
theorem dX7_tell_4 : decode cX7_tell 4 = .ok (.iconst 0, 1) := by decide +kernel
theorem dX7_tell_5 : decode cX7_tell 5 = .ok (.invokevirtual 23, 3) := by decide +kernel
theorem dX7_tell_8 : decode cX7_tell 8 = .ok (.aload_n 0, 1) := by decide +kernel
theorem dX7_tell_9 : decode cX7_tell 9 = .ok (.iconst 0, 1) := by decide +kernel
theorem dX7_tell_10 : decode cX7_tell 10 = .ok (.putfield 26, 3) := by decide +kernel
theorem dX7_tell_13 : decode cX7_tell 13 = .ok (.aload_n 1, 1) := by decide +kernel
theorem dX7_tell_14 : decode cX7_tell 14 = .ok (.ifnull 12, 3) := by decide +kernel
theorem dX7_tell_17 : decode cX7_tell 17 = .ok (.aload_n 3, 1) := by decide +kernel
theorem dX7_tell_18 : decode cX7_tell 18 = .ok (.ifnull 8, 3) := by decide +kernel
theorem dX7_tell_21 : decode cX7_tell 21 = .ok (.aload 4, 2) := by decide +kernel
theorem dX7_tell_23 : decode cX7_tell 23 = .ok (.ifnonnull 6, 3) := by decide +kernel
theorem dX7_tell_26 : decode cX7_tell 26 = .ok (.bipush (-20), 2) := by decide +kernel
theorem dX7_tell_28 : decode cX7_tell 28 = .ok (.ireturn, 1) := by decide +kernel
theorem dX7_tell_29 : decode cX7_tell 29 = .ok (.aload_n 0, 1) := by decide +kernel
theorem dX7_tell_30 : decode cX7_tell 30 = .ok (.aload_n 1, 1) := by decide +kernel
theorem dX7_tell_31 : decode cX7_tell 31 = .ok (.invokevirtual 30, 3) := by decide +kernel
theorem dX7_tell_34 : decode cX7_tell 34 = .ok (.putfield 36, 3) := by decide +kernel
theorem dX7_tell_37 : decode cX7_tell 37 = .ok (.aload_n 0, 1) := by decide +kernel
theorem dX7_tell_38 : decode cX7_tell 38 = .ok (.aload_n 3, 1) := by decide +kernel
theorem dX7_tell_39 : decode cX7_tell 39 = .ok (.putfield 38, 3) := by decide +kernel
theorem dX7_tell_42 : decode cX7_tell 42 = .ok (.aload_n 0, 1) := by decide +kernel
theorem dX7_tell_43 : decode cX7_tell 43 = .ok (.aload 4, 2) := by decide +kernel
theorem dX7_tell_45 : decode cX7_tell 45 = .ok (.putfield 42, 3) := by decide +kernel
theorem dX7_tell_48 : decode cX7_tell 48 = .ok (.aload_n 0, 1) := by decide +kernel
theorem dX7_tell_49 : decode cX7_tell 49 = .ok (.aload_n 1, 1) := by decide +kernel
theorem dX7_tell_50 : decode cX7_tell 50 = .ok (.iload_n 2, 1) := by decide +kernel
theorem dX7_tell_51 : decode cX7_tell 51 = .ok (.invokevirtual 45, 3) := by decide +kernel
theorem dX7_tell_54 : decode cX7_tell 54 = .ok (.putfield 49, 3) := by decide +kernel
theorem dX7_tell_57 : decode cX7_tell 57 = .ok (.aload_n 0, 1) := by decide +kernel
theorem dX7_tell_58 : decode cX7_tell 58 = .ok (.aload_n 0, 1) := by decide +kernel
theorem dX7_tell_59 : decode cX7_tell 59 = .ok (.getfield 38, 3) := by decide +kernel
theorem dX7_tell_62 : decode cX7_tell 62 = .ok (.invokevirtual 52, 3) := by decide +kernel
theorem dX7_tell_65 : decode cX7_tell 65 = .ok (.aload_n 0, 1) := by decide +kernel
theorem dX7_tell_66 : decode cX7_tell 66 = .ok (.getfield 42, 3) := by decide +kernel
theorem dX7_tell_69 : decode cX7_tell 69 = .ok (.invokevirtual 52, 3) := by decide +kernel
theorem dX7_tell_72 : decode cX7_tell 72 = .ok (.iconst 0, 1) := by decide +kernel
theorem dX7_tell_73 : decode cX7_tell 73 = .ok (.invokevirtual 58, 3) := by decide +kernel
theorem dX7_tell_76 : decode cX7_tell 76 = .ok (.aload_n 0, 1) := by decide +kernel
theorem dX7_tell_77 : decode cX7_tell 77 = .ok (.getfield 26, 3) := by decide +kernel
theorem dX7_tell_80 : decode cX7_tell 80 = .ok (.ireturn, 1) := by decide +kernel
theorem dX7_told_0 : decode cX7_told 0 = .ok (.aload_n 0, 1) := by decide +kernel
theorem dX7_told_1 : decode cX7_told 1 = .ok (.getfield 14, 3) := by decide +kernel
theorem dX7_told_4 : decode cX7_told 4 = .ok (.areturn, 1) := by decide +kernel
theorem dX7_halt_0 : decode cX7_halt 0 = .ok (.aload_n 0, 1) := by decide +kernel
theorem dX7_halt_1 : decode cX7_halt 1 = .ok (.getfield 26, 3) := by decide +kernel
theorem dX7_halt_4 : decode cX7_halt 4 = .ok (.ifCond .ne 8, 3) := by decide +kernel
theorem dX7_halt_7 : decode cX7_halt 7 = .ok (.aload_n 0, 1) := by decide +kernel
theorem dX7_halt_8 : decode cX7_halt 8 = .ok (.iload_n 1, 1) := by decide +kernel
theorem dX7_halt_9 : decode cX7_halt 9 = .ok (.putfield 26, 3) := by decide +kernel
theorem dX7_halt_12 : decode cX7_halt 12 = .ok (.return_, 1) := by decide +kernel
theorem dX7_put_0 : decode cX7_put 0 = .ok (.aload_n 0, 1) := by decide +kernel
theorem dX7_put_1 : decode cX7_put 1 = .ok (.getfield 26, 3) := by decide +kernel
theorem dX7_put_4 : decode cX7_put 4 = .ok (.ifCond .ne 20, 3) := by decide +kernel
theorem dX7_put_7 : decode cX7_put 7 = .ok (.aload_n 0, 1) := by decide +kernel
theorem dX7_put_8 : decode cX7_put 8 = .ok (.getfield 14, 3) := by decide +kernel
theorem dX7_put_11 : decode cX7_put 11 = .ok (.lload_n 1, 1) := by decide +kernel
theorem dX7_put_12 : decode cX7_put 12 = .ok (.invokevirtual 62, 3) := by decide +kernel
theorem dX7_put_15 : decode cX7_put 15 = .ok (.ifCond .ne 9, 3) := by decide +kernel
theorem dX7_put_18 : decode cX7_put 18 = .ok (.aload_n 0, 1) := by decide +kernel
theorem dX7_put_19 : decode cX7_put 19 = .ok (.bipush (-31), 2) := by decide +kernel
theorem dX7_put_21 : decode cX7_put 21 = .ok (.invokevirtual 66, 3) := by decide +kernel
theorem dX7_put_24 : decode cX7_put 24 = .ok (.return_, 1) := by decide +kernel
theorem dX7_putPart_0 : decode cX7_putPart 0 = .ok (.aload_n 0, 1) := by decide +kernel
theorem dX7_putPart_1 : decode cX7_putPart 1 = .ok (.getfield 26, 3) := by decide +kernel
theorem dX7_putPart_4 : decode cX7_putPart 4 = .ok (.ifCond .ne 22, 3) := by decide +kernel
theorem dX7_putPart_7 : decode cX7_putPart 7 = .ok (.aload_n 0, 1) := by decide +kernel
theorem dX7_putPart_8 : decode cX7_putPart 8 = .ok (.getfield 14, 3) := by decide +kernel
theorem dX7_putPart_11 : decode cX7_putPart 11 = .ok (.aload_n 1, 1) := by decide +kernel
theorem dX7_putPart_12 : decode cX7_putPart 12 = .ok (.iload_n 2, 1) := by decide +kernel
theorem dX7_putPart_13 : decode cX7_putPart 13 = .ok (.iload_n 3, 1) := by decide +kernel
theorem dX7_putPart_14 : decode cX7_putPart 14 = .ok (.invokevirtual 69, 3) := by decide +kernel
theorem dX7_putPart_17 : decode cX7_putPart 17 = .ok (.ifCond .ne 9, 3) := by decide +kernel
theorem dX7_putPart_20 : decode cX7_putPart 20 = .ok (.aload_n 0, 1) := by decide +kernel
theorem dX7_putPart_21 : decode cX7_putPart 21 = .ok (.bipush (-31), 2) := by decide +kernel
theorem dX7_putPart_23 : decode cX7_putPart 23 = .ok (.invokevirtual 66, 3) := by decide +kernel
theorem dX7_putPart_26 : decode cX7_putPart 26 = .ok (.return_, 1) := by decide +kernel
theorem dX7_varint_0 : decode cX7_varint 0 = .ok (.lconst 0, 1) := by decide +kernel
theorem dX7_varint_1 : decode cX7_varint 1 = .ok (.lstore_n 1, 1) := by decide +kernel
theorem dX7_varint_2 : decode cX7_varint 2 = .ok (.iconst 0, 1) := by decide +kernel
theorem dX7_varint_3 : decode cX7_varint 3 = .ok (.istore_n 3, 1) := by decide +kernel
theorem dX7_varint_4 : decode cX7_varint 4 = .ok (.iload_n 3, 1) := by decide +kernel
theorem dX7_varint_5 : decode cX7_varint 5 = .ok (.bipush 10, 2) := by decide +kernel
theorem dX7_varint_7 : decode cX7_varint 7 = .ok (.if_icmp .ge 57, 3) := by decide +kernel
theorem dX7_varint_10 : decode cX7_varint 10 = .ok (.aload_n 0, 1) := by decide +kernel
theorem dX7_varint_11 : decode cX7_varint 11 = .ok (.getfield 36, 3) := by decide +kernel
theorem dX7_varint_14 : decode cX7_varint 14 = .ok (.aload_n 0, 1) := by decide +kernel
theorem dX7_varint_15 : decode cX7_varint 15 = .ok (.getfield 49, 3) := by decide +kernel
theorem dX7_varint_18 : decode cX7_varint 18 = .ok (.invokevirtual 73, 3) := by decide +kernel
theorem dX7_varint_21 : decode cX7_varint 21 = .ok (.istore 4, 2) := by decide +kernel
theorem dX7_varint_23 : decode cX7_varint 23 = .ok (.aload_n 0, 1) := by decide +kernel
theorem dX7_varint_24 : decode cX7_varint 24 = .ok (.dup, 1) := by decide +kernel
theorem dX7_varint_25 : decode cX7_varint 25 = .ok (.getfield 49, 3) := by decide +kernel
theorem dX7_varint_28 : decode cX7_varint 28 = .ok (.iconst 1, 1) := by decide +kernel
theorem dX7_varint_29 : decode cX7_varint 29 = .ok (.iadd, 1) := by decide +kernel
theorem dX7_varint_30 : decode cX7_varint 30 = .ok (.putfield 49, 3) := by decide +kernel
theorem dX7_varint_33 : decode cX7_varint 33 = .ok (.lload_n 1, 1) := by decide +kernel
theorem dX7_varint_34 : decode cX7_varint 34 = .ok (.iload 4, 2) := by decide +kernel
theorem dX7_varint_36 : decode cX7_varint 36 = .ok (.bipush 127, 2) := by decide +kernel
theorem dX7_varint_38 : decode cX7_varint 38 = .ok (.iand, 1) := by decide +kernel
theorem dX7_varint_39 : decode cX7_varint 39 = .ok (.i2l, 1) := by decide +kernel
theorem dX7_varint_40 : decode cX7_varint 40 = .ok (.bipush 7, 2) := by decide +kernel
theorem dX7_varint_42 : decode cX7_varint 42 = .ok (.iload_n 3, 1) := by decide +kernel
theorem dX7_varint_43 : decode cX7_varint 43 = .ok (.imul, 1) := by decide +kernel
theorem dX7_varint_44 : decode cX7_varint 44 = .ok (.lshl, 1) := by decide +kernel
theorem dX7_varint_45 : decode cX7_varint 45 = .ok (.lor, 1) := by decide +kernel
theorem dX7_varint_46 : decode cX7_varint 46 = .ok (.lstore_n 1, 1) := by decide +kernel
theorem dX7_varint_47 : decode cX7_varint 47 = .ok (.iload 4, 2) := by decide +kernel
theorem dX7_varint_49 : decode cX7_varint 49 = .ok (.sipush 128, 3) := by decide +kernel
theorem dX7_varint_52 : decode cX7_varint 52 = .ok (.if_icmp .ge 6, 3) := by decide +kernel
theorem dX7_varint_55 : decode cX7_varint 55 = .ok (.goto 9, 3) := by decide +kernel
theorem dX7_varint_58 : decode cX7_varint 58 = .ok (.iinc 3 1, 3) := by decide +kernel
theorem dX7_varint_61 : decode cX7_varint 61 = .ok (.goto (-57), 3) := by decide +kernel
theorem dX7_varint_64 : decode cX7_varint 64 = .ok (.lload_n 1, 1) := by decide +kernel
theorem dX7_varint_65 : decode cX7_varint 65 = .ok (.iconst 1, 1) := by decide +kernel
theorem dX7_varint_66 : decode cX7_varint 66 = .ok (.lushr, 1) := by decide +kernel
theorem dX7_varint_67 : decode cX7_varint 67 = .ok (.lload_n 1, 1) := by decide +kernel
theorem dX7_varint_68 : decode cX7_varint 68 = .ok (.lconst 1, 1) := by decide +kernel
theorem dX7_varint_69 : decode cX7_varint 69 = .ok (.land, 1) := by decide +kernel
theorem dX7_varint_70 : decode cX7_varint 70 = .ok (.lneg, 1) := by decide +kernel
theorem dX7_varint_71 : decode cX7_varint 71 = .ok (.lxor, 1) := by decide +kernel
theorem dX7_varint_72 : decode cX7_varint 72 = .ok (.lreturn, 1) := by decide +kernel
theorem dX7_tellDatum_0 : decode cX7_tellDatum 0 = .ok (.iload_n 3, 1) := by decide +kernel
theorem dX7_tellDatum_1 : decode cX7_tellDatum 1 = .ok (.bipush 33, 2) := by decide +kernel
theorem dX7_tellDatum_3 : decode cX7_tellDatum 3 = .ok (.if_icmp .lt 10, 3) := by decide +kernel
theorem dX7_tellDatum_6 : decode cX7_tellDatum 6 = .ok (.aload_n 0, 1) := by decide +kernel
theorem dX7_tellDatum_7 : decode cX7_tellDatum 7 = .ok (.bipush (-20), 2) := by decide +kernel
theorem dX7_tellDatum_9 : decode cX7_tellDatum 9 = .ok (.invokevirtual 66, 3) := by decide +kernel
theorem dX7_tellDatum_12 : decode cX7_tellDatum 12 = .ok (.return_, 1) := by decide +kernel
theorem dX7_tellDatum_13 : decode cX7_tellDatum 13 = .ok (.aload_n 0, 1) := by decide +kernel
theorem dX7_tellDatum_14 : decode cX7_tellDatum 14 = .ok (.getfield 38, 3) := by decide +kernel
theorem dX7_tellDatum_17 : decode cX7_tellDatum 17 = .ok (.iload_n 1, 1) := by decide +kernel
theorem dX7_tellDatum_18 : decode cX7_tellDatum 18 = .ok (.invokevirtual 76, 3) := by decide +kernel
theorem dX7_tellDatum_21 : decode cX7_tellDatum 21 = .ok (.bipush 8, 2) := by decide +kernel
theorem dX7_tellDatum_23 : decode cX7_tellDatum 23 = .ok (.if_icmp .ne 25, 3) := by decide +kernel
theorem dX7_tellDatum_26 : decode cX7_tellDatum 26 = .ok (.aload_n 0, 1) := by decide +kernel
theorem dX7_tellDatum_27 : decode cX7_tellDatum 27 = .ok (.aload_n 0, 1) := by decide +kernel
theorem dX7_tellDatum_28 : decode cX7_tellDatum 28 = .ok (.getfield 38, 3) := by decide +kernel
theorem dX7_tellDatum_31 : decode cX7_tellDatum 31 = .ok (.iload_n 1, 1) := by decide +kernel
theorem dX7_tellDatum_32 : decode cX7_tellDatum 32 = .ok (.aload_n 0, 1) := by decide +kernel
theorem dX7_tellDatum_33 : decode cX7_tellDatum 33 = .ok (.invokevirtual 79, 3) := by decide +kernel
theorem dX7_tellDatum_36 : decode cX7_tellDatum 36 = .ok (.l2i, 1) := by decide +kernel
theorem dX7_tellDatum_37 : decode cX7_tellDatum 37 = .ok (.invokevirtual 83, 3) := by decide +kernel
theorem dX7_tellDatum_40 : decode cX7_tellDatum 40 = .ok (.iload_n 2, 1) := by decide +kernel
theorem dX7_tellDatum_41 : decode cX7_tellDatum 41 = .ok (.iload_n 3, 1) := by decide +kernel
theorem dX7_tellDatum_42 : decode cX7_tellDatum 42 = .ok (.iconst 1, 1) := by decide +kernel
theorem dX7_tellDatum_43 : decode cX7_tellDatum 43 = .ok (.iadd, 1) := by decide +kernel
theorem dX7_tellDatum_44 : decode cX7_tellDatum 44 = .ok (.invokevirtual 58, 3) := by decide +kernel
theorem dX7_tellDatum_47 : decode cX7_tellDatum 47 = .ok (.return_, 1) := by decide +kernel
theorem dX7_tellDatum_48 : decode cX7_tellDatum 48 = .ok (.aload_n 0, 1) := by decide +kernel
theorem dX7_tellDatum_49 : decode cX7_tellDatum 49 = .ok (.getfield 42, 3) := by decide +kernel
theorem dX7_tellDatum_52 : decode cX7_tellDatum 52 = .ok (.iload_n 2, 1) := by decide +kernel
theorem dX7_tellDatum_53 : decode cX7_tellDatum 53 = .ok (.invokevirtual 76, 3) := by decide +kernel
theorem dX7_tellDatum_56 : decode cX7_tellDatum 56 = .ok (.bipush 8, 2) := by decide +kernel
theorem dX7_tellDatum_58 : decode cX7_tellDatum 58 = .ok (.if_icmp .eq 11, 3) := by decide +kernel
theorem dX7_tellDatum_61 : decode cX7_tellDatum 61 = .ok (.aload_n 0, 1) := by decide +kernel
theorem dX7_tellDatum_62 : decode cX7_tellDatum 62 = .ok (.iload_n 1, 1) := by decide +kernel
theorem dX7_tellDatum_63 : decode cX7_tellDatum 63 = .ok (.iload_n 2, 1) := by decide +kernel
theorem dX7_tellDatum_64 : decode cX7_tellDatum 64 = .ok (.iload_n 3, 1) := by decide +kernel
theorem dX7_tellDatum_65 : decode cX7_tellDatum 65 = .ok (.invokevirtual 87, 3) := by decide +kernel
theorem dX7_tellDatum_68 : decode cX7_tellDatum 68 = .ok (.return_, 1) := by decide +kernel
theorem dX7_tellDatum_69 : decode cX7_tellDatum 69 = .ok (.aload_n 0, 1) := by decide +kernel
theorem dX7_tellDatum_70 : decode cX7_tellDatum 70 = .ok (.getfield 38, 3) := by decide +kernel
theorem dX7_tellDatum_73 : decode cX7_tellDatum 73 = .ok (.iload_n 1, 1) := by decide +kernel
theorem dX7_tellDatum_74 : decode cX7_tellDatum 74 = .ok (.aload_n 0, 1) := by decide +kernel
theorem dX7_tellDatum_75 : decode cX7_tellDatum 75 = .ok (.getfield 42, 3) := by decide +kernel
theorem dX7_tellDatum_78 : decode cX7_tellDatum 78 = .ok (.iload_n 2, 1) := by decide +kernel
theorem dX7_tellDatum_79 : decode cX7_tellDatum 79 = .ok (.invokestatic 90, 3) := by decide +kernel
theorem dX7_tellDatum_82 : decode cX7_tellDatum 82 = .ok (.istore 4, 2) := by decide +kernel
theorem dX7_tellDatum_84 : decode cX7_tellDatum 84 = .ok (.iload 4, 2) := by decide +kernel
theorem dX7_tellDatum_86 : decode cX7_tellDatum 86 = .ok (.iconst (-1), 1) := by decide +kernel
theorem dX7_tellDatum_87 : decode cX7_tellDatum 87 = .ok (.if_icmp .ne 10, 3) := by decide +kernel
theorem dX7_tellDatum_90 : decode cX7_tellDatum 90 = .ok (.aload_n 0, 1) := by decide +kernel
theorem dX7_tellDatum_91 : decode cX7_tellDatum 91 = .ok (.bipush (-20), 2) := by decide +kernel
theorem dX7_tellDatum_93 : decode cX7_tellDatum 93 = .ok (.invokevirtual 66, 3) := by decide +kernel
theorem dX7_tellDatum_96 : decode cX7_tellDatum 96 = .ok (.return_, 1) := by decide +kernel
theorem dX7_tellDatum_97 : decode cX7_tellDatum 97 = .ok (.aload_n 0, 1) := by decide +kernel
theorem dX7_tellDatum_98 : decode cX7_tellDatum 98 = .ok (.iload 4, 2) := by decide +kernel
theorem dX7_tellDatum_100 : decode cX7_tellDatum 100 = .ok (.i2l, 1) := by decide +kernel
theorem dX7_tellDatum_101 : decode cX7_tellDatum 101 = .ok (.invokevirtual 94, 3) := by decide +kernel
theorem dX7_tellDatum_104 : decode cX7_tellDatum 104 = .ok (.aload_n 0, 1) := by decide +kernel
theorem dX7_tellDatum_105 : decode cX7_tellDatum 105 = .ok (.getfield 26, 3) := by decide +kernel
theorem dX7_tellDatum_108 : decode cX7_tellDatum 108 = .ok (.ifCond .ne 19, 3) := by decide +kernel
theorem dX7_tellDatum_111 : decode cX7_tellDatum 111 = .ok (.aload_n 0, 1) := by decide +kernel
theorem dX7_tellDatum_112 : decode cX7_tellDatum 112 = .ok (.iload_n 1, 1) := by decide +kernel
theorem dX7_tellDatum_113 : decode cX7_tellDatum 113 = .ok (.aload_n 0, 1) := by decide +kernel
theorem dX7_tellDatum_114 : decode cX7_tellDatum 114 = .ok (.getfield 42, 3) := by decide +kernel
theorem dX7_tellDatum_117 : decode cX7_tellDatum 117 = .ok (.iload_n 2, 1) := by decide +kernel
theorem dX7_tellDatum_118 : decode cX7_tellDatum 118 = .ok (.iload 4, 2) := by decide +kernel
theorem dX7_tellDatum_120 : decode cX7_tellDatum 120 = .ok (.invokevirtual 83, 3) := by decide +kernel
theorem dX7_tellDatum_123 : decode cX7_tellDatum 123 = .ok (.iload_n 3, 1) := by decide +kernel
theorem dX7_tellDatum_124 : decode cX7_tellDatum 124 = .ok (.invokevirtual 87, 3) := by decide +kernel
theorem dX7_tellDatum_127 : decode cX7_tellDatum 127 = .ok (.return_, 1) := by decide +kernel
theorem dX7_tellPlain_0 : decode cX7_tellPlain 0 = .ok (.aload_n 0, 1) := by decide +kernel
theorem dX7_tellPlain_1 : decode cX7_tellPlain 1 = .ok (.getfield 38, 3) := by decide +kernel
theorem dX7_tellPlain_4 : decode cX7_tellPlain 4 = .ok (.iload_n 1, 1) := by decide +kernel
theorem dX7_tellPlain_5 : decode cX7_tellPlain 5 = .ok (.invokevirtual 76, 3) := by decide +kernel
theorem dX7_tellPlain_8 : decode cX7_tellPlain 8 = .ok (.istore 4, 2) := by decide +kernel
theorem dX7_tellPlain_10 : decode cX7_tellPlain 10 = .ok (.iload 4, 2) := by decide +kernel
theorem dX7_tellPlain_12 : decode cX7_tellPlain 12 = .ok (.bipush 6, 2) := by decide +kernel
theorem dX7_tellPlain_14 : decode cX7_tellPlain 14 = .ok (.if_icmp .eq 10, 3) := by decide +kernel
theorem dX7_tellPlain_17 : decode cX7_tellPlain 17 = .ok (.iload 4, 2) := by decide +kernel
theorem dX7_tellPlain_19 : decode cX7_tellPlain 19 = .ok (.bipush 7, 2) := by decide +kernel
theorem dX7_tellPlain_21 : decode cX7_tellPlain 21 = .ok (.if_icmp .ne 35, 3) := by decide +kernel
theorem dX7_tellPlain_24 : decode cX7_tellPlain 24 = .ok (.aload_n 0, 1) := by decide +kernel
theorem dX7_tellPlain_25 : decode cX7_tellPlain 25 = .ok (.getfield 42, 3) := by decide +kernel
theorem dX7_tellPlain_28 : decode cX7_tellPlain 28 = .ok (.iload_n 2, 1) := by decide +kernel
theorem dX7_tellPlain_29 : decode cX7_tellPlain 29 = .ok (.invokevirtual 76, 3) := by decide +kernel
theorem dX7_tellPlain_32 : decode cX7_tellPlain 32 = .ok (.iload 4, 2) := by decide +kernel
theorem dX7_tellPlain_34 : decode cX7_tellPlain 34 = .ok (.if_icmp .ne 13, 3) := by decide +kernel
theorem dX7_tellPlain_37 : decode cX7_tellPlain 37 = .ok (.aload_n 0, 1) := by decide +kernel
theorem dX7_tellPlain_38 : decode cX7_tellPlain 38 = .ok (.iload_n 1, 1) := by decide +kernel
theorem dX7_tellPlain_39 : decode cX7_tellPlain 39 = .ok (.iload_n 2, 1) := by decide +kernel
theorem dX7_tellPlain_40 : decode cX7_tellPlain 40 = .ok (.iload_n 3, 1) := by decide +kernel
theorem dX7_tellPlain_41 : decode cX7_tellPlain 41 = .ok (.invokevirtual 98, 3) := by decide +kernel
theorem dX7_tellPlain_44 : decode cX7_tellPlain 44 = .ok (.goto 96, 3) := by decide +kernel
theorem dX7_tellPlain_47 : decode cX7_tellPlain 47 = .ok (.aload_n 0, 1) := by decide +kernel
theorem dX7_tellPlain_48 : decode cX7_tellPlain 48 = .ok (.bipush (-20), 2) := by decide +kernel
theorem dX7_tellPlain_50 : decode cX7_tellPlain 50 = .ok (.invokevirtual 66, 3) := by decide +kernel
theorem dX7_tellPlain_53 : decode cX7_tellPlain 53 = .ok (.goto 87, 3) := by decide +kernel
theorem dX7_tellPlain_56 : decode cX7_tellPlain 56 = .ok (.aload_n 0, 1) := by decide +kernel
theorem dX7_tellPlain_57 : decode cX7_tellPlain 57 = .ok (.getfield 38, 3) := by decide +kernel
theorem dX7_tellPlain_60 : decode cX7_tellPlain 60 = .ok (.iload_n 1, 1) := by decide +kernel
theorem dX7_tellPlain_61 : decode cX7_tellPlain 61 = .ok (.aload_n 0, 1) := by decide +kernel
theorem dX7_tellPlain_62 : decode cX7_tellPlain 62 = .ok (.getfield 42, 3) := by decide +kernel
theorem dX7_tellPlain_65 : decode cX7_tellPlain 65 = .ok (.iload_n 2, 1) := by decide +kernel
theorem dX7_tellPlain_66 : decode cX7_tellPlain 66 = .ok (.invokestatic 101, 3) := by decide +kernel
theorem dX7_tellPlain_69 : decode cX7_tellPlain 69 = .ok (.ifCond .ne 12, 3) := by decide +kernel
theorem dX7_tellPlain_72 : decode cX7_tellPlain 72 = .ok (.aload_n 0, 1) := by decide +kernel
theorem dX7_tellPlain_73 : decode cX7_tellPlain 73 = .ok (.bipush (-20), 2) := by decide +kernel
theorem dX7_tellPlain_75 : decode cX7_tellPlain 75 = .ok (.invokevirtual 66, 3) := by decide +kernel
theorem dX7_tellPlain_78 : decode cX7_tellPlain 78 = .ok (.goto 62, 3) := by decide +kernel
theorem dX7_tellPlain_81 : decode cX7_tellPlain 81 = .ok (.iload 4, 2) := by decide +kernel
theorem dX7_tellPlain_83 : decode cX7_tellPlain 83 = .ok (.bipush 11, 2) := by decide +kernel
theorem dX7_tellPlain_85 : decode cX7_tellPlain 85 = .ok (.if_icmp .ne 13, 3) := by decide +kernel
theorem dX7_tellPlain_88 : decode cX7_tellPlain 88 = .ok (.aload_n 0, 1) := by decide +kernel
theorem dX7_tellPlain_89 : decode cX7_tellPlain 89 = .ok (.iload_n 1, 1) := by decide +kernel
theorem dX7_tellPlain_90 : decode cX7_tellPlain 90 = .ok (.iload_n 2, 1) := by decide +kernel
theorem dX7_tellPlain_91 : decode cX7_tellPlain 91 = .ok (.iload_n 3, 1) := by decide +kernel
theorem dX7_tellPlain_92 : decode cX7_tellPlain 92 = .ok (.invokevirtual 105, 3) := by decide +kernel
theorem dX7_tellPlain_95 : decode cX7_tellPlain 95 = .ok (.goto 45, 3) := by decide +kernel
theorem dX7_tellPlain_98 : decode cX7_tellPlain 98 = .ok (.iload 4, 2) := by decide +kernel
theorem dX7_tellPlain_100 : decode cX7_tellPlain 100 = .ok (.bipush 10, 2) := by decide +kernel
theorem dX7_tellPlain_102 : decode cX7_tellPlain 102 = .ok (.if_icmp .ne 12, 3) := by decide +kernel
theorem dX7_tellPlain_105 : decode cX7_tellPlain 105 = .ok (.aload_n 0, 1) := by decide +kernel
theorem dX7_tellPlain_106 : decode cX7_tellPlain 106 = .ok (.iload_n 1, 1) := by decide +kernel
theorem dX7_tellPlain_107 : decode cX7_tellPlain 107 = .ok (.iload_n 2, 1) := by decide +kernel
theorem dX7_tellPlain_108 : decode cX7_tellPlain 108 = .ok (.invokevirtual 108, 3) := by decide +kernel
theorem dX7_tellPlain_111 : decode cX7_tellPlain 111 = .ok (.goto 29, 3) := by decide +kernel
theorem dX7_tellPlain_114 : decode cX7_tellPlain 114 = .ok (.aload_n 0, 1) := by decide +kernel
theorem dX7_tellPlain_115 : decode cX7_tellPlain 115 = .ok (.getfield 49, 3) := by decide +kernel
theorem dX7_tellPlain_118 : decode cX7_tellPlain 118 = .ok (.istore 5, 2) := by decide +kernel
theorem dX7_tellPlain_120 : decode cX7_tellPlain 120 = .ok (.aload_n 0, 1) := by decide +kernel
theorem dX7_tellPlain_121 : decode cX7_tellPlain 121 = .ok (.iload_n 1, 1) := by decide +kernel
theorem dX7_tellPlain_122 : decode cX7_tellPlain 122 = .ok (.iload_n 3, 1) := by decide +kernel
theorem dX7_tellPlain_123 : decode cX7_tellPlain 123 = .ok (.invokevirtual 112, 3) := by decide +kernel
theorem dX7_tellPlain_126 : decode cX7_tellPlain 126 = .ok (.aload_n 0, 1) := by decide +kernel
theorem dX7_tellPlain_127 : decode cX7_tellPlain 127 = .ok (.aload_n 0, 1) := by decide +kernel
theorem dX7_tellPlain_128 : decode cX7_tellPlain 128 = .ok (.getfield 36, 3) := by decide +kernel
theorem dX7_tellPlain_131 : decode cX7_tellPlain 131 = .ok (.iload 5, 2) := by decide +kernel
theorem dX7_tellPlain_133 : decode cX7_tellPlain 133 = .ok (.aload_n 0, 1) := by decide +kernel
theorem dX7_tellPlain_134 : decode cX7_tellPlain 134 = .ok (.getfield 49, 3) := by decide +kernel
theorem dX7_tellPlain_137 : decode cX7_tellPlain 137 = .ok (.invokevirtual 115, 3) := by decide +kernel
theorem dX7_tellPlain_140 : decode cX7_tellPlain 140 = .ok (.return_, 1) := by decide +kernel
theorem dX7_tellSymbol_0 : decode cX7_tellSymbol 0 = .ok (.aload_n 0, 1) := by decide +kernel
theorem dX7_tellSymbol_1 : decode cX7_tellSymbol 1 = .ok (.getfield 42, 3) := by decide +kernel
theorem dX7_tellSymbol_4 : decode cX7_tellSymbol 4 = .ok (.iload_n 2, 1) := by decide +kernel
theorem dX7_tellSymbol_5 : decode cX7_tellSymbol 5 = .ok (.aload_n 0, 1) := by decide +kernel
theorem dX7_tellSymbol_6 : decode cX7_tellSymbol 6 = .ok (.getfield 38, 3) := by decide +kernel
theorem dX7_tellSymbol_9 : decode cX7_tellSymbol 9 = .ok (.invokevirtual 119, 3) := by decide +kernel
theorem dX7_tellSymbol_12 : decode cX7_tellSymbol 12 = .ok (.aload_n 0, 1) := by decide +kernel
theorem dX7_tellSymbol_13 : decode cX7_tellSymbol 13 = .ok (.getfield 38, 3) := by decide +kernel
theorem dX7_tellSymbol_16 : decode cX7_tellSymbol 16 = .ok (.aload_n 0, 1) := by decide +kernel
theorem dX7_tellSymbol_17 : decode cX7_tellSymbol 17 = .ok (.getfield 38, 3) := by decide +kernel
theorem dX7_tellSymbol_20 : decode cX7_tellSymbol 20 = .ok (.iload_n 1, 1) := by decide +kernel
theorem dX7_tellSymbol_21 : decode cX7_tellSymbol 21 = .ok (.aload_n 0, 1) := by decide +kernel
theorem dX7_tellSymbol_22 : decode cX7_tellSymbol 22 = .ok (.invokevirtual 79, 3) := by decide +kernel
theorem dX7_tellSymbol_25 : decode cX7_tellSymbol 25 = .ok (.l2i, 1) := by decide +kernel
theorem dX7_tellSymbol_26 : decode cX7_tellSymbol 26 = .ok (.invokevirtual 122, 3) := by decide +kernel
theorem dX7_tellSymbol_29 : decode cX7_tellSymbol 29 = .ok (.invokevirtual 125, 3) := by decide +kernel
theorem dX7_tellSymbol_32 : decode cX7_tellSymbol 32 = .ok (.invokevirtual 128, 3) := by decide +kernel
theorem dX7_tellSymbol_35 : decode cX7_tellSymbol 35 = .ok (.istore_n 3, 1) := by decide +kernel
theorem dX7_tellSymbol_36 : decode cX7_tellSymbol 36 = .ok (.iload_n 3, 1) := by decide +kernel
theorem dX7_tellSymbol_37 : decode cX7_tellSymbol 37 = .ok (.iconst (-1), 1) := by decide +kernel
theorem dX7_tellSymbol_38 : decode cX7_tellSymbol 38 = .ok (.if_icmp .ne 12, 3) := by decide +kernel
theorem dX7_tellSymbol_41 : decode cX7_tellSymbol 41 = .ok (.aload_n 0, 1) := by decide +kernel
theorem dX7_tellSymbol_42 : decode cX7_tellSymbol 42 = .ok (.getfield 42, 3) := by decide +kernel
theorem dX7_tellSymbol_45 : decode cX7_tellSymbol 45 = .ok (.iload_n 2, 1) := by decide +kernel
theorem dX7_tellSymbol_46 : decode cX7_tellSymbol 46 = .ok (.invokevirtual 132, 3) := by decide +kernel
theorem dX7_tellSymbol_49 : decode cX7_tellSymbol 49 = .ok (.istore_n 3, 1) := by decide +kernel
theorem dX7_tellSymbol_50 : decode cX7_tellSymbol 50 = .ok (.iload_n 3, 1) := by decide +kernel
theorem dX7_tellSymbol_51 : decode cX7_tellSymbol 51 = .ok (.iconst (-1), 1) := by decide +kernel
theorem dX7_tellSymbol_52 : decode cX7_tellSymbol 52 = .ok (.if_icmp .ne 12, 3) := by decide +kernel
theorem dX7_tellSymbol_55 : decode cX7_tellSymbol 55 = .ok (.aload_n 0, 1) := by decide +kernel
theorem dX7_tellSymbol_56 : decode cX7_tellSymbol 56 = .ok (.bipush (-20), 2) := by decide +kernel
theorem dX7_tellSymbol_58 : decode cX7_tellSymbol 58 = .ok (.invokevirtual 66, 3) := by decide +kernel
theorem dX7_tellSymbol_61 : decode cX7_tellSymbol 61 = .ok (.goto 9, 3) := by decide +kernel
theorem dX7_tellSymbol_64 : decode cX7_tellSymbol 64 = .ok (.aload_n 0, 1) := by decide +kernel
theorem dX7_tellSymbol_65 : decode cX7_tellSymbol 65 = .ok (.iload_n 3, 1) := by decide +kernel
theorem dX7_tellSymbol_66 : decode cX7_tellSymbol 66 = .ok (.i2l, 1) := by decide +kernel
theorem dX7_tellSymbol_67 : decode cX7_tellSymbol 67 = .ok (.invokevirtual 94, 3) := by decide +kernel
theorem dX7_tellSymbol_70 : decode cX7_tellSymbol 70 = .ok (.return_, 1) := by decide +kernel
theorem dX7_tellItems_0 : decode cX7_tellItems 0 = .ok (.aload_n 0, 1) := by decide +kernel
theorem dX7_tellItems_1 : decode cX7_tellItems 1 = .ok (.invokevirtual 79, 3) := by decide +kernel
theorem dX7_tellItems_4 : decode cX7_tellItems 4 = .ok (.lstore 4, 2) := by decide +kernel
theorem dX7_tellItems_6 : decode cX7_tellItems 6 = .ok (.aload_n 0, 1) := by decide +kernel
theorem dX7_tellItems_7 : decode cX7_tellItems 7 = .ok (.lload 4, 2) := by decide +kernel
theorem dX7_tellItems_9 : decode cX7_tellItems 9 = .ok (.invokevirtual 94, 3) := by decide +kernel
theorem dX7_tellItems_12 : decode cX7_tellItems 12 = .ok (.lload 4, 2) := by decide +kernel
theorem dX7_tellItems_14 : decode cX7_tellItems 14 = .ok (.lconst 0, 1) := by decide +kernel
theorem dX7_tellItems_15 : decode cX7_tellItems 15 = .ok (.lcmp, 1) := by decide +kernel
theorem dX7_tellItems_16 : decode cX7_tellItems 16 = .ok (.ifCond .ne 4, 3) := by decide +kernel
theorem dX7_tellItems_19 : decode cX7_tellItems 19 = .ok (.return_, 1) := by decide +kernel
theorem dX7_tellItems_20 : decode cX7_tellItems 20 = .ok (.iconst 0, 1) := by decide +kernel
theorem dX7_tellItems_21 : decode cX7_tellItems 21 = .ok (.istore 6, 2) := by decide +kernel
theorem dX7_tellItems_23 : decode cX7_tellItems 23 = .ok (.iload 6, 2) := by decide +kernel
theorem dX7_tellItems_25 : decode cX7_tellItems 25 = .ok (.i2l, 1) := by decide +kernel
theorem dX7_tellItems_26 : decode cX7_tellItems 26 = .ok (.lload 4, 2) := by decide +kernel
theorem dX7_tellItems_28 : decode cX7_tellItems 28 = .ok (.lcmp, 1) := by decide +kernel
theorem dX7_tellItems_29 : decode cX7_tellItems 29 = .ok (.ifCond .ge 93, 3) := by decide +kernel
theorem dX7_tellItems_32 : decode cX7_tellItems 32 = .ok (.iload 6, 2) := by decide +kernel
theorem dX7_tellItems_34 : decode cX7_tellItems 34 = .ok (.sipush 2000, 3) := by decide +kernel
theorem dX7_tellItems_37 : decode cX7_tellItems 37 = .ok (.if_icmp .ge 85, 3) := by decide +kernel
theorem dX7_tellItems_40 : decode cX7_tellItems 40 = .ok (.aload_n 0, 1) := by decide +kernel
theorem dX7_tellItems_41 : decode cX7_tellItems 41 = .ok (.getfield 26, 3) := by decide +kernel
theorem dX7_tellItems_44 : decode cX7_tellItems 44 = .ok (.ifCond .ne 78, 3) := by decide +kernel
theorem dX7_tellItems_47 : decode cX7_tellItems 47 = .ok (.aload_n 0, 1) := by decide +kernel
theorem dX7_tellItems_48 : decode cX7_tellItems 48 = .ok (.getfield 38, 3) := by decide +kernel
theorem dX7_tellItems_51 : decode cX7_tellItems 51 = .ok (.iload_n 1, 1) := by decide +kernel
theorem dX7_tellItems_52 : decode cX7_tellItems 52 = .ok (.invokevirtual 76, 3) := by decide +kernel
theorem dX7_tellItems_55 : decode cX7_tellItems 55 = .ok (.bipush 7, 2) := by decide +kernel
theorem dX7_tellItems_57 : decode cX7_tellItems 57 = .ok (.if_icmp .ne 29, 3) := by decide +kernel
theorem dX7_tellItems_60 : decode cX7_tellItems 60 = .ok (.aload_n 0, 1) := by decide +kernel
theorem dX7_tellItems_61 : decode cX7_tellItems 61 = .ok (.getfield 49, 3) := by decide +kernel
theorem dX7_tellItems_64 : decode cX7_tellItems 64 = .ok (.istore 7, 2) := by decide +kernel
theorem dX7_tellItems_66 : decode cX7_tellItems 66 = .ok (.aload_n 0, 1) := by decide +kernel
theorem dX7_tellItems_67 : decode cX7_tellItems 67 = .ok (.iconst 5, 1) := by decide +kernel
theorem dX7_tellItems_68 : decode cX7_tellItems 68 = .ok (.iload_n 3, 1) := by decide +kernel
theorem dX7_tellItems_69 : decode cX7_tellItems 69 = .ok (.invokevirtual 112, 3) := by decide +kernel
theorem dX7_tellItems_72 : decode cX7_tellItems 72 = .ok (.aload_n 0, 1) := by decide +kernel
theorem dX7_tellItems_73 : decode cX7_tellItems 73 = .ok (.aload_n 0, 1) := by decide +kernel
theorem dX7_tellItems_74 : decode cX7_tellItems 74 = .ok (.getfield 36, 3) := by decide +kernel
theorem dX7_tellItems_77 : decode cX7_tellItems 77 = .ok (.iload 7, 2) := by decide +kernel
theorem dX7_tellItems_79 : decode cX7_tellItems 79 = .ok (.aload_n 0, 1) := by decide +kernel
theorem dX7_tellItems_80 : decode cX7_tellItems 80 = .ok (.getfield 49, 3) := by decide +kernel
theorem dX7_tellItems_83 : decode cX7_tellItems 83 = .ok (.invokevirtual 115, 3) := by decide +kernel
theorem dX7_tellItems_86 : decode cX7_tellItems 86 = .ok (.aload_n 0, 1) := by decide +kernel
theorem dX7_tellItems_87 : decode cX7_tellItems 87 = .ok (.getfield 26, 3) := by decide +kernel
theorem dX7_tellItems_90 : decode cX7_tellItems 90 = .ok (.ifCond .ne 26, 3) := by decide +kernel
theorem dX7_tellItems_93 : decode cX7_tellItems 93 = .ok (.aload_n 0, 1) := by decide +kernel
theorem dX7_tellItems_94 : decode cX7_tellItems 94 = .ok (.aload_n 0, 1) := by decide +kernel
theorem dX7_tellItems_95 : decode cX7_tellItems 95 = .ok (.getfield 38, 3) := by decide +kernel
theorem dX7_tellItems_98 : decode cX7_tellItems 98 = .ok (.iload_n 1, 1) := by decide +kernel
theorem dX7_tellItems_99 : decode cX7_tellItems 99 = .ok (.invokevirtual 135, 3) := by decide +kernel
theorem dX7_tellItems_102 : decode cX7_tellItems 102 = .ok (.aload_n 0, 1) := by decide +kernel
theorem dX7_tellItems_103 : decode cX7_tellItems 103 = .ok (.getfield 42, 3) := by decide +kernel
theorem dX7_tellItems_106 : decode cX7_tellItems 106 = .ok (.iload_n 2, 1) := by decide +kernel
theorem dX7_tellItems_107 : decode cX7_tellItems 107 = .ok (.invokevirtual 135, 3) := by decide +kernel
theorem dX7_tellItems_110 : decode cX7_tellItems 110 = .ok (.iload_n 3, 1) := by decide +kernel
theorem dX7_tellItems_111 : decode cX7_tellItems 111 = .ok (.iconst 1, 1) := by decide +kernel
theorem dX7_tellItems_112 : decode cX7_tellItems 112 = .ok (.iadd, 1) := by decide +kernel
theorem dX7_tellItems_113 : decode cX7_tellItems 113 = .ok (.invokevirtual 58, 3) := by decide +kernel
theorem dX7_tellItems_116 : decode cX7_tellItems 116 = .ok (.iinc 6 1, 3) := by decide +kernel
theorem dX7_tellItems_119 : decode cX7_tellItems 119 = .ok (.goto (-96), 3) := by decide +kernel
theorem dX7_tellItems_122 : decode cX7_tellItems 122 = .ok (.aload_n 0, 1) := by decide +kernel
theorem dX7_tellItems_123 : decode cX7_tellItems 123 = .ok (.aload_n 0, 1) := by decide +kernel
theorem dX7_tellItems_124 : decode cX7_tellItems 124 = .ok (.invokevirtual 79, 3) := by decide +kernel
theorem dX7_tellItems_127 : decode cX7_tellItems 127 = .ok (.invokevirtual 94, 3) := by decide +kernel
theorem dX7_tellItems_130 : decode cX7_tellItems 130 = .ok (.return_, 1) := by decide +kernel
theorem dX7_tellFields_0 : decode cX7_tellFields 0 = .ok (.iload_n 3, 1) := by decide +kernel
theorem dX7_tellFields_1 : decode cX7_tellFields 1 = .ok (.bipush 33, 2) := by decide +kernel
theorem dX7_tellFields_3 : decode cX7_tellFields 3 = .ok (.imul, 1) := by decide +kernel
theorem dX7_tellFields_4 : decode cX7_tellFields 4 = .ok (.istore 4, 2) := by decide +kernel
theorem dX7_tellFields_6 : decode cX7_tellFields 6 = .ok (.iconst 0, 1) := by decide +kernel
theorem dX7_tellFields_7 : decode cX7_tellFields 7 = .ok (.istore 5, 2) := by decide +kernel
theorem dX7_tellFields_9 : decode cX7_tellFields 9 = .ok (.aload_n 0, 1) := by decide +kernel
theorem dX7_tellFields_10 : decode cX7_tellFields 10 = .ok (.getfield 20, 3) := by decide +kernel
theorem dX7_tellFields_13 : decode cX7_tellFields 13 = .ok (.iload 4, 2) := by decide +kernel
theorem dX7_tellFields_15 : decode cX7_tellFields 15 = .ok (.aload_n 0, 1) := by decide +kernel
theorem dX7_tellFields_16 : decode cX7_tellFields 16 = .ok (.getfield 49, 3) := by decide +kernel
theorem dX7_tellFields_19 : decode cX7_tellFields 19 = .ok (.invokevirtual 138, 3) := by decide +kernel
theorem dX7_tellFields_22 : decode cX7_tellFields 22 = .ok (.iconst 0, 1) := by decide +kernel
theorem dX7_tellFields_23 : decode cX7_tellFields 23 = .ok (.istore 6, 2) := by decide +kernel
theorem dX7_tellFields_25 : decode cX7_tellFields 25 = .ok (.iload 6, 2) := by decide +kernel
theorem dX7_tellFields_27 : decode cX7_tellFields 27 = .ok (.aload_n 0, 1) := by decide +kernel
theorem dX7_tellFields_28 : decode cX7_tellFields 28 = .ok (.getfield 42, 3) := by decide +kernel
theorem dX7_tellFields_31 : decode cX7_tellFields 31 = .ok (.iload_n 2, 1) := by decide +kernel
theorem dX7_tellFields_32 : decode cX7_tellFields 32 = .ok (.invokevirtual 140, 3) := by decide +kernel
theorem dX7_tellFields_35 : decode cX7_tellFields 35 = .ok (.if_icmp .ge 156, 3) := by decide +kernel
theorem dX7_tellFields_38 : decode cX7_tellFields 38 = .ok (.aload_n 0, 1) := by decide +kernel
theorem dX7_tellFields_39 : decode cX7_tellFields 39 = .ok (.getfield 26, 3) := by decide +kernel
theorem dX7_tellFields_42 : decode cX7_tellFields 42 = .ok (.ifCond .ne 149, 3) := by decide +kernel
theorem dX7_tellFields_45 : decode cX7_tellFields 45 = .ok (.aload_n 0, 1) := by decide +kernel
theorem dX7_tellFields_46 : decode cX7_tellFields 46 = .ok (.getfield 42, 3) := by decide +kernel
theorem dX7_tellFields_49 : decode cX7_tellFields 49 = .ok (.iload_n 2, 1) := by decide +kernel
theorem dX7_tellFields_50 : decode cX7_tellFields 50 = .ok (.iload 6, 2) := by decide +kernel
theorem dX7_tellFields_52 : decode cX7_tellFields 52 = .ok (.invokevirtual 122, 3) := by decide +kernel
theorem dX7_tellFields_55 : decode cX7_tellFields 55 = .ok (.istore 7, 2) := by decide +kernel
theorem dX7_tellFields_57 : decode cX7_tellFields 57 = .ok (.aload_n 0, 1) := by decide +kernel
theorem dX7_tellFields_58 : decode cX7_tellFields 58 = .ok (.getfield 38, 3) := by decide +kernel
theorem dX7_tellFields_61 : decode cX7_tellFields 61 = .ok (.iload_n 1, 1) := by decide +kernel
theorem dX7_tellFields_62 : decode cX7_tellFields 62 = .ok (.aload_n 0, 1) := by decide +kernel
theorem dX7_tellFields_63 : decode cX7_tellFields 63 = .ok (.getfield 42, 3) := by decide +kernel
theorem dX7_tellFields_66 : decode cX7_tellFields 66 = .ok (.invokevirtual 119, 3) := by decide +kernel
theorem dX7_tellFields_69 : decode cX7_tellFields 69 = .ok (.aload_n 0, 1) := by decide +kernel
theorem dX7_tellFields_70 : decode cX7_tellFields 70 = .ok (.getfield 42, 3) := by decide +kernel
theorem dX7_tellFields_73 : decode cX7_tellFields 73 = .ok (.iload 7, 2) := by decide +kernel
theorem dX7_tellFields_75 : decode cX7_tellFields 75 = .ok (.invokevirtual 125, 3) := by decide +kernel
theorem dX7_tellFields_78 : decode cX7_tellFields 78 = .ok (.invokevirtual 128, 3) := by decide +kernel
theorem dX7_tellFields_81 : decode cX7_tellFields 81 = .ok (.istore 8, 2) := by decide +kernel
theorem dX7_tellFields_83 : decode cX7_tellFields 83 = .ok (.iload 8, 2) := by decide +kernel
theorem dX7_tellFields_85 : decode cX7_tellFields 85 = .ok (.iconst (-1), 1) := by decide +kernel
theorem dX7_tellFields_86 : decode cX7_tellFields 86 = .ok (.if_icmp .ne 12, 3) := by decide +kernel
theorem dX7_tellFields_89 : decode cX7_tellFields 89 = .ok (.aload_n 0, 1) := by decide +kernel
theorem dX7_tellFields_90 : decode cX7_tellFields 90 = .ok (.iload 7, 2) := by decide +kernel
theorem dX7_tellFields_92 : decode cX7_tellFields 92 = .ok (.invokevirtual 143, 3) := by decide +kernel
theorem dX7_tellFields_95 : decode cX7_tellFields 95 = .ok (.goto 90, 3) := by decide +kernel
theorem dX7_tellFields_98 : decode cX7_tellFields 98 = .ok (.aload_n 0, 1) := by decide +kernel
theorem dX7_tellFields_99 : decode cX7_tellFields 99 = .ok (.iload_n 1, 1) := by decide +kernel
theorem dX7_tellFields_100 : decode cX7_tellFields 100 = .ok (.iload 5, 2) := by decide +kernel
theorem dX7_tellFields_102 : decode cX7_tellFields 102 = .ok (.iload 8, 2) := by decide +kernel
theorem dX7_tellFields_104 : decode cX7_tellFields 104 = .ok (.iload_n 3, 1) := by decide +kernel
theorem dX7_tellFields_105 : decode cX7_tellFields 105 = .ok (.invokevirtual 146, 3) := by decide +kernel
theorem dX7_tellFields_108 : decode cX7_tellFields 108 = .ok (.istore 5, 2) := by decide +kernel
theorem dX7_tellFields_110 : decode cX7_tellFields 110 = .ok (.aload_n 0, 1) := by decide +kernel
theorem dX7_tellFields_111 : decode cX7_tellFields 111 = .ok (.aload_n 0, 1) := by decide +kernel
theorem dX7_tellFields_112 : decode cX7_tellFields 112 = .ok (.getfield 20, 3) := by decide +kernel
theorem dX7_tellFields_115 : decode cX7_tellFields 115 = .ok (.iload 4, 2) := by decide +kernel
theorem dX7_tellFields_117 : decode cX7_tellFields 117 = .ok (.iload 8, 2) := by decide +kernel
theorem dX7_tellFields_119 : decode cX7_tellFields 119 = .ok (.iadd, 1) := by decide +kernel
theorem dX7_tellFields_120 : decode cX7_tellFields 120 = .ok (.invokevirtual 73, 3) := by decide +kernel
theorem dX7_tellFields_123 : decode cX7_tellFields 123 = .ok (.putfield 49, 3) := by decide +kernel
theorem dX7_tellFields_126 : decode cX7_tellFields 126 = .ok (.aload_n 0, 1) := by decide +kernel
theorem dX7_tellFields_127 : decode cX7_tellFields 127 = .ok (.aload_n 0, 1) := by decide +kernel
theorem dX7_tellFields_128 : decode cX7_tellFields 128 = .ok (.getfield 38, 3) := by decide +kernel
theorem dX7_tellFields_131 : decode cX7_tellFields 131 = .ok (.aload_n 0, 1) := by decide +kernel
theorem dX7_tellFields_132 : decode cX7_tellFields 132 = .ok (.getfield 38, 3) := by decide +kernel
theorem dX7_tellFields_135 : decode cX7_tellFields 135 = .ok (.iload_n 1, 1) := by decide +kernel
theorem dX7_tellFields_136 : decode cX7_tellFields 136 = .ok (.iload 8, 2) := by decide +kernel
theorem dX7_tellFields_138 : decode cX7_tellFields 138 = .ok (.invokevirtual 122, 3) := by decide +kernel
theorem dX7_tellFields_141 : decode cX7_tellFields 141 = .ok (.invokevirtual 150, 3) := by decide +kernel
theorem dX7_tellFields_144 : decode cX7_tellFields 144 = .ok (.aload_n 0, 1) := by decide +kernel
theorem dX7_tellFields_145 : decode cX7_tellFields 145 = .ok (.getfield 42, 3) := by decide +kernel
theorem dX7_tellFields_148 : decode cX7_tellFields 148 = .ok (.iload 7, 2) := by decide +kernel
theorem dX7_tellFields_150 : decode cX7_tellFields 150 = .ok (.invokevirtual 150, 3) := by decide +kernel
theorem dX7_tellFields_153 : decode cX7_tellFields 153 = .ok (.iload_n 3, 1) := by decide +kernel
theorem dX7_tellFields_154 : decode cX7_tellFields 154 = .ok (.iconst 1, 1) := by decide +kernel
theorem dX7_tellFields_155 : decode cX7_tellFields 155 = .ok (.iadd, 1) := by decide +kernel
theorem dX7_tellFields_156 : decode cX7_tellFields 156 = .ok (.invokevirtual 58, 3) := by decide +kernel
theorem dX7_tellFields_159 : decode cX7_tellFields 159 = .ok (.iload 5, 2) := by decide +kernel
theorem dX7_tellFields_161 : decode cX7_tellFields 161 = .ok (.iload 8, 2) := by decide +kernel
theorem dX7_tellFields_163 : decode cX7_tellFields 163 = .ok (.if_icmp .ne 22, 3) := by decide +kernel
theorem dX7_tellFields_166 : decode cX7_tellFields 166 = .ok (.iinc 5 1, 3) := by decide +kernel
theorem dX7_tellFields_169 : decode cX7_tellFields 169 = .ok (.aload_n 0, 1) := by decide +kernel
theorem dX7_tellFields_170 : decode cX7_tellFields 170 = .ok (.getfield 20, 3) := by decide +kernel
theorem dX7_tellFields_173 : decode cX7_tellFields 173 = .ok (.iload 4, 2) := by decide +kernel
theorem dX7_tellFields_175 : decode cX7_tellFields 175 = .ok (.iload 5, 2) := by decide +kernel
theorem dX7_tellFields_177 : decode cX7_tellFields 177 = .ok (.iadd, 1) := by decide +kernel
theorem dX7_tellFields_178 : decode cX7_tellFields 178 = .ok (.aload_n 0, 1) := by decide +kernel
theorem dX7_tellFields_179 : decode cX7_tellFields 179 = .ok (.getfield 49, 3) := by decide +kernel
theorem dX7_tellFields_182 : decode cX7_tellFields 182 = .ok (.invokevirtual 138, 3) := by decide +kernel
theorem dX7_tellFields_185 : decode cX7_tellFields 185 = .ok (.iinc 6 1, 3) := by decide +kernel
theorem dX7_tellFields_188 : decode cX7_tellFields 188 = .ok (.goto (-163), 3) := by decide +kernel
theorem dX7_tellFields_191 : decode cX7_tellFields 191 = .ok (.aload_n 0, 1) := by decide +kernel
theorem dX7_tellFields_192 : decode cX7_tellFields 192 = .ok (.iload_n 1, 1) := by decide +kernel
theorem dX7_tellFields_193 : decode cX7_tellFields 193 = .ok (.iload 5, 2) := by decide +kernel
theorem dX7_tellFields_195 : decode cX7_tellFields 195 = .ok (.aload_n 0, 1) := by decide +kernel
theorem dX7_tellFields_196 : decode cX7_tellFields 196 = .ok (.getfield 38, 3) := by decide +kernel
theorem dX7_tellFields_199 : decode cX7_tellFields 199 = .ok (.iload_n 1, 1) := by decide +kernel
theorem dX7_tellFields_200 : decode cX7_tellFields 200 = .ok (.invokevirtual 140, 3) := by decide +kernel
theorem dX7_tellFields_203 : decode cX7_tellFields 203 = .ok (.iload_n 3, 1) := by decide +kernel
theorem dX7_tellFields_204 : decode cX7_tellFields 204 = .ok (.invokevirtual 146, 3) := by decide +kernel
theorem dX7_tellFields_207 : decode cX7_tellFields 207 = .ok (.pop, 1) := by decide +kernel
theorem dX7_tellFields_208 : decode cX7_tellFields 208 = .ok (.aload_n 0, 1) := by decide +kernel
theorem dX7_tellFields_209 : decode cX7_tellFields 209 = .ok (.aload_n 0, 1) := by decide +kernel
theorem dX7_tellFields_210 : decode cX7_tellFields 210 = .ok (.getfield 20, 3) := by decide +kernel
theorem dX7_tellFields_213 : decode cX7_tellFields 213 = .ok (.iload 4, 2) := by decide +kernel
theorem dX7_tellFields_215 : decode cX7_tellFields 215 = .ok (.aload_n 0, 1) := by decide +kernel
theorem dX7_tellFields_216 : decode cX7_tellFields 216 = .ok (.getfield 38, 3) := by decide +kernel
theorem dX7_tellFields_219 : decode cX7_tellFields 219 = .ok (.iload_n 1, 1) := by decide +kernel
theorem dX7_tellFields_220 : decode cX7_tellFields 220 = .ok (.invokevirtual 140, 3) := by decide +kernel
theorem dX7_tellFields_223 : decode cX7_tellFields 223 = .ok (.iadd, 1) := by decide +kernel
theorem dX7_tellFields_224 : decode cX7_tellFields 224 = .ok (.invokevirtual 73, 3) := by decide +kernel
theorem dX7_tellFields_227 : decode cX7_tellFields 227 = .ok (.putfield 49, 3) := by decide +kernel
theorem dX7_tellFields_230 : decode cX7_tellFields 230 = .ok (.return_, 1) := by decide +kernel
theorem dX7_skipFields_0 : decode cX7_skipFields 0 = .ok (.iload 4, 2) := by decide +kernel
theorem dX7_skipFields_2 : decode cX7_skipFields 2 = .ok (.bipush 33, 2) := by decide +kernel
theorem dX7_skipFields_4 : decode cX7_skipFields 4 = .ok (.imul, 1) := by decide +kernel
theorem dX7_skipFields_5 : decode cX7_skipFields 5 = .ok (.istore 5, 2) := by decide +kernel
theorem dX7_skipFields_7 : decode cX7_skipFields 7 = .ok (.iload_n 2, 1) := by decide +kernel
theorem dX7_skipFields_8 : decode cX7_skipFields 8 = .ok (.istore 6, 2) := by decide +kernel
theorem dX7_skipFields_10 : decode cX7_skipFields 10 = .ok (.iload 6, 2) := by decide +kernel
theorem dX7_skipFields_12 : decode cX7_skipFields 12 = .ok (.iload_n 3, 1) := by decide +kernel
theorem dX7_skipFields_13 : decode cX7_skipFields 13 = .ok (.if_icmp .ge 68, 3) := by decide +kernel
theorem dX7_skipFields_16 : decode cX7_skipFields 16 = .ok (.aload_n 0, 1) := by decide +kernel
theorem dX7_skipFields_17 : decode cX7_skipFields 17 = .ok (.aload_n 0, 1) := by decide +kernel
theorem dX7_skipFields_18 : decode cX7_skipFields 18 = .ok (.getfield 20, 3) := by decide +kernel
theorem dX7_skipFields_21 : decode cX7_skipFields 21 = .ok (.iload 5, 2) := by decide +kernel
theorem dX7_skipFields_23 : decode cX7_skipFields 23 = .ok (.iload 6, 2) := by decide +kernel
theorem dX7_skipFields_25 : decode cX7_skipFields 25 = .ok (.iadd, 1) := by decide +kernel
theorem dX7_skipFields_26 : decode cX7_skipFields 26 = .ok (.invokevirtual 73, 3) := by decide +kernel
theorem dX7_skipFields_29 : decode cX7_skipFields 29 = .ok (.putfield 49, 3) := by decide +kernel
theorem dX7_skipFields_32 : decode cX7_skipFields 32 = .ok (.aload_n 0, 1) := by decide +kernel
theorem dX7_skipFields_33 : decode cX7_skipFields 33 = .ok (.aload_n 0, 1) := by decide +kernel
theorem dX7_skipFields_34 : decode cX7_skipFields 34 = .ok (.getfield 38, 3) := by decide +kernel
theorem dX7_skipFields_37 : decode cX7_skipFields 37 = .ok (.aload_n 0, 1) := by decide +kernel
theorem dX7_skipFields_38 : decode cX7_skipFields 38 = .ok (.getfield 38, 3) := by decide +kernel
theorem dX7_skipFields_41 : decode cX7_skipFields 41 = .ok (.iload_n 1, 1) := by decide +kernel
theorem dX7_skipFields_42 : decode cX7_skipFields 42 = .ok (.iload 6, 2) := by decide +kernel
theorem dX7_skipFields_44 : decode cX7_skipFields 44 = .ok (.invokevirtual 122, 3) := by decide +kernel
theorem dX7_skipFields_47 : decode cX7_skipFields 47 = .ok (.invokevirtual 150, 3) := by decide +kernel
theorem dX7_skipFields_50 : decode cX7_skipFields 50 = .ok (.iload 4, 2) := by decide +kernel
theorem dX7_skipFields_52 : decode cX7_skipFields 52 = .ok (.iconst 1, 1) := by decide +kernel
theorem dX7_skipFields_53 : decode cX7_skipFields 53 = .ok (.iadd, 1) := by decide +kernel
theorem dX7_skipFields_54 : decode cX7_skipFields 54 = .ok (.invokevirtual 112, 3) := by decide +kernel
theorem dX7_skipFields_57 : decode cX7_skipFields 57 = .ok (.aload_n 0, 1) := by decide +kernel
theorem dX7_skipFields_58 : decode cX7_skipFields 58 = .ok (.getfield 20, 3) := by decide +kernel
theorem dX7_skipFields_61 : decode cX7_skipFields 61 = .ok (.iload 5, 2) := by decide +kernel
theorem dX7_skipFields_63 : decode cX7_skipFields 63 = .ok (.iload 6, 2) := by decide +kernel
theorem dX7_skipFields_65 : decode cX7_skipFields 65 = .ok (.iadd, 1) := by decide +kernel
theorem dX7_skipFields_66 : decode cX7_skipFields 66 = .ok (.iconst 1, 1) := by decide +kernel
theorem dX7_skipFields_67 : decode cX7_skipFields 67 = .ok (.iadd, 1) := by decide +kernel
theorem dX7_skipFields_68 : decode cX7_skipFields 68 = .ok (.aload_n 0, 1) := by decide +kernel
theorem dX7_skipFields_69 : decode cX7_skipFields 69 = .ok (.getfield 49, 3) := by decide +kernel
theorem dX7_skipFields_72 : decode cX7_skipFields 72 = .ok (.invokevirtual 138, 3) := by decide +kernel
theorem dX7_skipFields_75 : decode cX7_skipFields 75 = .ok (.iinc 6 1, 3) := by decide +kernel
theorem dX7_skipFields_78 : decode cX7_skipFields 78 = .ok (.goto (-68), 3) := by decide +kernel
theorem dX7_skipFields_81 : decode cX7_skipFields 81 = .ok (.iload_n 2, 1) := by decide +kernel
theorem dX7_skipFields_82 : decode cX7_skipFields 82 = .ok (.iload_n 3, 1) := by decide +kernel
theorem dX7_skipFields_83 : decode cX7_skipFields 83 = .ok (.invokestatic 153, 3) := by decide +kernel
theorem dX7_skipFields_86 : decode cX7_skipFields 86 = .ok (.ireturn, 1) := by decide +kernel
theorem dX7_tellDefault_0 : decode cX7_tellDefault 0 = .ok (.aload_n 0, 1) := by decide +kernel
theorem dX7_tellDefault_1 : decode cX7_tellDefault 1 = .ok (.getfield 42, 3) := by decide +kernel
theorem dX7_tellDefault_4 : decode cX7_tellDefault 4 = .ok (.iload_n 1, 1) := by decide +kernel
theorem dX7_tellDefault_5 : decode cX7_tellDefault 5 = .ok (.invokevirtual 158, 3) := by decide +kernel
theorem dX7_tellDefault_8 : decode cX7_tellDefault 8 = .ok (.ifCond .eq 33, 3) := by decide +kernel
theorem dX7_tellDefault_11 : decode cX7_tellDefault 11 = .ok (.aload_n 0, 1) := by decide +kernel
theorem dX7_tellDefault_12 : decode cX7_tellDefault 12 = .ok (.aload_n 0, 1) := by decide +kernel
theorem dX7_tellDefault_13 : decode cX7_tellDefault 13 = .ok (.getfield 42, 3) := by decide +kernel
theorem dX7_tellDefault_16 : decode cX7_tellDefault 16 = .ok (.invokevirtual 162, 3) := by decide +kernel
theorem dX7_tellDefault_19 : decode cX7_tellDefault 19 = .ok (.aload_n 0, 1) := by decide +kernel
theorem dX7_tellDefault_20 : decode cX7_tellDefault 20 = .ok (.getfield 42, 3) := by decide +kernel
theorem dX7_tellDefault_23 : decode cX7_tellDefault 23 = .ok (.iload_n 1, 1) := by decide +kernel
theorem dX7_tellDefault_24 : decode cX7_tellDefault 24 = .ok (.invokevirtual 165, 3) := by decide +kernel
theorem dX7_tellDefault_27 : decode cX7_tellDefault 27 = .ok (.aload_n 0, 1) := by decide +kernel
theorem dX7_tellDefault_28 : decode cX7_tellDefault 28 = .ok (.getfield 42, 3) := by decide +kernel
theorem dX7_tellDefault_31 : decode cX7_tellDefault 31 = .ok (.iload_n 1, 1) := by decide +kernel
theorem dX7_tellDefault_32 : decode cX7_tellDefault 32 = .ok (.invokevirtual 168, 3) := by decide +kernel
theorem dX7_tellDefault_35 : decode cX7_tellDefault 35 = .ok (.invokevirtual 115, 3) := by decide +kernel
theorem dX7_tellDefault_38 : decode cX7_tellDefault 38 = .ok (.goto 9, 3) := by decide +kernel
theorem dX7_tellDefault_41 : decode cX7_tellDefault 41 = .ok (.aload_n 0, 1) := by decide +kernel
theorem dX7_tellDefault_42 : decode cX7_tellDefault 42 = .ok (.bipush (-20), 2) := by decide +kernel
theorem dX7_tellDefault_44 : decode cX7_tellDefault 44 = .ok (.invokevirtual 66, 3) := by decide +kernel
theorem dX7_tellDefault_47 : decode cX7_tellDefault 47 = .ok (.return_, 1) := by decide +kernel
theorem dX7_skip_0 : decode cX7_skip 0 = .ok (.iload_n 2, 1) := by decide +kernel
theorem dX7_skip_1 : decode cX7_skip 1 = .ok (.bipush 33, 2) := by decide +kernel
theorem dX7_skip_3 : decode cX7_skip 3 = .ok (.if_icmp .lt 4, 3) := by decide +kernel
theorem dX7_skip_6 : decode cX7_skip 6 = .ok (.return_, 1) := by decide +kernel
theorem dX7_skip_7 : decode cX7_skip 7 = .ok (.aload_n 0, 1) := by decide +kernel
theorem dX7_skip_8 : decode cX7_skip 8 = .ok (.getfield 38, 3) := by decide +kernel
theorem dX7_skip_11 : decode cX7_skip 11 = .ok (.iload_n 1, 1) := by decide +kernel
theorem dX7_skip_12 : decode cX7_skip 12 = .ok (.invokevirtual 76, 3) := by decide +kernel
theorem dX7_skip_15 : decode cX7_skip 15 = .ok (.tableswitch 184 1 11 #[57, 68, 68, 74, 74, 130, 130, 109, 91, 68, 137], 57) := by decide +kernel
theorem dX7_skip_72 : decode cX7_skip 72 = .ok (.aload_n 0, 1) := by decide +kernel
theorem dX7_skip_73 : decode cX7_skip 73 = .ok (.dup, 1) := by decide +kernel
theorem dX7_skip_74 : decode cX7_skip 74 = .ok (.getfield 49, 3) := by decide +kernel
theorem dX7_skip_77 : decode cX7_skip 77 = .ok (.iconst 1, 1) := by decide +kernel
theorem dX7_skip_78 : decode cX7_skip 78 = .ok (.iadd, 1) := by decide +kernel
theorem dX7_skip_79 : decode cX7_skip 79 = .ok (.putfield 49, 3) := by decide +kernel
theorem dX7_skip_82 : decode cX7_skip 82 = .ok (.return_, 1) := by decide +kernel
theorem dX7_skip_83 : decode cX7_skip 83 = .ok (.aload_n 0, 1) := by decide +kernel
theorem dX7_skip_84 : decode cX7_skip 84 = .ok (.invokevirtual 79, 3) := by decide +kernel
theorem dX7_skip_87 : decode cX7_skip 87 = .ok (.pop2, 1) := by decide +kernel
theorem dX7_skip_88 : decode cX7_skip 88 = .ok (.return_, 1) := by decide +kernel
theorem dX7_skip_89 : decode cX7_skip 89 = .ok (.aload_n 0, 1) := by decide +kernel
theorem dX7_skip_90 : decode cX7_skip 90 = .ok (.invokevirtual 79, 3) := by decide +kernel
theorem dX7_skip_93 : decode cX7_skip 93 = .ok (.l2i, 1) := by decide +kernel
theorem dX7_skip_94 : decode cX7_skip 94 = .ok (.istore_n 3, 1) := by decide +kernel
theorem dX7_skip_95 : decode cX7_skip 95 = .ok (.aload_n 0, 1) := by decide +kernel
theorem dX7_skip_96 : decode cX7_skip 96 = .ok (.dup, 1) := by decide +kernel
theorem dX7_skip_97 : decode cX7_skip 97 = .ok (.getfield 49, 3) := by decide +kernel
theorem dX7_skip_100 : decode cX7_skip 100 = .ok (.iload_n 3, 1) := by decide +kernel
theorem dX7_skip_101 : decode cX7_skip 101 = .ok (.iadd, 1) := by decide +kernel
theorem dX7_skip_102 : decode cX7_skip 102 = .ok (.putfield 49, 3) := by decide +kernel
theorem dX7_skip_105 : decode cX7_skip 105 = .ok (.return_, 1) := by decide +kernel
theorem dX7_skip_106 : decode cX7_skip 106 = .ok (.aload_n 0, 1) := by decide +kernel
theorem dX7_skip_107 : decode cX7_skip 107 = .ok (.dup, 1) := by decide +kernel
theorem dX7_skip_108 : decode cX7_skip 108 = .ok (.getfield 49, 3) := by decide +kernel
theorem dX7_skip_111 : decode cX7_skip 111 = .ok (.aload_n 0, 1) := by decide +kernel
theorem dX7_skip_112 : decode cX7_skip 112 = .ok (.getfield 38, 3) := by decide +kernel
theorem dX7_skip_115 : decode cX7_skip 115 = .ok (.iload_n 1, 1) := by decide +kernel
theorem dX7_skip_116 : decode cX7_skip 116 = .ok (.invokevirtual 171, 3) := by decide +kernel
theorem dX7_skip_119 : decode cX7_skip 119 = .ok (.iadd, 1) := by decide +kernel
theorem dX7_skip_120 : decode cX7_skip 120 = .ok (.putfield 49, 3) := by decide +kernel
theorem dX7_skip_123 : decode cX7_skip 123 = .ok (.return_, 1) := by decide +kernel
theorem dX7_skip_124 : decode cX7_skip 124 = .ok (.aload_n 0, 1) := by decide +kernel
theorem dX7_skip_125 : decode cX7_skip 125 = .ok (.aload_n 0, 1) := by decide +kernel
theorem dX7_skip_126 : decode cX7_skip 126 = .ok (.getfield 38, 3) := by decide +kernel
theorem dX7_skip_129 : decode cX7_skip 129 = .ok (.iload_n 1, 1) := by decide +kernel
theorem dX7_skip_130 : decode cX7_skip 130 = .ok (.aload_n 0, 1) := by decide +kernel
theorem dX7_skip_131 : decode cX7_skip 131 = .ok (.invokevirtual 79, 3) := by decide +kernel
theorem dX7_skip_134 : decode cX7_skip 134 = .ok (.l2i, 1) := by decide +kernel
theorem dX7_skip_135 : decode cX7_skip 135 = .ok (.invokevirtual 83, 3) := by decide +kernel
theorem dX7_skip_138 : decode cX7_skip 138 = .ok (.iload_n 2, 1) := by decide +kernel
theorem dX7_skip_139 : decode cX7_skip 139 = .ok (.iconst 1, 1) := by decide +kernel
theorem dX7_skip_140 : decode cX7_skip 140 = .ok (.iadd, 1) := by decide +kernel
theorem dX7_skip_141 : decode cX7_skip 141 = .ok (.invokevirtual 112, 3) := by decide +kernel
theorem dX7_skip_144 : decode cX7_skip 144 = .ok (.return_, 1) := by decide +kernel
theorem dX7_skip_145 : decode cX7_skip 145 = .ok (.aload_n 0, 1) := by decide +kernel
theorem dX7_skip_146 : decode cX7_skip 146 = .ok (.iload_n 1, 1) := by decide +kernel
theorem dX7_skip_147 : decode cX7_skip 147 = .ok (.iload_n 2, 1) := by decide +kernel
theorem dX7_skip_148 : decode cX7_skip 148 = .ok (.invokevirtual 174, 3) := by decide +kernel
theorem dX7_skip_151 : decode cX7_skip 151 = .ok (.return_, 1) := by decide +kernel
theorem dX7_skip_152 : decode cX7_skip 152 = .ok (.iconst 0, 1) := by decide +kernel
theorem dX7_skip_153 : decode cX7_skip 153 = .ok (.istore 4, 2) := by decide +kernel
theorem dX7_skip_155 : decode cX7_skip 155 = .ok (.iload 4, 2) := by decide +kernel
theorem dX7_skip_157 : decode cX7_skip 157 = .ok (.aload_n 0, 1) := by decide +kernel
theorem dX7_skip_158 : decode cX7_skip 158 = .ok (.getfield 38, 3) := by decide +kernel
theorem dX7_skip_161 : decode cX7_skip 161 = .ok (.iload_n 1, 1) := by decide +kernel
theorem dX7_skip_162 : decode cX7_skip 162 = .ok (.invokevirtual 140, 3) := by decide +kernel
theorem dX7_skip_165 : decode cX7_skip 165 = .ok (.if_icmp .ge 33, 3) := by decide +kernel
theorem dX7_skip_168 : decode cX7_skip 168 = .ok (.aload_n 0, 1) := by decide +kernel
theorem dX7_skip_169 : decode cX7_skip 169 = .ok (.aload_n 0, 1) := by decide +kernel
theorem dX7_skip_170 : decode cX7_skip 170 = .ok (.getfield 38, 3) := by decide +kernel
theorem dX7_skip_173 : decode cX7_skip 173 = .ok (.aload_n 0, 1) := by decide +kernel
theorem dX7_skip_174 : decode cX7_skip 174 = .ok (.getfield 38, 3) := by decide +kernel
theorem dX7_skip_177 : decode cX7_skip 177 = .ok (.iload_n 1, 1) := by decide +kernel
theorem dX7_skip_178 : decode cX7_skip 178 = .ok (.iload 4, 2) := by decide +kernel
theorem dX7_skip_180 : decode cX7_skip 180 = .ok (.invokevirtual 122, 3) := by decide +kernel
theorem dX7_skip_183 : decode cX7_skip 183 = .ok (.invokevirtual 150, 3) := by decide +kernel
theorem dX7_skip_186 : decode cX7_skip 186 = .ok (.iload_n 2, 1) := by decide +kernel
theorem dX7_skip_187 : decode cX7_skip 187 = .ok (.iconst 1, 1) := by decide +kernel
theorem dX7_skip_188 : decode cX7_skip 188 = .ok (.iadd, 1) := by decide +kernel
theorem dX7_skip_189 : decode cX7_skip 189 = .ok (.invokevirtual 112, 3) := by decide +kernel
theorem dX7_skip_192 : decode cX7_skip 192 = .ok (.iinc 4 1, 3) := by decide +kernel
theorem dX7_skip_195 : decode cX7_skip 195 = .ok (.goto (-40), 3) := by decide +kernel
theorem dX7_skip_198 : decode cX7_skip 198 = .ok (.return_, 1) := by decide +kernel
theorem dX7_skip_199 : decode cX7_skip 199 = .ok (.return_, 1) := by decide +kernel
theorem dX7_skipItems_0 : decode cX7_skipItems 0 = .ok (.aload_n 0, 1) := by decide +kernel
theorem dX7_skipItems_1 : decode cX7_skipItems 1 = .ok (.invokevirtual 79, 3) := by decide +kernel
theorem dX7_skipItems_4 : decode cX7_skipItems 4 = .ok (.lstore_n 3, 1) := by decide +kernel
theorem dX7_skipItems_5 : decode cX7_skipItems 5 = .ok (.lload_n 3, 1) := by decide +kernel
theorem dX7_skipItems_6 : decode cX7_skipItems 6 = .ok (.lconst 0, 1) := by decide +kernel
theorem dX7_skipItems_7 : decode cX7_skipItems 7 = .ok (.lcmp, 1) := by decide +kernel
theorem dX7_skipItems_8 : decode cX7_skipItems 8 = .ok (.ifCond .ne 4, 3) := by decide +kernel
theorem dX7_skipItems_11 : decode cX7_skipItems 11 = .ok (.return_, 1) := by decide +kernel
theorem dX7_skipItems_12 : decode cX7_skipItems 12 = .ok (.iconst 0, 1) := by decide +kernel
theorem dX7_skipItems_13 : decode cX7_skipItems 13 = .ok (.istore 5, 2) := by decide +kernel
theorem dX7_skipItems_15 : decode cX7_skipItems 15 = .ok (.iload 5, 2) := by decide +kernel
theorem dX7_skipItems_17 : decode cX7_skipItems 17 = .ok (.i2l, 1) := by decide +kernel
theorem dX7_skipItems_18 : decode cX7_skipItems 18 = .ok (.lload_n 3, 1) := by decide +kernel
theorem dX7_skipItems_19 : decode cX7_skipItems 19 = .ok (.lcmp, 1) := by decide +kernel
theorem dX7_skipItems_20 : decode cX7_skipItems 20 = .ok (.ifCond .ge 51, 3) := by decide +kernel
theorem dX7_skipItems_23 : decode cX7_skipItems 23 = .ok (.iload 5, 2) := by decide +kernel
theorem dX7_skipItems_25 : decode cX7_skipItems 25 = .ok (.sipush 2000, 3) := by decide +kernel
theorem dX7_skipItems_28 : decode cX7_skipItems 28 = .ok (.if_icmp .ge 43, 3) := by decide +kernel
theorem dX7_skipItems_31 : decode cX7_skipItems 31 = .ok (.aload_n 0, 1) := by decide +kernel
theorem dX7_skipItems_32 : decode cX7_skipItems 32 = .ok (.getfield 38, 3) := by decide +kernel
theorem dX7_skipItems_35 : decode cX7_skipItems 35 = .ok (.iload_n 1, 1) := by decide +kernel
theorem dX7_skipItems_36 : decode cX7_skipItems 36 = .ok (.invokevirtual 76, 3) := by decide +kernel
theorem dX7_skipItems_39 : decode cX7_skipItems 39 = .ok (.bipush 7, 2) := by decide +kernel
theorem dX7_skipItems_41 : decode cX7_skipItems 41 = .ok (.if_icmp .ne 9, 3) := by decide +kernel
theorem dX7_skipItems_44 : decode cX7_skipItems 44 = .ok (.aload_n 0, 1) := by decide +kernel
theorem dX7_skipItems_45 : decode cX7_skipItems 45 = .ok (.iconst 5, 1) := by decide +kernel
theorem dX7_skipItems_46 : decode cX7_skipItems 46 = .ok (.iload_n 2, 1) := by decide +kernel
theorem dX7_skipItems_47 : decode cX7_skipItems 47 = .ok (.invokevirtual 112, 3) := by decide +kernel
theorem dX7_skipItems_50 : decode cX7_skipItems 50 = .ok (.aload_n 0, 1) := by decide +kernel
theorem dX7_skipItems_51 : decode cX7_skipItems 51 = .ok (.aload_n 0, 1) := by decide +kernel
theorem dX7_skipItems_52 : decode cX7_skipItems 52 = .ok (.getfield 38, 3) := by decide +kernel
theorem dX7_skipItems_55 : decode cX7_skipItems 55 = .ok (.iload_n 1, 1) := by decide +kernel
theorem dX7_skipItems_56 : decode cX7_skipItems 56 = .ok (.invokevirtual 135, 3) := by decide +kernel
theorem dX7_skipItems_59 : decode cX7_skipItems 59 = .ok (.iload_n 2, 1) := by decide +kernel
theorem dX7_skipItems_60 : decode cX7_skipItems 60 = .ok (.iconst 1, 1) := by decide +kernel
theorem dX7_skipItems_61 : decode cX7_skipItems 61 = .ok (.iadd, 1) := by decide +kernel
theorem dX7_skipItems_62 : decode cX7_skipItems 62 = .ok (.invokevirtual 112, 3) := by decide +kernel
theorem dX7_skipItems_65 : decode cX7_skipItems 65 = .ok (.iinc 5 1, 3) := by decide +kernel
theorem dX7_skipItems_68 : decode cX7_skipItems 68 = .ok (.goto (-53), 3) := by decide +kernel
theorem dX7_skipItems_71 : decode cX7_skipItems 71 = .ok (.aload_n 0, 1) := by decide +kernel
theorem dX7_skipItems_72 : decode cX7_skipItems 72 = .ok (.invokevirtual 79, 3) := by decide +kernel
theorem dX7_skipItems_75 : decode cX7_skipItems 75 = .ok (.pop2, 1) := by decide +kernel
theorem dX7_skipItems_76 : decode cX7_skipItems 76 = .ok (.return_, 1) := by decide +kernel
theorem dX3_init_0 : decode cX3_init 0 = .ok (.aload_n 0, 1) := by decide +kernel
theorem dX3_init_1 : decode cX3_init 1 = .ok (.invokespecial 5, 3) := by decide +kernel
theorem dX3_init_4 : decode cX3_init 4 = .ok (.aload_n 0, 1) := by decide +kernel
theorem dX3_init_5 : decode cX3_init 5 = .ok (.new 11, 3) := by decide +kernel
theorem dX3_init_8 : decode cX3_init 8 = .ok (.dup, 1) := by decide +kernel
theorem dX3_init_9 : decode cX3_init 9 = .ok (.sipush 17956, 3) := by decide +kernel
theorem dX3_init_12 : decode cX3_init 12 = .ok (.invokespecial 15, 3) := by decide +kernel
theorem dX3_init_15 : decode cX3_init 15 = .ok (.putfield 18, 3) := by decide +kernel
theorem dX3_init_18 : decode cX3_init 18 = .ok (.aload_n 0, 1) := by decide +kernel
theorem dX3_init_19 : decode cX3_init 19 = .ok (.new 11, 3) := by decide +kernel
theorem dX3_init_22 : decode cX3_init 22 = .ok (.dup, 1) := by decide +kernel
theorem dX3_init_23 : decode cX3_init 23 = .ok (.sipush 17956, 3) := by decide +kernel
theorem dX3_init_26 : decode cX3_init 26 = .ok (.invokespecial 15, 3) := by decide +kernel
theorem dX3_init_29 : decode cX3_init 29 = .ok (.putfield 22, 3) := by decide +kernel
theorem dX3_init_32 : decode cX3_init 32 = .ok (.return_, 1) := by decide +kernel
theorem dX3_fit_0 : decode cX3_fit 0 = .ok (.aload_n 1, 1) := by decide +kernel
theorem dX3_fit_1 : decode cX3_fit 1 = .ok (.ifnull 7, 3) := by decide +kernel
theorem dX3_fit_4 : decode cX3_fit 4 = .ok (.aload_n 2, 1) := by decide +kernel
theorem dX3_fit_5 : decode cX3_fit 5 = .ok (.ifnonnull 5, 3) := by decide +kernel
theorem dX3_fit_8 : decode cX3_fit 8 = .ok (.iconst 0, 1) := by decide +kernel
theorem dX3_fit_9 : decode cX3_fit 9 = .ok (.ireturn, 1) := by decide +kernel
theorem dX3_fit_10 : decode cX3_fit 10 = .ok (.aload_n 0, 1) := by decide +kernel
theorem dX3_fit_11 : decode cX3_fit 11 = .ok (.aload_n 1, 1) := by decide +kernel
theorem dX3_fit_12 : decode cX3_fit 12 = .ok (.putfield 25, 3) := by decide +kernel
theorem dX3_fit_15 : decode cX3_fit 15 = .ok (.aload_n 0, 1) := by decide +kernel
theorem dX3_fit_16 : decode cX3_fit 16 = .ok (.aload_n 2, 1) := by decide +kernel
theorem dX3_fit_17 : decode cX3_fit 17 = .ok (.putfield 29, 3) := by decide +kernel
theorem dX3_fit_20 : decode cX3_fit 20 = .ok (.aload_n 0, 1) := by decide +kernel
theorem dX3_fit_21 : decode cX3_fit 21 = .ok (.dup, 1) := by decide +kernel
theorem dX3_fit_22 : decode cX3_fit 22 = .ok (.getfield 32, 3) := by decide +kernel
theorem dX3_fit_25 : decode cX3_fit 25 = .ok (.iconst 1, 1) := by decide +kernel
theorem dX3_fit_26 : decode cX3_fit 26 = .ok (.iadd, 1) := by decide +kernel
theorem dX3_fit_27 : decode cX3_fit 27 = .ok (.putfield 32, 3) := by decide +kernel
theorem dX3_fit_30 : decode cX3_fit 30 = .ok (.aload_n 0, 1) := by decide +kernel
theorem dX3_fit_31 : decode cX3_fit 31 = .ok (.getfield 22, 3) := by decide +kernel
theorem dX3_fit_34 : decode cX3_fit 34 = .ok (.iconst 0, 1) := by decide +kernel
theorem dX3_fit_35 : decode cX3_fit 35 = .ok (.invokevirtual 36, 3) := by decide +kernel
theorem dX3_fit_38 : decode cX3_fit 38 = .ok (.aload_n 0, 1) := by decide +kernel
theorem dX3_fit_39 : decode cX3_fit 39 = .ok (.aload_n 0, 1) := by decide +kernel
theorem dX3_fit_40 : decode cX3_fit 40 = .ok (.getfield 25, 3) := by decide +kernel
theorem dX3_fit_43 : decode cX3_fit 43 = .ok (.invokevirtual 39, 3) := by decide +kernel
theorem dX3_fit_46 : decode cX3_fit 46 = .ok (.aload_n 0, 1) := by decide +kernel
theorem dX3_fit_47 : decode cX3_fit 47 = .ok (.getfield 29, 3) := by decide +kernel
theorem dX3_fit_50 : decode cX3_fit 50 = .ok (.invokevirtual 39, 3) := by decide +kernel
theorem dX3_fit_53 : decode cX3_fit 53 = .ok (.invokevirtual 43, 3) := by decide +kernel
theorem dX3_fit_56 : decode cX3_fit 56 = .ok (.iconst 0, 1) := by decide +kernel
theorem dX3_fit_57 : decode cX3_fit 57 = .ok (.istore_n 3, 1) := by decide +kernel
theorem dX3_fit_58 : decode cX3_fit 58 = .ok (.iload_n 3, 1) := by decide +kernel
theorem dX3_fit_59 : decode cX3_fit 59 = .ok (.sipush 17956, 3) := by decide +kernel
theorem dX3_fit_62 : decode cX3_fit 62 = .ok (.if_icmp .ge 74, 3) := by decide +kernel
theorem dX3_fit_65 : decode cX3_fit 65 = .ok (.aload_n 0, 1) := by decide +kernel
theorem dX3_fit_66 : decode cX3_fit 66 = .ok (.getfield 22, 3) := by decide +kernel
theorem dX3_fit_69 : decode cX3_fit 69 = .ok (.invokevirtual 47, 3) := by decide +kernel
theorem dX3_fit_72 : decode cX3_fit 72 = .ok (.ifCond .le 64, 3) := by decide +kernel
theorem dX3_fit_75 : decode cX3_fit 75 = .ok (.aload_n 0, 1) := by decide +kernel
theorem dX3_fit_76 : decode cX3_fit 76 = .ok (.getfield 22, 3) := by decide +kernel
theorem dX3_fit_79 : decode cX3_fit 79 = .ok (.aload_n 0, 1) := by decide +kernel
theorem dX3_fit_80 : decode cX3_fit 80 = .ok (.getfield 22, 3) := by decide +kernel
theorem dX3_fit_83 : decode cX3_fit 83 = .ok (.invokevirtual 47, 3) := by decide +kernel
theorem dX3_fit_86 : decode cX3_fit 86 = .ok (.iconst 1, 1) := by decide +kernel
theorem dX3_fit_87 : decode cX3_fit 87 = .ok (.isub, 1) := by decide +kernel
theorem dX3_fit_88 : decode cX3_fit 88 = .ok (.invokevirtual 50, 3) := by decide +kernel
theorem dX3_fit_91 : decode cX3_fit 91 = .ok (.istore 4, 2) := by decide +kernel
theorem dX3_fit_93 : decode cX3_fit 93 = .ok (.aload_n 0, 1) := by decide +kernel
theorem dX3_fit_94 : decode cX3_fit 94 = .ok (.getfield 22, 3) := by decide +kernel
theorem dX3_fit_97 : decode cX3_fit 97 = .ok (.aload_n 0, 1) := by decide +kernel
theorem dX3_fit_98 : decode cX3_fit 98 = .ok (.getfield 22, 3) := by decide +kernel
theorem dX3_fit_101 : decode cX3_fit 101 = .ok (.invokevirtual 47, 3) := by decide +kernel
theorem dX3_fit_104 : decode cX3_fit 104 = .ok (.iconst 1, 1) := by decide +kernel
theorem dX3_fit_105 : decode cX3_fit 105 = .ok (.isub, 1) := by decide +kernel
theorem dX3_fit_106 : decode cX3_fit 106 = .ok (.invokevirtual 36, 3) := by decide +kernel
theorem dX3_fit_109 : decode cX3_fit 109 = .ok (.aload_n 0, 1) := by decide +kernel
theorem dX3_fit_110 : decode cX3_fit 110 = .ok (.iload 4, 2) := by decide +kernel
theorem dX3_fit_112 : decode cX3_fit 112 = .ok (.sipush 134, 3) := by decide +kernel
theorem dX3_fit_115 : decode cX3_fit 115 = .ok (.idiv, 1) := by decide +kernel
theorem dX3_fit_116 : decode cX3_fit 116 = .ok (.iload 4, 2) := by decide +kernel
theorem dX3_fit_118 : decode cX3_fit 118 = .ok (.sipush 134, 3) := by decide +kernel
theorem dX3_fit_121 : decode cX3_fit 121 = .ok (.irem, 1) := by decide +kernel
theorem dX3_fit_122 : decode cX3_fit 122 = .ok (.invokevirtual 54, 3) := by decide +kernel
theorem dX3_fit_125 : decode cX3_fit 125 = .ok (.ifCond .ne 5, 3) := by decide +kernel
theorem dX3_fit_128 : decode cX3_fit 128 = .ok (.iconst 0, 1) := by decide +kernel
theorem dX3_fit_129 : decode cX3_fit 129 = .ok (.ireturn, 1) := by decide +kernel
theorem dX3_fit_130 : decode cX3_fit 130 = .ok (.iinc 3 1, 3) := by decide +kernel
theorem dX3_fit_133 : decode cX3_fit 133 = .ok (.goto (-75), 3) := by decide +kernel
theorem dX3_fit_136 : decode cX3_fit 136 = .ok (.iconst 1, 1) := by decide +kernel
theorem dX3_fit_137 : decode cX3_fit 137 = .ok (.ireturn, 1) := by decide +kernel
theorem dX3_ask_0 : decode cX3_ask 0 = .ok (.iload_n 1, 1) := by decide +kernel
theorem dX3_ask_1 : decode cX3_ask 1 = .ok (.sipush 134, 3) := by decide +kernel
theorem dX3_ask_4 : decode cX3_ask 4 = .ok (.imul, 1) := by decide +kernel
theorem dX3_ask_5 : decode cX3_ask 5 = .ok (.iload_n 2, 1) := by decide +kernel
theorem dX3_ask_6 : decode cX3_ask 6 = .ok (.iadd, 1) := by decide +kernel
theorem dX3_ask_7 : decode cX3_ask 7 = .ok (.istore_n 3, 1) := by decide +kernel
theorem dX3_ask_8 : decode cX3_ask 8 = .ok (.aload_n 0, 1) := by decide +kernel
theorem dX3_ask_9 : decode cX3_ask 9 = .ok (.getfield 18, 3) := by decide +kernel
theorem dX3_ask_12 : decode cX3_ask 12 = .ok (.iload_n 3, 1) := by decide +kernel
theorem dX3_ask_13 : decode cX3_ask 13 = .ok (.invokevirtual 50, 3) := by decide +kernel
theorem dX3_ask_16 : decode cX3_ask 16 = .ok (.aload_n 0, 1) := by decide +kernel
theorem dX3_ask_17 : decode cX3_ask 17 = .ok (.getfield 32, 3) := by decide +kernel
theorem dX3_ask_20 : decode cX3_ask 20 = .ok (.if_icmp .eq 24, 3) := by decide +kernel
theorem dX3_ask_23 : decode cX3_ask 23 = .ok (.aload_n 0, 1) := by decide +kernel
theorem dX3_ask_24 : decode cX3_ask 24 = .ok (.getfield 18, 3) := by decide +kernel
theorem dX3_ask_27 : decode cX3_ask 27 = .ok (.iload_n 3, 1) := by decide +kernel
theorem dX3_ask_28 : decode cX3_ask 28 = .ok (.aload_n 0, 1) := by decide +kernel
theorem dX3_ask_29 : decode cX3_ask 29 = .ok (.getfield 32, 3) := by decide +kernel
theorem dX3_ask_32 : decode cX3_ask 32 = .ok (.invokevirtual 58, 3) := by decide +kernel
theorem dX3_ask_35 : decode cX3_ask 35 = .ok (.aload_n 0, 1) := by decide +kernel
theorem dX3_ask_36 : decode cX3_ask 36 = .ok (.getfield 22, 3) := by decide +kernel
theorem dX3_ask_39 : decode cX3_ask 39 = .ok (.iload_n 3, 1) := by decide +kernel
theorem dX3_ask_40 : decode cX3_ask 40 = .ok (.invokevirtual 61, 3) := by decide +kernel
theorem dX3_ask_43 : decode cX3_ask 43 = .ok (.pop, 1) := by decide +kernel
theorem dX3_ask_44 : decode cX3_ask 44 = .ok (.return_, 1) := by decide +kernel
theorem dX3_fitBySelves_0 : decode cX3_fitBySelves 0 = .ok (.aload_n 0, 1) := by decide +kernel
theorem dX3_fitBySelves_1 : decode cX3_fitBySelves 1 = .ok (.getfield 25, 3) := by decide +kernel
theorem dX3_fitBySelves_4 : decode cX3_fitBySelves 4 = .ok (.iload_n 1, 1) := by decide +kernel
theorem dX3_fitBySelves_5 : decode cX3_fitBySelves 5 = .ok (.invokevirtual 65, 3) := by decide +kernel
theorem dX3_fitBySelves_8 : decode cX3_fitBySelves 8 = .ok (.istore_n 3, 1) := by decide +kernel
theorem dX3_fitBySelves_9 : decode cX3_fitBySelves 9 = .ok (.iload_n 3, 1) := by decide +kernel
theorem dX3_fitBySelves_10 : decode cX3_fitBySelves 10 = .ok (.bipush 8, 2) := by decide +kernel
theorem dX3_fitBySelves_12 : decode cX3_fitBySelves 12 = .ok (.if_icmp .ne 42, 3) := by decide +kernel
theorem dX3_fitBySelves_15 : decode cX3_fitBySelves 15 = .ok (.iconst 0, 1) := by decide +kernel
theorem dX3_fitBySelves_16 : decode cX3_fitBySelves 16 = .ok (.istore 4, 2) := by decide +kernel
theorem dX3_fitBySelves_18 : decode cX3_fitBySelves 18 = .ok (.iload 4, 2) := by decide +kernel
theorem dX3_fitBySelves_20 : decode cX3_fitBySelves 20 = .ok (.aload_n 0, 1) := by decide +kernel
theorem dX3_fitBySelves_21 : decode cX3_fitBySelves 21 = .ok (.getfield 25, 3) := by decide +kernel
theorem dX3_fitBySelves_24 : decode cX3_fitBySelves 24 = .ok (.iload_n 1, 1) := by decide +kernel
theorem dX3_fitBySelves_25 : decode cX3_fitBySelves 25 = .ok (.invokevirtual 68, 3) := by decide +kernel
theorem dX3_fitBySelves_28 : decode cX3_fitBySelves 28 = .ok (.if_icmp .ge 24, 3) := by decide +kernel
theorem dX3_fitBySelves_31 : decode cX3_fitBySelves 31 = .ok (.aload_n 0, 1) := by decide +kernel
theorem dX3_fitBySelves_32 : decode cX3_fitBySelves 32 = .ok (.aload_n 0, 1) := by decide +kernel
theorem dX3_fitBySelves_33 : decode cX3_fitBySelves 33 = .ok (.getfield 25, 3) := by decide +kernel
theorem dX3_fitBySelves_36 : decode cX3_fitBySelves 36 = .ok (.iload_n 1, 1) := by decide +kernel
theorem dX3_fitBySelves_37 : decode cX3_fitBySelves 37 = .ok (.iload 4, 2) := by decide +kernel
theorem dX3_fitBySelves_39 : decode cX3_fitBySelves 39 = .ok (.invokevirtual 71, 3) := by decide +kernel
theorem dX3_fitBySelves_42 : decode cX3_fitBySelves 42 = .ok (.iload_n 2, 1) := by decide +kernel
theorem dX3_fitBySelves_43 : decode cX3_fitBySelves 43 = .ok (.invokevirtual 43, 3) := by decide +kernel
theorem dX3_fitBySelves_46 : decode cX3_fitBySelves 46 = .ok (.iinc 4 1, 3) := by decide +kernel
theorem dX3_fitBySelves_49 : decode cX3_fitBySelves 49 = .ok (.goto (-31), 3) := by decide +kernel
theorem dX3_fitBySelves_52 : decode cX3_fitBySelves 52 = .ok (.iconst 1, 1) := by decide +kernel
theorem dX3_fitBySelves_53 : decode cX3_fitBySelves 53 = .ok (.ireturn, 1) := by decide +kernel
theorem dX3_fitBySelves_54 : decode cX3_fitBySelves 54 = .ok (.aload_n 0, 1) := by decide +kernel
theorem dX3_fitBySelves_55 : decode cX3_fitBySelves 55 = .ok (.getfield 29, 3) := by decide +kernel
theorem dX3_fitBySelves_58 : decode cX3_fitBySelves 58 = .ok (.iload_n 2, 1) := by decide +kernel
theorem dX3_fitBySelves_59 : decode cX3_fitBySelves 59 = .ok (.invokevirtual 65, 3) := by decide +kernel
theorem dX3_fitBySelves_62 : decode cX3_fitBySelves 62 = .ok (.bipush 8, 2) := by decide +kernel
theorem dX3_fitBySelves_64 : decode cX3_fitBySelves 64 = .ok (.if_icmp .ne 51, 3) := by decide +kernel
theorem dX3_fitBySelves_67 : decode cX3_fitBySelves 67 = .ok (.aload_n 0, 1) := by decide +kernel
theorem dX3_fitBySelves_68 : decode cX3_fitBySelves 68 = .ok (.getfield 25, 3) := by decide +kernel
theorem dX3_fitBySelves_71 : decode cX3_fitBySelves 71 = .ok (.iload_n 1, 1) := by decide +kernel
theorem dX3_fitBySelves_72 : decode cX3_fitBySelves 72 = .ok (.aload_n 0, 1) := by decide +kernel
theorem dX3_fitBySelves_73 : decode cX3_fitBySelves 73 = .ok (.getfield 29, 3) := by decide +kernel
theorem dX3_fitBySelves_76 : decode cX3_fitBySelves 76 = .ok (.iload_n 2, 1) := by decide +kernel
theorem dX3_fitBySelves_77 : decode cX3_fitBySelves 77 = .ok (.invokestatic 75, 3) := by decide +kernel
theorem dX3_fitBySelves_80 : decode cX3_fitBySelves 80 = .ok (.istore 4, 2) := by decide +kernel
theorem dX3_fitBySelves_82 : decode cX3_fitBySelves 82 = .ok (.iload 4, 2) := by decide +kernel
theorem dX3_fitBySelves_84 : decode cX3_fitBySelves 84 = .ok (.iconst (-1), 1) := by decide +kernel
theorem dX3_fitBySelves_85 : decode cX3_fitBySelves 85 = .ok (.if_icmp .eq 18, 3) := by decide +kernel
theorem dX3_fitBySelves_88 : decode cX3_fitBySelves 88 = .ok (.aload_n 0, 1) := by decide +kernel
theorem dX3_fitBySelves_89 : decode cX3_fitBySelves 89 = .ok (.iload_n 1, 1) := by decide +kernel
theorem dX3_fitBySelves_90 : decode cX3_fitBySelves 90 = .ok (.aload_n 0, 1) := by decide +kernel
theorem dX3_fitBySelves_91 : decode cX3_fitBySelves 91 = .ok (.getfield 29, 3) := by decide +kernel
theorem dX3_fitBySelves_94 : decode cX3_fitBySelves 94 = .ok (.iload_n 2, 1) := by decide +kernel
theorem dX3_fitBySelves_95 : decode cX3_fitBySelves 95 = .ok (.iload 4, 2) := by decide +kernel
theorem dX3_fitBySelves_97 : decode cX3_fitBySelves 97 = .ok (.invokevirtual 71, 3) := by decide +kernel
theorem dX3_fitBySelves_100 : decode cX3_fitBySelves 100 = .ok (.invokevirtual 43, 3) := by decide +kernel
theorem dX3_fitBySelves_103 : decode cX3_fitBySelves 103 = .ok (.iload 4, 2) := by decide +kernel
theorem dX3_fitBySelves_105 : decode cX3_fitBySelves 105 = .ok (.iconst (-1), 1) := by decide +kernel
theorem dX3_fitBySelves_106 : decode cX3_fitBySelves 106 = .ok (.if_icmp .eq 7, 3) := by decide +kernel
theorem dX3_fitBySelves_109 : decode cX3_fitBySelves 109 = .ok (.iconst 1, 1) := by decide +kernel
theorem dX3_fitBySelves_110 : decode cX3_fitBySelves 110 = .ok (.goto 4, 3) := by decide +kernel
theorem dX3_fitBySelves_113 : decode cX3_fitBySelves 113 = .ok (.iconst 0, 1) := by decide +kernel
theorem dX3_fitBySelves_114 : decode cX3_fitBySelves 114 = .ok (.ireturn, 1) := by decide +kernel
theorem dX3_fitBySelves_115 : decode cX3_fitBySelves 115 = .ok (.iload_n 3, 1) := by decide +kernel
theorem dX3_fitBySelves_116 : decode cX3_fitBySelves 116 = .ok (.bipush 6, 2) := by decide +kernel
theorem dX3_fitBySelves_118 : decode cX3_fitBySelves 118 = .ok (.if_icmp .eq 9, 3) := by decide +kernel
theorem dX3_fitBySelves_121 : decode cX3_fitBySelves 121 = .ok (.iload_n 3, 1) := by decide +kernel
theorem dX3_fitBySelves_122 : decode cX3_fitBySelves 122 = .ok (.bipush 7, 2) := by decide +kernel
theorem dX3_fitBySelves_124 : decode cX3_fitBySelves 124 = .ok (.if_icmp .ne 53, 3) := by decide +kernel
theorem dX3_fitBySelves_127 : decode cX3_fitBySelves 127 = .ok (.aload_n 0, 1) := by decide +kernel
theorem dX3_fitBySelves_128 : decode cX3_fitBySelves 128 = .ok (.getfield 29, 3) := by decide +kernel
theorem dX3_fitBySelves_131 : decode cX3_fitBySelves 131 = .ok (.iload_n 2, 1) := by decide +kernel
theorem dX3_fitBySelves_132 : decode cX3_fitBySelves 132 = .ok (.invokevirtual 65, 3) := by decide +kernel
theorem dX3_fitBySelves_135 : decode cX3_fitBySelves 135 = .ok (.iload_n 3, 1) := by decide +kernel
theorem dX3_fitBySelves_136 : decode cX3_fitBySelves 136 = .ok (.if_icmp .ne 23, 3) := by decide +kernel
theorem dX3_fitBySelves_139 : decode cX3_fitBySelves 139 = .ok (.aload_n 0, 1) := by decide +kernel
theorem dX3_fitBySelves_140 : decode cX3_fitBySelves 140 = .ok (.aload_n 0, 1) := by decide +kernel
theorem dX3_fitBySelves_141 : decode cX3_fitBySelves 141 = .ok (.getfield 25, 3) := by decide +kernel
theorem dX3_fitBySelves_144 : decode cX3_fitBySelves 144 = .ok (.iload_n 1, 1) := by decide +kernel
theorem dX3_fitBySelves_145 : decode cX3_fitBySelves 145 = .ok (.invokevirtual 79, 3) := by decide +kernel
theorem dX3_fitBySelves_148 : decode cX3_fitBySelves 148 = .ok (.aload_n 0, 1) := by decide +kernel
theorem dX3_fitBySelves_149 : decode cX3_fitBySelves 149 = .ok (.getfield 29, 3) := by decide +kernel
theorem dX3_fitBySelves_152 : decode cX3_fitBySelves 152 = .ok (.iload_n 2, 1) := by decide +kernel
theorem dX3_fitBySelves_153 : decode cX3_fitBySelves 153 = .ok (.invokevirtual 79, 3) := by decide +kernel
theorem dX3_fitBySelves_156 : decode cX3_fitBySelves 156 = .ok (.invokevirtual 43, 3) := by decide +kernel
theorem dX3_fitBySelves_159 : decode cX3_fitBySelves 159 = .ok (.aload_n 0, 1) := by decide +kernel
theorem dX3_fitBySelves_160 : decode cX3_fitBySelves 160 = .ok (.getfield 29, 3) := by decide +kernel
theorem dX3_fitBySelves_163 : decode cX3_fitBySelves 163 = .ok (.iload_n 2, 1) := by decide +kernel
theorem dX3_fitBySelves_164 : decode cX3_fitBySelves 164 = .ok (.invokevirtual 65, 3) := by decide +kernel
theorem dX3_fitBySelves_167 : decode cX3_fitBySelves 167 = .ok (.iload_n 3, 1) := by decide +kernel
theorem dX3_fitBySelves_168 : decode cX3_fitBySelves 168 = .ok (.if_icmp .ne 7, 3) := by decide +kernel
theorem dX3_fitBySelves_171 : decode cX3_fitBySelves 171 = .ok (.iconst 1, 1) := by decide +kernel
theorem dX3_fitBySelves_172 : decode cX3_fitBySelves 172 = .ok (.goto 4, 3) := by decide +kernel
theorem dX3_fitBySelves_175 : decode cX3_fitBySelves 175 = .ok (.iconst 0, 1) := by decide +kernel
theorem dX3_fitBySelves_176 : decode cX3_fitBySelves 176 = .ok (.ireturn, 1) := by decide +kernel
theorem dX3_fitBySelves_177 : decode cX3_fitBySelves 177 = .ok (.aload_n 0, 1) := by decide +kernel
theorem dX3_fitBySelves_178 : decode cX3_fitBySelves 178 = .ok (.getfield 25, 3) := by decide +kernel
theorem dX3_fitBySelves_181 : decode cX3_fitBySelves 181 = .ok (.iload_n 1, 1) := by decide +kernel
theorem dX3_fitBySelves_182 : decode cX3_fitBySelves 182 = .ok (.aload_n 0, 1) := by decide +kernel
theorem dX3_fitBySelves_183 : decode cX3_fitBySelves 183 = .ok (.getfield 29, 3) := by decide +kernel
theorem dX3_fitBySelves_186 : decode cX3_fitBySelves 186 = .ok (.iload_n 2, 1) := by decide +kernel
theorem dX3_fitBySelves_187 : decode cX3_fitBySelves 187 = .ok (.invokestatic 82, 3) := by decide +kernel
theorem dX3_fitBySelves_190 : decode cX3_fitBySelves 190 = .ok (.ifCond .ne 5, 3) := by decide +kernel
theorem dX3_fitBySelves_193 : decode cX3_fitBySelves 193 = .ok (.iconst 0, 1) := by decide +kernel
theorem dX3_fitBySelves_194 : decode cX3_fitBySelves 194 = .ok (.ireturn, 1) := by decide +kernel
theorem dX3_fitBySelves_195 : decode cX3_fitBySelves 195 = .ok (.iload_n 3, 1) := by decide +kernel
theorem dX3_fitBySelves_196 : decode cX3_fitBySelves 196 = .ok (.bipush 10, 2) := by decide +kernel
theorem dX3_fitBySelves_198 : decode cX3_fitBySelves 198 = .ok (.if_icmp .ne 30, 3) := by decide +kernel
theorem dX3_fitBySelves_201 : decode cX3_fitBySelves 201 = .ok (.aload_n 0, 1) := by decide +kernel
theorem dX3_fitBySelves_202 : decode cX3_fitBySelves 202 = .ok (.getfield 29, 3) := by decide +kernel
theorem dX3_fitBySelves_205 : decode cX3_fitBySelves 205 = .ok (.iload_n 2, 1) := by decide +kernel
theorem dX3_fitBySelves_206 : decode cX3_fitBySelves 206 = .ok (.invokevirtual 86, 3) := by decide +kernel
theorem dX3_fitBySelves_209 : decode cX3_fitBySelves 209 = .ok (.iconst (-1), 1) := by decide +kernel
theorem dX3_fitBySelves_210 : decode cX3_fitBySelves 210 = .ok (.if_icmp .ne 12, 3) := by decide +kernel
theorem dX3_fitBySelves_213 : decode cX3_fitBySelves 213 = .ok (.aload_n 0, 1) := by decide +kernel
theorem dX3_fitBySelves_214 : decode cX3_fitBySelves 214 = .ok (.iload_n 1, 1) := by decide +kernel
theorem dX3_fitBySelves_215 : decode cX3_fitBySelves 215 = .ok (.iload_n 2, 1) := by decide +kernel
theorem dX3_fitBySelves_216 : decode cX3_fitBySelves 216 = .ok (.invokevirtual 89, 3) := by decide +kernel
theorem dX3_fitBySelves_219 : decode cX3_fitBySelves 219 = .ok (.ifCond .eq 7, 3) := by decide +kernel
theorem dX3_fitBySelves_222 : decode cX3_fitBySelves 222 = .ok (.iconst 1, 1) := by decide +kernel
theorem dX3_fitBySelves_223 : decode cX3_fitBySelves 223 = .ok (.goto 4, 3) := by decide +kernel
theorem dX3_fitBySelves_226 : decode cX3_fitBySelves 226 = .ok (.iconst 0, 1) := by decide +kernel
theorem dX3_fitBySelves_227 : decode cX3_fitBySelves 227 = .ok (.ireturn, 1) := by decide +kernel
theorem dX3_fitBySelves_228 : decode cX3_fitBySelves 228 = .ok (.iload_n 3, 1) := by decide +kernel
theorem dX3_fitBySelves_229 : decode cX3_fitBySelves 229 = .ok (.bipush 11, 2) := by decide +kernel
theorem dX3_fitBySelves_231 : decode cX3_fitBySelves 231 = .ok (.if_icmp .ne 12, 3) := by decide +kernel
theorem dX3_fitBySelves_234 : decode cX3_fitBySelves 234 = .ok (.aload_n 0, 1) := by decide +kernel
theorem dX3_fitBySelves_235 : decode cX3_fitBySelves 235 = .ok (.iload_n 1, 1) := by decide +kernel
theorem dX3_fitBySelves_236 : decode cX3_fitBySelves 236 = .ok (.iload_n 2, 1) := by decide +kernel
theorem dX3_fitBySelves_237 : decode cX3_fitBySelves 237 = .ok (.invokevirtual 92, 3) := by decide +kernel
theorem dX3_fitBySelves_240 : decode cX3_fitBySelves 240 = .ok (.ifCond .eq 7, 3) := by decide +kernel
theorem dX3_fitBySelves_243 : decode cX3_fitBySelves 243 = .ok (.iconst 1, 1) := by decide +kernel
theorem dX3_fitBySelves_244 : decode cX3_fitBySelves 244 = .ok (.goto 4, 3) := by decide +kernel
theorem dX3_fitBySelves_247 : decode cX3_fitBySelves 247 = .ok (.iconst 0, 1) := by decide +kernel
theorem dX3_fitBySelves_248 : decode cX3_fitBySelves 248 = .ok (.ireturn, 1) := by decide +kernel
theorem dX3_hasAllSymbols_0 : decode cX3_hasAllSymbols 0 = .ok (.iconst 0, 1) := by decide +kernel
theorem dX3_hasAllSymbols_1 : decode cX3_hasAllSymbols 1 = .ok (.istore_n 3, 1) := by decide +kernel
theorem dX3_hasAllSymbols_2 : decode cX3_hasAllSymbols 2 = .ok (.iload_n 3, 1) := by decide +kernel
theorem dX3_hasAllSymbols_3 : decode cX3_hasAllSymbols 3 = .ok (.aload_n 0, 1) := by decide +kernel
theorem dX3_hasAllSymbols_4 : decode cX3_hasAllSymbols 4 = .ok (.getfield 25, 3) := by decide +kernel
theorem dX3_hasAllSymbols_7 : decode cX3_hasAllSymbols 7 = .ok (.iload_n 1, 1) := by decide +kernel
theorem dX3_hasAllSymbols_8 : decode cX3_hasAllSymbols 8 = .ok (.invokevirtual 68, 3) := by decide +kernel
theorem dX3_hasAllSymbols_11 : decode cX3_hasAllSymbols 11 = .ok (.if_icmp .ge 46, 3) := by decide +kernel
theorem dX3_hasAllSymbols_14 : decode cX3_hasAllSymbols 14 = .ok (.aload_n 0, 1) := by decide +kernel
theorem dX3_hasAllSymbols_15 : decode cX3_hasAllSymbols 15 = .ok (.getfield 29, 3) := by decide +kernel
theorem dX3_hasAllSymbols_18 : decode cX3_hasAllSymbols 18 = .ok (.iload_n 2, 1) := by decide +kernel
theorem dX3_hasAllSymbols_19 : decode cX3_hasAllSymbols 19 = .ok (.aload_n 0, 1) := by decide +kernel
theorem dX3_hasAllSymbols_20 : decode cX3_hasAllSymbols 20 = .ok (.getfield 25, 3) := by decide +kernel
theorem dX3_hasAllSymbols_23 : decode cX3_hasAllSymbols 23 = .ok (.invokevirtual 95, 3) := by decide +kernel
theorem dX3_hasAllSymbols_26 : decode cX3_hasAllSymbols 26 = .ok (.aload_n 0, 1) := by decide +kernel
theorem dX3_hasAllSymbols_27 : decode cX3_hasAllSymbols 27 = .ok (.getfield 25, 3) := by decide +kernel
theorem dX3_hasAllSymbols_30 : decode cX3_hasAllSymbols 30 = .ok (.aload_n 0, 1) := by decide +kernel
theorem dX3_hasAllSymbols_31 : decode cX3_hasAllSymbols 31 = .ok (.getfield 25, 3) := by decide +kernel
theorem dX3_hasAllSymbols_34 : decode cX3_hasAllSymbols 34 = .ok (.iload_n 1, 1) := by decide +kernel
theorem dX3_hasAllSymbols_35 : decode cX3_hasAllSymbols 35 = .ok (.iload_n 3, 1) := by decide +kernel
theorem dX3_hasAllSymbols_36 : decode cX3_hasAllSymbols 36 = .ok (.invokevirtual 99, 3) := by decide +kernel
theorem dX3_hasAllSymbols_39 : decode cX3_hasAllSymbols 39 = .ok (.invokevirtual 102, 3) := by decide +kernel
theorem dX3_hasAllSymbols_42 : decode cX3_hasAllSymbols 42 = .ok (.invokevirtual 105, 3) := by decide +kernel
theorem dX3_hasAllSymbols_45 : decode cX3_hasAllSymbols 45 = .ok (.iconst (-1), 1) := by decide +kernel
theorem dX3_hasAllSymbols_46 : decode cX3_hasAllSymbols 46 = .ok (.if_icmp .ne 5, 3) := by decide +kernel
theorem dX3_hasAllSymbols_49 : decode cX3_hasAllSymbols 49 = .ok (.iconst 0, 1) := by decide +kernel
theorem dX3_hasAllSymbols_50 : decode cX3_hasAllSymbols 50 = .ok (.ireturn, 1) := by decide +kernel
theorem dX3_hasAllSymbols_51 : decode cX3_hasAllSymbols 51 = .ok (.iinc 3 1, 3) := by decide +kernel
theorem dX3_hasAllSymbols_54 : decode cX3_hasAllSymbols 54 = .ok (.goto (-52), 3) := by decide +kernel
theorem dX3_hasAllSymbols_57 : decode cX3_hasAllSymbols 57 = .ok (.iconst 1, 1) := by decide +kernel
theorem dX3_hasAllSymbols_58 : decode cX3_hasAllSymbols 58 = .ok (.ireturn, 1) := by decide +kernel
theorem dX3_fitFields_0 : decode cX3_fitFields 0 = .ok (.iconst 0, 1) := by decide +kernel
theorem dX3_fitFields_1 : decode cX3_fitFields 1 = .ok (.istore_n 3, 1) := by decide +kernel
theorem dX3_fitFields_2 : decode cX3_fitFields 2 = .ok (.iload_n 3, 1) := by decide +kernel
theorem dX3_fitFields_3 : decode cX3_fitFields 3 = .ok (.aload_n 0, 1) := by decide +kernel
theorem dX3_fitFields_4 : decode cX3_fitFields 4 = .ok (.getfield 29, 3) := by decide +kernel
theorem dX3_fitFields_7 : decode cX3_fitFields 7 = .ok (.iload_n 2, 1) := by decide +kernel
theorem dX3_fitFields_8 : decode cX3_fitFields 8 = .ok (.invokevirtual 68, 3) := by decide +kernel
theorem dX3_fitFields_11 : decode cX3_fitFields 11 = .ok (.if_icmp .ge 99, 3) := by decide +kernel
theorem dX3_fitFields_14 : decode cX3_fitFields 14 = .ok (.aload_n 0, 1) := by decide +kernel
theorem dX3_fitFields_15 : decode cX3_fitFields 15 = .ok (.getfield 29, 3) := by decide +kernel
theorem dX3_fitFields_18 : decode cX3_fitFields 18 = .ok (.iload_n 2, 1) := by decide +kernel
theorem dX3_fitFields_19 : decode cX3_fitFields 19 = .ok (.iload_n 3, 1) := by decide +kernel
theorem dX3_fitFields_20 : decode cX3_fitFields 20 = .ok (.invokevirtual 99, 3) := by decide +kernel
theorem dX3_fitFields_23 : decode cX3_fitFields 23 = .ok (.istore 4, 2) := by decide +kernel
theorem dX3_fitFields_25 : decode cX3_fitFields 25 = .ok (.aload_n 0, 1) := by decide +kernel
theorem dX3_fitFields_26 : decode cX3_fitFields 26 = .ok (.getfield 25, 3) := by decide +kernel
theorem dX3_fitFields_29 : decode cX3_fitFields 29 = .ok (.iload_n 1, 1) := by decide +kernel
theorem dX3_fitFields_30 : decode cX3_fitFields 30 = .ok (.aload_n 0, 1) := by decide +kernel
theorem dX3_fitFields_31 : decode cX3_fitFields 31 = .ok (.getfield 29, 3) := by decide +kernel
theorem dX3_fitFields_34 : decode cX3_fitFields 34 = .ok (.invokevirtual 95, 3) := by decide +kernel
theorem dX3_fitFields_37 : decode cX3_fitFields 37 = .ok (.aload_n 0, 1) := by decide +kernel
theorem dX3_fitFields_38 : decode cX3_fitFields 38 = .ok (.getfield 29, 3) := by decide +kernel
theorem dX3_fitFields_41 : decode cX3_fitFields 41 = .ok (.iload 4, 2) := by decide +kernel
theorem dX3_fitFields_43 : decode cX3_fitFields 43 = .ok (.invokevirtual 102, 3) := by decide +kernel
theorem dX3_fitFields_46 : decode cX3_fitFields 46 = .ok (.invokevirtual 105, 3) := by decide +kernel
theorem dX3_fitFields_49 : decode cX3_fitFields 49 = .ok (.istore 5, 2) := by decide +kernel
theorem dX3_fitFields_51 : decode cX3_fitFields 51 = .ok (.iload 5, 2) := by decide +kernel
theorem dX3_fitFields_53 : decode cX3_fitFields 53 = .ok (.iconst (-1), 1) := by decide +kernel
theorem dX3_fitFields_54 : decode cX3_fitFields 54 = .ok (.if_icmp .eq 36, 3) := by decide +kernel
theorem dX3_fitFields_57 : decode cX3_fitFields 57 = .ok (.aload_n 0, 1) := by decide +kernel
theorem dX3_fitFields_58 : decode cX3_fitFields 58 = .ok (.aload_n 0, 1) := by decide +kernel
theorem dX3_fitFields_59 : decode cX3_fitFields 59 = .ok (.getfield 25, 3) := by decide +kernel
theorem dX3_fitFields_62 : decode cX3_fitFields 62 = .ok (.aload_n 0, 1) := by decide +kernel
theorem dX3_fitFields_63 : decode cX3_fitFields 63 = .ok (.getfield 25, 3) := by decide +kernel
theorem dX3_fitFields_66 : decode cX3_fitFields 66 = .ok (.iload_n 1, 1) := by decide +kernel
theorem dX3_fitFields_67 : decode cX3_fitFields 67 = .ok (.iload 5, 2) := by decide +kernel
theorem dX3_fitFields_69 : decode cX3_fitFields 69 = .ok (.invokevirtual 99, 3) := by decide +kernel
theorem dX3_fitFields_72 : decode cX3_fitFields 72 = .ok (.invokevirtual 109, 3) := by decide +kernel
theorem dX3_fitFields_75 : decode cX3_fitFields 75 = .ok (.aload_n 0, 1) := by decide +kernel
theorem dX3_fitFields_76 : decode cX3_fitFields 76 = .ok (.getfield 29, 3) := by decide +kernel
theorem dX3_fitFields_79 : decode cX3_fitFields 79 = .ok (.iload 4, 2) := by decide +kernel
theorem dX3_fitFields_81 : decode cX3_fitFields 81 = .ok (.invokevirtual 109, 3) := by decide +kernel
theorem dX3_fitFields_84 : decode cX3_fitFields 84 = .ok (.invokevirtual 43, 3) := by decide +kernel
theorem dX3_fitFields_87 : decode cX3_fitFields 87 = .ok (.goto 17, 3) := by decide +kernel
theorem dX3_fitFields_90 : decode cX3_fitFields 90 = .ok (.aload_n 0, 1) := by decide +kernel
theorem dX3_fitFields_91 : decode cX3_fitFields 91 = .ok (.getfield 29, 3) := by decide +kernel
theorem dX3_fitFields_94 : decode cX3_fitFields 94 = .ok (.iload 4, 2) := by decide +kernel
theorem dX3_fitFields_96 : decode cX3_fitFields 96 = .ok (.invokevirtual 112, 3) := by decide +kernel
theorem dX3_fitFields_99 : decode cX3_fitFields 99 = .ok (.ifCond .ne 5, 3) := by decide +kernel
theorem dX3_fitFields_102 : decode cX3_fitFields 102 = .ok (.iconst 0, 1) := by decide +kernel
theorem dX3_fitFields_103 : decode cX3_fitFields 103 = .ok (.ireturn, 1) := by decide +kernel
theorem dX3_fitFields_104 : decode cX3_fitFields 104 = .ok (.iinc 3 1, 3) := by decide +kernel
theorem dX3_fitFields_107 : decode cX3_fitFields 107 = .ok (.goto (-105), 3) := by decide +kernel
theorem dX3_fitFields_110 : decode cX3_fitFields 110 = .ok (.iconst 1, 1) := by decide +kernel
theorem dX3_fitFields_111 : decode cX3_fitFields 111 = .ok (.ireturn, 1) := by decide +kernel
