theorem dX11_readVarint_62 : decode cX11_readVarint 62 = .ok (.lushr, 1) := by decide +kernel
theorem dX11_readVarint_63 : decode cX11_readVarint 63 = .ok (.lload_n 1, 1) := by decide +kernel
theorem dX11_readVarint_64 : decode cX11_readVarint 64 = .ok (.lconst 1, 1) := by decide +kernel
theorem dX11_readVarint_65 : decode cX11_readVarint 65 = .ok (.land, 1) := by decide +kernel
theorem dX11_readVarint_66 : decode cX11_readVarint 66 = .ok (.lneg, 1) := by decide +kernel
theorem dX11_readVarint_67 : decode cX11_readVarint 67 = .ok (.lxor, 1) := by decide +kernel
theorem dX11_readVarint_68 : decode cX11_readVarint 68 = .ok (.lreturn, 1) := by decide +kernel
theorem dX11_copyBytes_0 : decode cX11_copyBytes 0 = .ok (.lconst 0, 1) := by decide +kernel
theorem dX11_copyBytes_1 : decode cX11_copyBytes 1 = .ok (.lstore 4, 2) := by decide +kernel
theorem dX11_copyBytes_3 : decode cX11_copyBytes 3 = .ok (.lload 4, 2) := by decide +kernel
theorem dX11_copyBytes_5 : decode cX11_copyBytes 5 = .ok (.lload_n 1, 1) := by decide +kernel
theorem dX11_copyBytes_6 : decode cX11_copyBytes 6 = .ok (.lcmp, 1) := by decide +kernel
theorem dX11_copyBytes_7 : decode cX11_copyBytes 7 = .ok (.ifCond .ge 39, 3) := by decide +kernel
theorem dX11_copyBytes_10 : decode cX11_copyBytes 10 = .ok (.iload_n 3, 1) := by decide +kernel
theorem dX11_copyBytes_11 : decode cX11_copyBytes 11 = .ok (.ifCond .eq 16, 3) := by decide +kernel
theorem dX11_copyBytes_14 : decode cX11_copyBytes 14 = .ok (.aload_n 0, 1) := by decide +kernel
theorem dX11_copyBytes_15 : decode cX11_copyBytes 15 = .ok (.aload_n 0, 1) := by decide +kernel
theorem dX11_copyBytes_16 : decode cX11_copyBytes 16 = .ok (.getfield 35, 3) := by decide +kernel
theorem dX11_copyBytes_19 : decode cX11_copyBytes 19 = .ok (.aload_n 0, 1) := by decide +kernel
theorem dX11_copyBytes_20 : decode cX11_copyBytes 20 = .ok (.getfield 253, 3) := by decide +kernel
theorem dX11_copyBytes_23 : decode cX11_copyBytes 23 = .ok (.baload, 1) := by decide +kernel
theorem dX11_copyBytes_24 : decode cX11_copyBytes 24 = .ok (.invokevirtual 250, 3) := by decide +kernel
theorem dX11_copyBytes_27 : decode cX11_copyBytes 27 = .ok (.aload_n 0, 1) := by decide +kernel
theorem dX11_copyBytes_28 : decode cX11_copyBytes 28 = .ok (.dup, 1) := by decide +kernel
theorem dX11_copyBytes_29 : decode cX11_copyBytes 29 = .ok (.getfield 253, 3) := by decide +kernel
theorem dX11_copyBytes_32 : decode cX11_copyBytes 32 = .ok (.iconst 1, 1) := by decide +kernel
theorem dX11_copyBytes_33 : decode cX11_copyBytes 33 = .ok (.iadd, 1) := by decide +kernel
theorem dX11_copyBytes_34 : decode cX11_copyBytes 34 = .ok (.putfield 253, 3) := by decide +kernel
theorem dX11_copyBytes_37 : decode cX11_copyBytes 37 = .ok (.lload 4, 2) := by decide +kernel
theorem dX11_copyBytes_39 : decode cX11_copyBytes 39 = .ok (.lconst 1, 1) := by decide +kernel
theorem dX11_copyBytes_40 : decode cX11_copyBytes 40 = .ok (.ladd, 1) := by decide +kernel
theorem dX11_copyBytes_41 : decode cX11_copyBytes 41 = .ok (.lstore 4, 2) := by decide +kernel
theorem dX11_copyBytes_43 : decode cX11_copyBytes 43 = .ok (.goto (-40), 3) := by decide +kernel
theorem dX11_copyBytes_46 : decode cX11_copyBytes 46 = .ok (.return_, 1) := by decide +kernel
theorem dX11_skip_0 : decode cX11_skip 0 = .ok (.aload_n 1, 1) := by decide +kernel
theorem dX11_skip_1 : decode cX11_skip 1 = .ok (.getfield 132, 3) := by decide +kernel
theorem dX11_skip_4 : decode cX11_skip 4 = .ok (.iload_n 2, 1) := by decide +kernel
theorem dX11_skip_5 : decode cX11_skip 5 = .ok (.iaload, 1) := by decide +kernel
theorem dX11_skip_6 : decode cX11_skip 6 = .ok (.tableswitch 171 0 11 #[62, 65, 78, 78, 86, 86, 171, 171, 113, 98, 78, 136], 62) := by decide +kernel
theorem dX11_skip_68 : decode cX11_skip 68 = .ok (.goto 180, 3) := by decide +kernel
theorem dX11_skip_71 : decode cX11_skip 71 = .ok (.aload_n 0, 1) := by decide +kernel
theorem dX11_skip_72 : decode cX11_skip 72 = .ok (.dup, 1) := by decide +kernel
theorem dX11_skip_73 : decode cX11_skip 73 = .ok (.getfield 253, 3) := by decide +kernel
theorem dX11_skip_76 : decode cX11_skip 76 = .ok (.iconst 1, 1) := by decide +kernel
theorem dX11_skip_77 : decode cX11_skip 77 = .ok (.iadd, 1) := by decide +kernel
theorem dX11_skip_78 : decode cX11_skip 78 = .ok (.putfield 253, 3) := by decide +kernel
theorem dX11_skip_81 : decode cX11_skip 81 = .ok (.goto 167, 3) := by decide +kernel
theorem dX11_skip_84 : decode cX11_skip 84 = .ok (.aload_n 0, 1) := by decide +kernel
theorem dX11_skip_85 : decode cX11_skip 85 = .ok (.invokevirtual 256, 3) := by decide +kernel
theorem dX11_skip_88 : decode cX11_skip 88 = .ok (.pop2, 1) := by decide +kernel
theorem dX11_skip_89 : decode cX11_skip 89 = .ok (.goto 159, 3) := by decide +kernel
theorem dX11_skip_92 : decode cX11_skip 92 = .ok (.aload_n 0, 1) := by decide +kernel
theorem dX11_skip_93 : decode cX11_skip 93 = .ok (.aload_n 0, 1) := by decide +kernel
theorem dX11_skip_94 : decode cX11_skip 94 = .ok (.invokevirtual 256, 3) := by decide +kernel
theorem dX11_skip_97 : decode cX11_skip 97 = .ok (.iconst 0, 1) := by decide +kernel
theorem dX11_skip_98 : decode cX11_skip 98 = .ok (.invokevirtual 259, 3) := by decide +kernel
theorem dX11_skip_101 : decode cX11_skip 101 = .ok (.goto 147, 3) := by decide +kernel
theorem dX11_skip_104 : decode cX11_skip 104 = .ok (.aload_n 0, 1) := by decide +kernel
theorem dX11_skip_105 : decode cX11_skip 105 = .ok (.aload_n 1, 1) := by decide +kernel
theorem dX11_skip_106 : decode cX11_skip 106 = .ok (.getfield 143, 3) := by decide +kernel
theorem dX11_skip_109 : decode cX11_skip 109 = .ok (.iload_n 2, 1) := by decide +kernel
theorem dX11_skip_110 : decode cX11_skip 110 = .ok (.iaload, 1) := by decide +kernel
theorem dX11_skip_111 : decode cX11_skip 111 = .ok (.i2l, 1) := by decide +kernel
theorem dX11_skip_112 : decode cX11_skip 112 = .ok (.iconst 0, 1) := by decide +kernel
theorem dX11_skip_113 : decode cX11_skip 113 = .ok (.invokevirtual 259, 3) := by decide +kernel
theorem dX11_skip_116 : decode cX11_skip 116 = .ok (.goto 132, 3) := by decide +kernel
theorem dX11_skip_119 : decode cX11_skip 119 = .ok (.aload_n 0, 1) := by decide +kernel
theorem dX11_skip_120 : decode cX11_skip 120 = .ok (.aload_n 1, 1) := by decide +kernel
theorem dX11_skip_121 : decode cX11_skip 121 = .ok (.aload_n 1, 1) := by decide +kernel
theorem dX11_skip_122 : decode cX11_skip 122 = .ok (.getfield 149, 3) := by decide +kernel
theorem dX11_skip_125 : decode cX11_skip 125 = .ok (.aload_n 1, 1) := by decide +kernel
theorem dX11_skip_126 : decode cX11_skip 126 = .ok (.iload_n 2, 1) := by decide +kernel
theorem dX11_skip_127 : decode cX11_skip 127 = .ok (.aload_n 0, 1) := by decide +kernel
theorem dX11_skip_128 : decode cX11_skip 128 = .ok (.invokevirtual 256, 3) := by decide +kernel
theorem dX11_skip_131 : decode cX11_skip 131 = .ok (.l2i, 1) := by decide +kernel
theorem dX11_skip_132 : decode cX11_skip 132 = .ok (.invokevirtual 152, 3) := by decide +kernel
theorem dX11_skip_135 : decode cX11_skip 135 = .ok (.iaload, 1) := by decide +kernel
theorem dX11_skip_136 : decode cX11_skip 136 = .ok (.invokevirtual 263, 3) := by decide +kernel
theorem dX11_skip_139 : decode cX11_skip 139 = .ok (.goto 109, 3) := by decide +kernel
theorem dX11_skip_142 : decode cX11_skip 142 = .ok (.aload_n 1, 1) := by decide +kernel
theorem dX11_skip_143 : decode cX11_skip 143 = .ok (.getfield 160, 3) := by decide +kernel
theorem dX11_skip_146 : decode cX11_skip 146 = .ok (.iload_n 2, 1) := by decide +kernel
theorem dX11_skip_147 : decode cX11_skip 147 = .ok (.iaload, 1) := by decide +kernel
theorem dX11_skip_148 : decode cX11_skip 148 = .ok (.istore_n 3, 1) := by decide +kernel
theorem dX11_skip_149 : decode cX11_skip 149 = .ok (.iload_n 3, 1) := by decide +kernel
theorem dX11_skip_150 : decode cX11_skip 150 = .ok (.ifCond .lt 24, 3) := by decide +kernel
theorem dX11_skip_153 : decode cX11_skip 153 = .ok (.aload_n 0, 1) := by decide +kernel
theorem dX11_skip_154 : decode cX11_skip 154 = .ok (.aload_n 1, 1) := by decide +kernel
theorem dX11_skip_155 : decode cX11_skip 155 = .ok (.aload_n 1, 1) := by decide +kernel
theorem dX11_skip_156 : decode cX11_skip 156 = .ok (.getfield 149, 3) := by decide +kernel
theorem dX11_skip_159 : decode cX11_skip 159 = .ok (.iload_n 3, 1) := by decide +kernel
theorem dX11_skip_160 : decode cX11_skip 160 = .ok (.iaload, 1) := by decide +kernel
theorem dX11_skip_161 : decode cX11_skip 161 = .ok (.invokevirtual 263, 3) := by decide +kernel
theorem dX11_skip_164 : decode cX11_skip 164 = .ok (.aload_n 1, 1) := by decide +kernel
theorem dX11_skip_165 : decode cX11_skip 165 = .ok (.getfield 163, 3) := by decide +kernel
theorem dX11_skip_168 : decode cX11_skip 168 = .ok (.iload_n 3, 1) := by decide +kernel
theorem dX11_skip_169 : decode cX11_skip 169 = .ok (.iaload, 1) := by decide +kernel
theorem dX11_skip_170 : decode cX11_skip 170 = .ok (.istore_n 3, 1) := by decide +kernel
theorem dX11_skip_171 : decode cX11_skip 171 = .ok (.goto (-22), 3) := by decide +kernel
theorem dX11_skip_174 : decode cX11_skip 174 = .ok (.goto 74, 3) := by decide +kernel
theorem dX11_skip_177 : decode cX11_skip 177 = .ok (.aload_n 0, 1) := by decide +kernel
theorem dX11_skip_178 : decode cX11_skip 178 = .ok (.invokevirtual 256, 3) := by decide +kernel
theorem dX11_skip_181 : decode cX11_skip 181 = .ok (.lstore_n 3, 1) := by decide +kernel
theorem dX11_skip_182 : decode cX11_skip 182 = .ok (.lconst 0, 1) := by decide +kernel
theorem dX11_skip_183 : decode cX11_skip 183 = .ok (.lstore 5, 2) := by decide +kernel
theorem dX11_skip_185 : decode cX11_skip 185 = .ok (.lload 5, 2) := by decide +kernel
theorem dX11_skip_187 : decode cX11_skip 187 = .ok (.lload_n 3, 1) := by decide +kernel
theorem dX11_skip_188 : decode cX11_skip 188 = .ok (.lcmp, 1) := by decide +kernel
theorem dX11_skip_189 : decode cX11_skip 189 = .ok (.ifCond .ge 48, 3) := by decide +kernel
theorem dX11_skip_192 : decode cX11_skip 192 = .ok (.aload_n 1, 1) := by decide +kernel
theorem dX11_skip_193 : decode cX11_skip 193 = .ok (.getfield 132, 3) := by decide +kernel
theorem dX11_skip_196 : decode cX11_skip 196 = .ok (.iload_n 2, 1) := by decide +kernel
theorem dX11_skip_197 : decode cX11_skip 197 = .ok (.iaload, 1) := by decide +kernel
theorem dX11_skip_198 : decode cX11_skip 198 = .ok (.bipush 7, 2) := by decide +kernel
theorem dX11_skip_200 : decode cX11_skip 200 = .ok (.if_icmp .ne 12, 3) := by decide +kernel
theorem dX11_skip_203 : decode cX11_skip 203 = .ok (.aload_n 0, 1) := by decide +kernel
theorem dX11_skip_204 : decode cX11_skip 204 = .ok (.aload_n 0, 1) := by decide +kernel
theorem dX11_skip_205 : decode cX11_skip 205 = .ok (.invokevirtual 256, 3) := by decide +kernel
theorem dX11_skip_208 : decode cX11_skip 208 = .ok (.iconst 0, 1) := by decide +kernel
theorem dX11_skip_209 : decode cX11_skip 209 = .ok (.invokevirtual 259, 3) := by decide +kernel
theorem dX11_skip_212 : decode cX11_skip 212 = .ok (.aload_n 0, 1) := by decide +kernel
theorem dX11_skip_213 : decode cX11_skip 213 = .ok (.aload_n 1, 1) := by decide +kernel
theorem dX11_skip_214 : decode cX11_skip 214 = .ok (.aload_n 1, 1) := by decide +kernel
theorem dX11_skip_215 : decode cX11_skip 215 = .ok (.getfield 149, 3) := by decide +kernel
theorem dX11_skip_218 : decode cX11_skip 218 = .ok (.aload_n 1, 1) := by decide +kernel
theorem dX11_skip_219 : decode cX11_skip 219 = .ok (.getfield 160, 3) := by decide +kernel
theorem dX11_skip_222 : decode cX11_skip 222 = .ok (.iload_n 2, 1) := by decide +kernel
theorem dX11_skip_223 : decode cX11_skip 223 = .ok (.iaload, 1) := by decide +kernel
theorem dX11_skip_224 : decode cX11_skip 224 = .ok (.iaload, 1) := by decide +kernel
theorem dX11_skip_225 : decode cX11_skip 225 = .ok (.invokevirtual 263, 3) := by decide +kernel
theorem dX11_skip_228 : decode cX11_skip 228 = .ok (.lload 5, 2) := by decide +kernel
theorem dX11_skip_230 : decode cX11_skip 230 = .ok (.lconst 1, 1) := by decide +kernel
theorem dX11_skip_231 : decode cX11_skip 231 = .ok (.ladd, 1) := by decide +kernel
theorem dX11_skip_232 : decode cX11_skip 232 = .ok (.lstore 5, 2) := by decide +kernel
theorem dX11_skip_234 : decode cX11_skip 234 = .ok (.goto (-49), 3) := by decide +kernel
theorem dX11_skip_237 : decode cX11_skip 237 = .ok (.lload_n 3, 1) := by decide +kernel
theorem dX11_skip_238 : decode cX11_skip 238 = .ok (.lconst 0, 1) := by decide +kernel
theorem dX11_skip_239 : decode cX11_skip 239 = .ok (.lcmp, 1) := by decide +kernel
theorem dX11_skip_240 : decode cX11_skip 240 = .ok (.ifCond .le 8, 3) := by decide +kernel
theorem dX11_skip_243 : decode cX11_skip 243 = .ok (.aload_n 0, 1) := by decide +kernel
theorem dX11_skip_244 : decode cX11_skip 244 = .ok (.invokevirtual 256, 3) := by decide +kernel
theorem dX11_skip_247 : decode cX11_skip 247 = .ok (.pop2, 1) := by decide +kernel
theorem dX11_skip_248 : decode cX11_skip 248 = .ok (.return_, 1) := by decide +kernel
theorem dX11_unresolved_0 : decode cX11_unresolved 0 = .ok (.aload_n 0, 1) := by decide +kernel
theorem dX11_unresolved_1 : decode cX11_unresolved 1 = .ok (.bipush 20, 2) := by decide +kernel
theorem dX11_unresolved_3 : decode cX11_unresolved 3 = .ok (.iconst 0, 1) := by decide +kernel
theorem dX11_unresolved_4 : decode cX11_unresolved 4 = .ok (.invokevirtual 102, 3) := by decide +kernel
theorem dX11_unresolved_7 : decode cX11_unresolved 7 = .ok (.return_, 1) := by decide +kernel
theorem dX11_tell_0 : decode cX11_tell 0 = .ok (.aload_n 1, 1) := by decide +kernel
theorem dX11_tell_1 : decode cX11_tell 1 = .ok (.getfield 132, 3) := by decide +kernel
theorem dX11_tell_4 : decode cX11_tell 4 = .ok (.iload_n 2, 1) := by decide +kernel
theorem dX11_tell_5 : decode cX11_tell 5 = .ok (.iaload, 1) := by decide +kernel
theorem dX11_tell_6 : decode cX11_tell 6 = .ok (.istore 5, 2) := by decide +kernel
theorem dX11_tell_8 : decode cX11_tell 8 = .ok (.iload 5, 2) := by decide +kernel
theorem dX11_tell_10 : decode cX11_tell 10 = .ok (.bipush 8, 2) := by decide +kernel
theorem dX11_tell_12 : decode cX11_tell 12 = .ok (.if_icmp .ne 27, 3) := by decide +kernel
theorem dX11_tell_15 : decode cX11_tell 15 = .ok (.aload_n 0, 1) := by decide +kernel
theorem dX11_tell_16 : decode cX11_tell 16 = .ok (.aload_n 1, 1) := by decide +kernel
theorem dX11_tell_17 : decode cX11_tell 17 = .ok (.aload_n 1, 1) := by decide +kernel
theorem dX11_tell_18 : decode cX11_tell 18 = .ok (.getfield 149, 3) := by decide +kernel
theorem dX11_tell_21 : decode cX11_tell 21 = .ok (.aload_n 1, 1) := by decide +kernel
theorem dX11_tell_22 : decode cX11_tell 22 = .ok (.iload_n 2, 1) := by decide +kernel
theorem dX11_tell_23 : decode cX11_tell 23 = .ok (.aload_n 0, 1) := by decide +kernel
theorem dX11_tell_24 : decode cX11_tell 24 = .ok (.invokevirtual 256, 3) := by decide +kernel
theorem dX11_tell_27 : decode cX11_tell 27 = .ok (.l2i, 1) := by decide +kernel
theorem dX11_tell_28 : decode cX11_tell 28 = .ok (.invokevirtual 152, 3) := by decide +kernel
theorem dX11_tell_31 : decode cX11_tell 31 = .ok (.iaload, 1) := by decide +kernel
theorem dX11_tell_32 : decode cX11_tell 32 = .ok (.aload_n 3, 1) := by decide +kernel
theorem dX11_tell_33 : decode cX11_tell 33 = .ok (.iload 4, 2) := by decide +kernel
theorem dX11_tell_35 : decode cX11_tell 35 = .ok (.invokevirtual 266, 3) := by decide +kernel
theorem dX11_tell_38 : decode cX11_tell 38 = .ok (.return_, 1) := by decide +kernel
theorem dX11_tell_39 : decode cX11_tell 39 = .ok (.aload_n 3, 1) := by decide +kernel
theorem dX11_tell_40 : decode cX11_tell 40 = .ok (.getfield 132, 3) := by decide +kernel
theorem dX11_tell_43 : decode cX11_tell 43 = .ok (.iload 4, 2) := by decide +kernel
theorem dX11_tell_45 : decode cX11_tell 45 = .ok (.iaload, 1) := by decide +kernel
theorem dX11_tell_46 : decode cX11_tell 46 = .ok (.bipush 8, 2) := by decide +kernel
theorem dX11_tell_48 : decode cX11_tell 48 = .ok (.if_icmp .ne 78, 3) := by decide +kernel
theorem dX11_tell_51 : decode cX11_tell 51 = .ok (.aload_n 1, 1) := by decide +kernel
theorem dX11_tell_52 : decode cX11_tell 52 = .ok (.iload_n 2, 1) := by decide +kernel
theorem dX11_tell_53 : decode cX11_tell 53 = .ok (.aload_n 3, 1) := by decide +kernel
theorem dX11_tell_54 : decode cX11_tell 54 = .ok (.iload 4, 2) := by decide +kernel
theorem dX11_tell_56 : decode cX11_tell 56 = .ok (.invokestatic 227, 3) := by decide +kernel
theorem dX11_tell_59 : decode cX11_tell 59 = .ok (.istore 6, 2) := by decide +kernel
theorem dX11_tell_61 : decode cX11_tell 61 = .ok (.iload 6, 2) := by decide +kernel
theorem dX11_tell_63 : decode cX11_tell 63 = .ok (.ifCond .ge 7, 3) := by decide +kernel
theorem dX11_tell_66 : decode cX11_tell 66 = .ok (.aload_n 0, 1) := by decide +kernel
theorem dX11_tell_67 : decode cX11_tell 67 = .ok (.invokevirtual 270, 3) := by decide +kernel
theorem dX11_tell_70 : decode cX11_tell 70 = .ok (.iconst 0, 1) := by decide +kernel
theorem dX11_tell_71 : decode cX11_tell 71 = .ok (.istore 7, 2) := by decide +kernel
theorem dX11_tell_73 : decode cX11_tell 73 = .ok (.aload_n 3, 1) := by decide +kernel
theorem dX11_tell_74 : decode cX11_tell 74 = .ok (.getfield 160, 3) := by decide +kernel
theorem dX11_tell_77 : decode cX11_tell 77 = .ok (.iload 4, 2) := by decide +kernel
theorem dX11_tell_79 : decode cX11_tell 79 = .ok (.iaload, 1) := by decide +kernel
theorem dX11_tell_80 : decode cX11_tell 80 = .ok (.istore 8, 2) := by decide +kernel
theorem dX11_tell_82 : decode cX11_tell 82 = .ok (.iload 8, 2) := by decide +kernel
theorem dX11_tell_84 : decode cX11_tell 84 = .ok (.iload 6, 2) := by decide +kernel
theorem dX11_tell_86 : decode cX11_tell 86 = .ok (.if_icmp .eq 18, 3) := by decide +kernel
theorem dX11_tell_89 : decode cX11_tell 89 = .ok (.iinc 7 1, 3) := by decide +kernel
theorem dX11_tell_92 : decode cX11_tell 92 = .ok (.aload_n 3, 1) := by decide +kernel
theorem dX11_tell_93 : decode cX11_tell 93 = .ok (.getfield 163, 3) := by decide +kernel
theorem dX11_tell_96 : decode cX11_tell 96 = .ok (.iload 8, 2) := by decide +kernel
theorem dX11_tell_98 : decode cX11_tell 98 = .ok (.iaload, 1) := by decide +kernel
theorem dX11_tell_99 : decode cX11_tell 99 = .ok (.istore 8, 2) := by decide +kernel
theorem dX11_tell_101 : decode cX11_tell 101 = .ok (.goto (-19), 3) := by decide +kernel
theorem dX11_tell_104 : decode cX11_tell 104 = .ok (.aload_n 0, 1) := by decide +kernel
theorem dX11_tell_105 : decode cX11_tell 105 = .ok (.iload 7, 2) := by decide +kernel
theorem dX11_tell_107 : decode cX11_tell 107 = .ok (.i2l, 1) := by decide +kernel
theorem dX11_tell_108 : decode cX11_tell 108 = .ok (.invokevirtual 273, 3) := by decide +kernel
theorem dX11_tell_111 : decode cX11_tell 111 = .ok (.aload_n 0, 1) := by decide +kernel
theorem dX11_tell_112 : decode cX11_tell 112 = .ok (.aload_n 1, 1) := by decide +kernel
theorem dX11_tell_113 : decode cX11_tell 113 = .ok (.iload_n 2, 1) := by decide +kernel
theorem dX11_tell_114 : decode cX11_tell 114 = .ok (.aload_n 3, 1) := by decide +kernel
theorem dX11_tell_115 : decode cX11_tell 115 = .ok (.aload_n 3, 1) := by decide +kernel
theorem dX11_tell_116 : decode cX11_tell 116 = .ok (.getfield 149, 3) := by decide +kernel
theorem dX11_tell_119 : decode cX11_tell 119 = .ok (.iload 6, 2) := by decide +kernel
theorem dX11_tell_121 : decode cX11_tell 121 = .ok (.iaload, 1) := by decide +kernel
theorem dX11_tell_122 : decode cX11_tell 122 = .ok (.invokevirtual 266, 3) := by decide +kernel
theorem dX11_tell_125 : decode cX11_tell 125 = .ok (.return_, 1) := by decide +kernel
theorem dX11_tell_126 : decode cX11_tell 126 = .ok (.iload 5, 2) := by decide +kernel
theorem dX11_tell_128 : decode cX11_tell 128 = .ok (.invokestatic 201, 3) := by decide +kernel
theorem dX11_tell_131 : decode cX11_tell 131 = .ok (.ifCond .ne 28, 3) := by decide +kernel
theorem dX11_tell_134 : decode cX11_tell 134 = .ok (.aload_n 3, 1) := by decide +kernel
theorem dX11_tell_135 : decode cX11_tell 135 = .ok (.getfield 132, 3) := by decide +kernel
theorem dX11_tell_138 : decode cX11_tell 138 = .ok (.iload 4, 2) := by decide +kernel
theorem dX11_tell_140 : decode cX11_tell 140 = .ok (.iaload, 1) := by decide +kernel
theorem dX11_tell_141 : decode cX11_tell 141 = .ok (.invokestatic 201, 3) := by decide +kernel
theorem dX11_tell_144 : decode cX11_tell 144 = .ok (.ifCond .ne 15, 3) := by decide +kernel
theorem dX11_tell_147 : decode cX11_tell 147 = .ok (.iload 5, 2) := by decide +kernel
theorem dX11_tell_149 : decode cX11_tell 149 = .ok (.aload_n 3, 1) := by decide +kernel
theorem dX11_tell_150 : decode cX11_tell 150 = .ok (.getfield 132, 3) := by decide +kernel
theorem dX11_tell_153 : decode cX11_tell 153 = .ok (.iload 4, 2) := by decide +kernel
theorem dX11_tell_155 : decode cX11_tell 155 = .ok (.iaload, 1) := by decide +kernel
theorem dX11_tell_156 : decode cX11_tell 156 = .ok (.if_icmp .eq 50, 3) := by decide +kernel
theorem dX11_tell_159 : decode cX11_tell 159 = .ok (.iload 5, 2) := by decide +kernel
theorem dX11_tell_161 : decode cX11_tell 161 = .ok (.invokestatic 201, 3) := by decide +kernel
theorem dX11_tell_164 : decode cX11_tell 164 = .ok (.ifCond .eq 31, 3) := by decide +kernel
theorem dX11_tell_167 : decode cX11_tell 167 = .ok (.aload_n 3, 1) := by decide +kernel
theorem dX11_tell_168 : decode cX11_tell 168 = .ok (.getfield 132, 3) := by decide +kernel
theorem dX11_tell_171 : decode cX11_tell 171 = .ok (.iload 4, 2) := by decide +kernel
theorem dX11_tell_173 : decode cX11_tell 173 = .ok (.iaload, 1) := by decide +kernel
theorem dX11_tell_174 : decode cX11_tell 174 = .ok (.invokestatic 201, 3) := by decide +kernel
theorem dX11_tell_177 : decode cX11_tell 177 = .ok (.ifCond .eq 18, 3) := by decide +kernel
theorem dX11_tell_180 : decode cX11_tell 180 = .ok (.iload 5, 2) := by decide +kernel
theorem dX11_tell_182 : decode cX11_tell 182 = .ok (.aload_n 3, 1) := by decide +kernel
theorem dX11_tell_183 : decode cX11_tell 183 = .ok (.getfield 132, 3) := by decide +kernel
theorem dX11_tell_186 : decode cX11_tell 186 = .ok (.iload 4, 2) := by decide +kernel
theorem dX11_tell_188 : decode cX11_tell 188 = .ok (.iaload, 1) := by decide +kernel
theorem dX11_tell_189 : decode cX11_tell 189 = .ok (.invokestatic 204, 3) := by decide +kernel
theorem dX11_tell_192 : decode cX11_tell 192 = .ok (.ifCond .ne 7, 3) := by decide +kernel
theorem dX11_tell_195 : decode cX11_tell 195 = .ok (.aload_n 0, 1) := by decide +kernel
theorem dX11_tell_196 : decode cX11_tell 196 = .ok (.invokevirtual 270, 3) := by decide +kernel
theorem dX11_tell_199 : decode cX11_tell 199 = .ok (.aload_n 0, 1) := by decide +kernel
theorem dX11_tell_200 : decode cX11_tell 200 = .ok (.iload 5, 2) := by decide +kernel
theorem dX11_tell_202 : decode cX11_tell 202 = .ok (.invokevirtual 276, 3) := by decide +kernel
theorem dX11_tell_205 : decode cX11_tell 205 = .ok (.return_, 1) := by decide +kernel
theorem dX11_tell_206 : decode cX11_tell 206 = .ok (.iload 5, 2) := by decide +kernel
theorem dX11_tell_208 : decode cX11_tell 208 = .ok (.bipush 6, 2) := by decide +kernel
theorem dX11_tell_210 : decode cX11_tell 210 = .ok (.if_icmp .eq 25, 3) := by decide +kernel
theorem dX11_tell_213 : decode cX11_tell 213 = .ok (.iload 5, 2) := by decide +kernel
theorem dX11_tell_215 : decode cX11_tell 215 = .ok (.bipush 7, 2) := by decide +kernel
theorem dX11_tell_217 : decode cX11_tell 217 = .ok (.if_icmp .eq 18, 3) := by decide +kernel
theorem dX11_tell_220 : decode cX11_tell 220 = .ok (.aload_n 1, 1) := by decide +kernel
theorem dX11_tell_221 : decode cX11_tell 221 = .ok (.iload_n 2, 1) := by decide +kernel
theorem dX11_tell_222 : decode cX11_tell 222 = .ok (.aload_n 3, 1) := by decide +kernel
theorem dX11_tell_223 : decode cX11_tell 223 = .ok (.iload 4, 2) := by decide +kernel
theorem dX11_tell_225 : decode cX11_tell 225 = .ok (.invokestatic 208, 3) := by decide +kernel
theorem dX11_tell_228 : decode cX11_tell 228 = .ok (.ifCond .ne 7, 3) := by decide +kernel
theorem dX11_tell_231 : decode cX11_tell 231 = .ok (.aload_n 0, 1) := by decide +kernel
theorem dX11_tell_232 : decode cX11_tell 232 = .ok (.invokevirtual 270, 3) := by decide +kernel
theorem dX11_tell_235 : decode cX11_tell 235 = .ok (.iload 5, 2) := by decide +kernel
theorem dX11_tell_237 : decode cX11_tell 237 = .ok (.tableswitch 116 9 11 #[27, 42, 104], 27) := by decide +kernel
theorem dX11_tell_264 : decode cX11_tell 264 = .ok (.aload_n 0, 1) := by decide +kernel
theorem dX11_tell_265 : decode cX11_tell 265 = .ok (.aload_n 1, 1) := by decide +kernel
theorem dX11_tell_266 : decode cX11_tell 266 = .ok (.getfield 143, 3) := by decide +kernel
theorem dX11_tell_269 : decode cX11_tell 269 = .ok (.iload_n 2, 1) := by decide +kernel
theorem dX11_tell_270 : decode cX11_tell 270 = .ok (.iaload, 1) := by decide +kernel
theorem dX11_tell_271 : decode cX11_tell 271 = .ok (.i2l, 1) := by decide +kernel
theorem dX11_tell_272 : decode cX11_tell 272 = .ok (.iconst 1, 1) := by decide +kernel
theorem dX11_tell_273 : decode cX11_tell 273 = .ok (.invokevirtual 259, 3) := by decide +kernel
theorem dX11_tell_276 : decode cX11_tell 276 = .ok (.goto 174, 3) := by decide +kernel
theorem dX11_tell_279 : decode cX11_tell 279 = .ok (.aload_n 3, 1) := by decide +kernel
theorem dX11_tell_280 : decode cX11_tell 280 = .ok (.iload 4, 2) := by decide +kernel
theorem dX11_tell_282 : decode cX11_tell 282 = .ok (.aload_n 1, 1) := by decide +kernel
theorem dX11_tell_283 : decode cX11_tell 283 = .ok (.aload_n 1, 1) := by decide +kernel
theorem dX11_tell_284 : decode cX11_tell 284 = .ok (.getfield 231, 3) := by decide +kernel
theorem dX11_tell_287 : decode cX11_tell 287 = .ok (.aload_n 1, 1) := by decide +kernel
theorem dX11_tell_288 : decode cX11_tell 288 = .ok (.iload_n 2, 1) := by decide +kernel
theorem dX11_tell_289 : decode cX11_tell 289 = .ok (.aload_n 0, 1) := by decide +kernel
theorem dX11_tell_290 : decode cX11_tell 290 = .ok (.invokevirtual 256, 3) := by decide +kernel
theorem dX11_tell_293 : decode cX11_tell 293 = .ok (.l2i, 1) := by decide +kernel
theorem dX11_tell_294 : decode cX11_tell 294 = .ok (.invokevirtual 152, 3) := by decide +kernel
theorem dX11_tell_297 : decode cX11_tell 297 = .ok (.iaload, 1) := by decide +kernel
theorem dX11_tell_298 : decode cX11_tell 298 = .ok (.invokevirtual 234, 3) := by decide +kernel
theorem dX11_tell_301 : decode cX11_tell 301 = .ok (.istore 6, 2) := by decide +kernel
theorem dX11_tell_303 : decode cX11_tell 303 = .ok (.iload 6, 2) := by decide +kernel
theorem dX11_tell_305 : decode cX11_tell 305 = .ok (.ifCond .ge 13, 3) := by decide +kernel
theorem dX11_tell_308 : decode cX11_tell 308 = .ok (.aload_n 3, 1) := by decide +kernel
theorem dX11_tell_309 : decode cX11_tell 309 = .ok (.getfield 238, 3) := by decide +kernel
theorem dX11_tell_312 : decode cX11_tell 312 = .ok (.iload 4, 2) := by decide +kernel
theorem dX11_tell_314 : decode cX11_tell 314 = .ok (.iaload, 1) := by decide +kernel
theorem dX11_tell_315 : decode cX11_tell 315 = .ok (.goto 5, 3) := by decide +kernel
theorem dX11_tell_318 : decode cX11_tell 318 = .ok (.iload 6, 2) := by decide +kernel
theorem dX11_tell_320 : decode cX11_tell 320 = .ok (.istore 6, 2) := by decide +kernel
theorem dX11_tell_322 : decode cX11_tell 322 = .ok (.iload 6, 2) := by decide +kernel
theorem dX11_tell_324 : decode cX11_tell 324 = .ok (.ifCond .ge 7, 3) := by decide +kernel
theorem dX11_tell_327 : decode cX11_tell 327 = .ok (.aload_n 0, 1) := by decide +kernel
theorem dX11_tell_328 : decode cX11_tell 328 = .ok (.invokevirtual 270, 3) := by decide +kernel
theorem dX11_tell_331 : decode cX11_tell 331 = .ok (.aload_n 0, 1) := by decide +kernel
theorem dX11_tell_332 : decode cX11_tell 332 = .ok (.iload 6, 2) := by decide +kernel
theorem dX11_tell_334 : decode cX11_tell 334 = .ok (.i2l, 1) := by decide +kernel
theorem dX11_tell_335 : decode cX11_tell 335 = .ok (.invokevirtual 273, 3) := by decide +kernel
theorem dX11_tell_338 : decode cX11_tell 338 = .ok (.goto 112, 3) := by decide +kernel
theorem dX11_tell_341 : decode cX11_tell 341 = .ok (.aload_n 0, 1) := by decide +kernel
theorem dX11_tell_342 : decode cX11_tell 342 = .ok (.aload_n 1, 1) := by decide +kernel
theorem dX11_tell_343 : decode cX11_tell 343 = .ok (.iload_n 2, 1) := by decide +kernel
theorem dX11_tell_344 : decode cX11_tell 344 = .ok (.aload_n 3, 1) := by decide +kernel
theorem dX11_tell_345 : decode cX11_tell 345 = .ok (.iload 4, 2) := by decide +kernel
theorem dX11_tell_347 : decode cX11_tell 347 = .ok (.invokevirtual 279, 3) := by decide +kernel
theorem dX11_tell_350 : decode cX11_tell 350 = .ok (.goto 100, 3) := by decide +kernel
theorem dX11_tell_353 : decode cX11_tell 353 = .ok (.aload_n 0, 1) := by decide +kernel
theorem dX11_tell_354 : decode cX11_tell 354 = .ok (.invokevirtual 256, 3) := by decide +kernel
theorem dX11_tell_357 : decode cX11_tell 357 = .ok (.lstore 7, 2) := by decide +kernel
theorem dX11_tell_359 : decode cX11_tell 359 = .ok (.lload 7, 2) := by decide +kernel
theorem dX11_tell_361 : decode cX11_tell 361 = .ok (.lconst 0, 1) := by decide +kernel
theorem dX11_tell_362 : decode cX11_tell 362 = .ok (.lcmp, 1) := by decide +kernel
theorem dX11_tell_363 : decode cX11_tell 363 = .ok (.ifCond .le 9, 3) := by decide +kernel
theorem dX11_tell_366 : decode cX11_tell 366 = .ok (.aload_n 0, 1) := by decide +kernel
theorem dX11_tell_367 : decode cX11_tell 367 = .ok (.lload 7, 2) := by decide +kernel
theorem dX11_tell_369 : decode cX11_tell 369 = .ok (.invokevirtual 273, 3) := by decide +kernel
theorem dX11_tell_372 : decode cX11_tell 372 = .ok (.lconst 0, 1) := by decide +kernel
theorem dX11_tell_373 : decode cX11_tell 373 = .ok (.lstore 9, 2) := by decide +kernel
theorem dX11_tell_375 : decode cX11_tell 375 = .ok (.lload 9, 2) := by decide +kernel
theorem dX11_tell_377 : decode cX11_tell 377 = .ok (.lload 7, 2) := by decide +kernel
theorem dX11_tell_379 : decode cX11_tell 379 = .ok (.lcmp, 1) := by decide +kernel
theorem dX11_tell_380 : decode cX11_tell 380 = .ok (.ifCond .ge 53, 3) := by decide +kernel
theorem dX11_tell_383 : decode cX11_tell 383 = .ok (.iload 5, 2) := by decide +kernel
theorem dX11_tell_385 : decode cX11_tell 385 = .ok (.bipush 7, 2) := by decide +kernel
theorem dX11_tell_387 : decode cX11_tell 387 = .ok (.if_icmp .ne 8, 3) := by decide +kernel
theorem dX11_tell_390 : decode cX11_tell 390 = .ok (.aload_n 0, 1) := by decide +kernel
theorem dX11_tell_391 : decode cX11_tell 391 = .ok (.iconst 5, 1) := by decide +kernel
theorem dX11_tell_392 : decode cX11_tell 392 = .ok (.invokevirtual 276, 3) := by decide +kernel
theorem dX11_tell_395 : decode cX11_tell 395 = .ok (.aload_n 0, 1) := by decide +kernel
theorem dX11_tell_396 : decode cX11_tell 396 = .ok (.aload_n 1, 1) := by decide +kernel
theorem dX11_tell_397 : decode cX11_tell 397 = .ok (.aload_n 1, 1) := by decide +kernel
theorem dX11_tell_398 : decode cX11_tell 398 = .ok (.getfield 149, 3) := by decide +kernel
theorem dX11_tell_401 : decode cX11_tell 401 = .ok (.aload_n 1, 1) := by decide +kernel
theorem dX11_tell_402 : decode cX11_tell 402 = .ok (.getfield 160, 3) := by decide +kernel
theorem dX11_tell_405 : decode cX11_tell 405 = .ok (.iload_n 2, 1) := by decide +kernel
theorem dX11_tell_406 : decode cX11_tell 406 = .ok (.iaload, 1) := by decide +kernel
theorem dX11_tell_407 : decode cX11_tell 407 = .ok (.iaload, 1) := by decide +kernel
theorem dX11_tell_408 : decode cX11_tell 408 = .ok (.aload_n 3, 1) := by decide +kernel
theorem dX11_tell_409 : decode cX11_tell 409 = .ok (.aload_n 3, 1) := by decide +kernel
theorem dX11_tell_410 : decode cX11_tell 410 = .ok (.getfield 149, 3) := by decide +kernel
theorem dX11_tell_413 : decode cX11_tell 413 = .ok (.aload_n 3, 1) := by decide +kernel
theorem dX11_tell_414 : decode cX11_tell 414 = .ok (.getfield 160, 3) := by decide +kernel
theorem dX11_tell_417 : decode cX11_tell 417 = .ok (.iload 4, 2) := by decide +kernel
theorem dX11_tell_419 : decode cX11_tell 419 = .ok (.iaload, 1) := by decide +kernel
theorem dX11_tell_420 : decode cX11_tell 420 = .ok (.iaload, 1) := by decide +kernel
theorem dX11_tell_421 : decode cX11_tell 421 = .ok (.invokevirtual 266, 3) := by decide +kernel
theorem dX11_tell_424 : decode cX11_tell 424 = .ok (.lload 9, 2) := by decide +kernel
theorem dX11_tell_426 : decode cX11_tell 426 = .ok (.lconst 1, 1) := by decide +kernel
theorem dX11_tell_427 : decode cX11_tell 427 = .ok (.ladd, 1) := by decide +kernel
theorem dX11_tell_428 : decode cX11_tell 428 = .ok (.lstore 9, 2) := by decide +kernel
theorem dX11_tell_430 : decode cX11_tell 430 = .ok (.goto (-55), 3) := by decide +kernel
theorem dX11_tell_433 : decode cX11_tell 433 = .ok (.lload 7, 2) := by decide +kernel
theorem dX11_tell_435 : decode cX11_tell 435 = .ok (.lconst 0, 1) := by decide +kernel
theorem dX11_tell_436 : decode cX11_tell 436 = .ok (.lcmp, 1) := by decide +kernel
theorem dX11_tell_437 : decode cX11_tell 437 = .ok (.ifCond .le 8, 3) := by decide +kernel
theorem dX11_tell_440 : decode cX11_tell 440 = .ok (.aload_n 0, 1) := by decide +kernel
theorem dX11_tell_441 : decode cX11_tell 441 = .ok (.invokevirtual 256, 3) := by decide +kernel
theorem dX11_tell_444 : decode cX11_tell 444 = .ok (.pop2, 1) := by decide +kernel
theorem dX11_tell_445 : decode cX11_tell 445 = .ok (.aload_n 0, 1) := by decide +kernel
theorem dX11_tell_446 : decode cX11_tell 446 = .ok (.lconst 0, 1) := by decide +kernel
theorem dX11_tell_447 : decode cX11_tell 447 = .ok (.invokevirtual 273, 3) := by decide +kernel
theorem dX11_tell_450 : decode cX11_tell 450 = .ok (.return_, 1) := by decide +kernel
theorem dX11_tellSix_0 : decode cX11_tellSix 0 = .ok (.iload_n 1, 1) := by decide +kernel
theorem dX11_tellSix_1 : decode cX11_tellSix 1 = .ok (.tableswitch 54 0 3 #[31, 34, 43, 43], 31) := by decide +kernel
theorem dX11_tellSix_32 : decode cX11_tellSix 32 = .ok (.goto 39, 3) := by decide +kernel
theorem dX11_tellSix_35 : decode cX11_tellSix 35 = .ok (.aload_n 0, 1) := by decide +kernel
theorem dX11_tellSix_36 : decode cX11_tellSix 36 = .ok (.lconst 1, 1) := by decide +kernel
theorem dX11_tellSix_37 : decode cX11_tellSix 37 = .ok (.iconst 1, 1) := by decide +kernel
theorem dX11_tellSix_38 : decode cX11_tellSix 38 = .ok (.invokevirtual 259, 3) := by decide +kernel
theorem dX11_tellSix_41 : decode cX11_tellSix 41 = .ok (.goto 30, 3) := by decide +kernel
theorem dX11_tellSix_44 : decode cX11_tellSix 44 = .ok (.aload_n 0, 1) := by decide +kernel
theorem dX11_tellSix_45 : decode cX11_tellSix 45 = .ok (.aload_n 0, 1) := by decide +kernel
theorem dX11_tellSix_46 : decode cX11_tellSix 46 = .ok (.invokevirtual 256, 3) := by decide +kernel
theorem dX11_tellSix_49 : decode cX11_tellSix 49 = .ok (.invokevirtual 273, 3) := by decide +kernel
theorem dX11_tellSix_52 : decode cX11_tellSix 52 = .ok (.goto 19, 3) := by decide +kernel
theorem dX11_tellSix_55 : decode cX11_tellSix 55 = .ok (.aload_n 0, 1) := by decide +kernel
theorem dX11_tellSix_56 : decode cX11_tellSix 56 = .ok (.invokevirtual 256, 3) := by decide +kernel
theorem dX11_tellSix_59 : decode cX11_tellSix 59 = .ok (.lstore_n 2, 1) := by decide +kernel
theorem dX11_tellSix_60 : decode cX11_tellSix 60 = .ok (.aload_n 0, 1) := by decide +kernel
theorem dX11_tellSix_61 : decode cX11_tellSix 61 = .ok (.lload_n 2, 1) := by decide +kernel
theorem dX11_tellSix_62 : decode cX11_tellSix 62 = .ok (.invokevirtual 273, 3) := by decide +kernel
theorem dX11_tellSix_65 : decode cX11_tellSix 65 = .ok (.aload_n 0, 1) := by decide +kernel
theorem dX11_tellSix_66 : decode cX11_tellSix 66 = .ok (.lload_n 2, 1) := by decide +kernel
theorem dX11_tellSix_67 : decode cX11_tellSix 67 = .ok (.iconst 1, 1) := by decide +kernel
theorem dX11_tellSix_68 : decode cX11_tellSix 68 = .ok (.invokevirtual 259, 3) := by decide +kernel
theorem dX11_tellSix_71 : decode cX11_tellSix 71 = .ok (.return_, 1) := by decide +kernel
theorem dX11_tellRecord_0 : decode cX11_tellRecord 0 = .ok (.aload_n 0, 1) := by decide +kernel
theorem dX11_tellRecord_1 : decode cX11_tellRecord 1 = .ok (.getfield 253, 3) := by decide +kernel
theorem dX11_tellRecord_4 : decode cX11_tellRecord 4 = .ok (.istore 5, 2) := by decide +kernel
theorem dX11_tellRecord_6 : decode cX11_tellRecord 6 = .ok (.aload_n 3, 1) := by decide +kernel
theorem dX11_tellRecord_7 : decode cX11_tellRecord 7 = .ok (.getfield 160, 3) := by decide +kernel
theorem dX11_tellRecord_10 : decode cX11_tellRecord 10 = .ok (.iload 4, 2) := by decide +kernel
theorem dX11_tellRecord_12 : decode cX11_tellRecord 12 = .ok (.iaload, 1) := by decide +kernel
theorem dX11_tellRecord_13 : decode cX11_tellRecord 13 = .ok (.istore 6, 2) := by decide +kernel
theorem dX11_tellRecord_15 : decode cX11_tellRecord 15 = .ok (.iload 6, 2) := by decide +kernel
theorem dX11_tellRecord_17 : decode cX11_tellRecord 17 = .ok (.ifCond .lt 134, 3) := by decide +kernel
theorem dX11_tellRecord_20 : decode cX11_tellRecord 20 = .ok (.aload_n 1, 1) := by decide +kernel
theorem dX11_tellRecord_21 : decode cX11_tellRecord 21 = .ok (.iload_n 2, 1) := by decide +kernel
theorem dX11_tellRecord_22 : decode cX11_tellRecord 22 = .ok (.aload_n 3, 1) := by decide +kernel
theorem dX11_tellRecord_23 : decode cX11_tellRecord 23 = .ok (.iload 6, 2) := by decide +kernel
theorem dX11_tellRecord_25 : decode cX11_tellRecord 25 = .ok (.invokestatic 241, 3) := by decide +kernel
theorem dX11_tellRecord_28 : decode cX11_tellRecord 28 = .ok (.istore 7, 2) := by decide +kernel
theorem dX11_tellRecord_30 : decode cX11_tellRecord 30 = .ok (.iload 7, 2) := by decide +kernel
theorem dX11_tellRecord_32 : decode cX11_tellRecord 32 = .ok (.ifCond .lt 71, 3) := by decide +kernel
theorem dX11_tellRecord_35 : decode cX11_tellRecord 35 = .ok (.aload_n 0, 1) := by decide +kernel
theorem dX11_tellRecord_36 : decode cX11_tellRecord 36 = .ok (.iload 5, 2) := by decide +kernel
theorem dX11_tellRecord_38 : decode cX11_tellRecord 38 = .ok (.putfield 253, 3) := by decide +kernel
theorem dX11_tellRecord_41 : decode cX11_tellRecord 41 = .ok (.aload_n 1, 1) := by decide +kernel
theorem dX11_tellRecord_42 : decode cX11_tellRecord 42 = .ok (.getfield 160, 3) := by decide +kernel
theorem dX11_tellRecord_45 : decode cX11_tellRecord 45 = .ok (.iload_n 2, 1) := by decide +kernel
theorem dX11_tellRecord_46 : decode cX11_tellRecord 46 = .ok (.iaload, 1) := by decide +kernel
theorem dX11_tellRecord_47 : decode cX11_tellRecord 47 = .ok (.istore 8, 2) := by decide +kernel
theorem dX11_tellRecord_49 : decode cX11_tellRecord 49 = .ok (.iload 8, 2) := by decide +kernel
theorem dX11_tellRecord_51 : decode cX11_tellRecord 51 = .ok (.iload 7, 2) := by decide +kernel
theorem dX11_tellRecord_53 : decode cX11_tellRecord 53 = .ok (.if_icmp .eq 27, 3) := by decide +kernel
theorem dX11_tellRecord_56 : decode cX11_tellRecord 56 = .ok (.aload_n 0, 1) := by decide +kernel
theorem dX11_tellRecord_57 : decode cX11_tellRecord 57 = .ok (.aload_n 1, 1) := by decide +kernel
theorem dX11_tellRecord_58 : decode cX11_tellRecord 58 = .ok (.aload_n 1, 1) := by decide +kernel
theorem dX11_tellRecord_59 : decode cX11_tellRecord 59 = .ok (.getfield 149, 3) := by decide +kernel
theorem dX11_tellRecord_62 : decode cX11_tellRecord 62 = .ok (.iload 8, 2) := by decide +kernel
theorem dX11_tellRecord_64 : decode cX11_tellRecord 64 = .ok (.iaload, 1) := by decide +kernel
theorem dX11_tellRecord_65 : decode cX11_tellRecord 65 = .ok (.invokevirtual 263, 3) := by decide +kernel
theorem dX11_tellRecord_68 : decode cX11_tellRecord 68 = .ok (.aload_n 1, 1) := by decide +kernel
theorem dX11_tellRecord_69 : decode cX11_tellRecord 69 = .ok (.getfield 163, 3) := by decide +kernel
theorem dX11_tellRecord_72 : decode cX11_tellRecord 72 = .ok (.iload 8, 2) := by decide +kernel
theorem dX11_tellRecord_74 : decode cX11_tellRecord 74 = .ok (.iaload, 1) := by decide +kernel
theorem dX11_tellRecord_75 : decode cX11_tellRecord 75 = .ok (.istore 8, 2) := by decide +kernel
theorem dX11_tellRecord_77 : decode cX11_tellRecord 77 = .ok (.goto (-28), 3) := by decide +kernel
theorem dX11_tellRecord_80 : decode cX11_tellRecord 80 = .ok (.aload_n 0, 1) := by decide +kernel
theorem dX11_tellRecord_81 : decode cX11_tellRecord 81 = .ok (.aload_n 1, 1) := by decide +kernel
theorem dX11_tellRecord_82 : decode cX11_tellRecord 82 = .ok (.aload_n 1, 1) := by decide +kernel
theorem dX11_tellRecord_83 : decode cX11_tellRecord 83 = .ok (.getfield 149, 3) := by decide +kernel
theorem dX11_tellRecord_86 : decode cX11_tellRecord 86 = .ok (.iload 7, 2) := by decide +kernel
theorem dX11_tellRecord_88 : decode cX11_tellRecord 88 = .ok (.iaload, 1) := by decide +kernel
theorem dX11_tellRecord_89 : decode cX11_tellRecord 89 = .ok (.aload_n 3, 1) := by decide +kernel
theorem dX11_tellRecord_90 : decode cX11_tellRecord 90 = .ok (.aload_n 3, 1) := by decide +kernel
theorem dX11_tellRecord_91 : decode cX11_tellRecord 91 = .ok (.getfield 149, 3) := by decide +kernel
theorem dX11_tellRecord_94 : decode cX11_tellRecord 94 = .ok (.iload 6, 2) := by decide +kernel
theorem dX11_tellRecord_96 : decode cX11_tellRecord 96 = .ok (.iaload, 1) := by decide +kernel
theorem dX11_tellRecord_97 : decode cX11_tellRecord 97 = .ok (.invokevirtual 266, 3) := by decide +kernel
theorem dX11_tellRecord_100 : decode cX11_tellRecord 100 = .ok (.goto 39, 3) := by decide +kernel
theorem dX11_tellRecord_103 : decode cX11_tellRecord 103 = .ok (.aload_n 3, 1) := by decide +kernel
theorem dX11_tellRecord_104 : decode cX11_tellRecord 104 = .ok (.getfield 244, 3) := by decide +kernel
theorem dX11_tellRecord_107 : decode cX11_tellRecord 107 = .ok (.iload 6, 2) := by decide +kernel
theorem dX11_tellRecord_109 : decode cX11_tellRecord 109 = .ok (.iaload, 1) := by decide +kernel
theorem dX11_tellRecord_110 : decode cX11_tellRecord 110 = .ok (.ifCond .lt 25, 3) := by decide +kernel
theorem dX11_tellRecord_113 : decode cX11_tellRecord 113 = .ok (.aload_n 0, 1) := by decide +kernel
theorem dX11_tellRecord_114 : decode cX11_tellRecord 114 = .ok (.aload_n 3, 1) := by decide +kernel
theorem dX11_tellRecord_115 : decode cX11_tellRecord 115 = .ok (.aload_n 3, 1) := by decide +kernel
theorem dX11_tellRecord_116 : decode cX11_tellRecord 116 = .ok (.getfield 244, 3) := by decide +kernel
theorem dX11_tellRecord_119 : decode cX11_tellRecord 119 = .ok (.iload 6, 2) := by decide +kernel
theorem dX11_tellRecord_121 : decode cX11_tellRecord 121 = .ok (.iaload, 1) := by decide +kernel
theorem dX11_tellRecord_122 : decode cX11_tellRecord 122 = .ok (.aload_n 3, 1) := by decide +kernel
theorem dX11_tellRecord_123 : decode cX11_tellRecord 123 = .ok (.getfield 149, 3) := by decide +kernel
theorem dX11_tellRecord_126 : decode cX11_tellRecord 126 = .ok (.iload 6, 2) := by decide +kernel
theorem dX11_tellRecord_128 : decode cX11_tellRecord 128 = .ok (.iaload, 1) := by decide +kernel
theorem dX11_tellRecord_129 : decode cX11_tellRecord 129 = .ok (.invokevirtual 282, 3) := by decide +kernel
theorem dX11_tellRecord_132 : decode cX11_tellRecord 132 = .ok (.goto 7, 3) := by decide +kernel
theorem dX11_tellRecord_135 : decode cX11_tellRecord 135 = .ok (.aload_n 0, 1) := by decide +kernel
theorem dX11_tellRecord_136 : decode cX11_tellRecord 136 = .ok (.invokevirtual 270, 3) := by decide +kernel
theorem dX11_tellRecord_139 : decode cX11_tellRecord 139 = .ok (.aload_n 3, 1) := by decide +kernel
theorem dX11_tellRecord_140 : decode cX11_tellRecord 140 = .ok (.getfield 163, 3) := by decide +kernel
theorem dX11_tellRecord_143 : decode cX11_tellRecord 143 = .ok (.iload 6, 2) := by decide +kernel
theorem dX11_tellRecord_145 : decode cX11_tellRecord 145 = .ok (.iaload, 1) := by decide +kernel
theorem dX11_tellRecord_146 : decode cX11_tellRecord 146 = .ok (.istore 6, 2) := by decide +kernel
theorem dX11_tellRecord_148 : decode cX11_tellRecord 148 = .ok (.goto (-133), 3) := by decide +kernel
theorem dX11_tellRecord_151 : decode cX11_tellRecord 151 = .ok (.aload_n 0, 1) := by decide +kernel
theorem dX11_tellRecord_152 : decode cX11_tellRecord 152 = .ok (.iload 5, 2) := by decide +kernel
theorem dX11_tellRecord_154 : decode cX11_tellRecord 154 = .ok (.putfield 253, 3) := by decide +kernel
theorem dX11_tellRecord_157 : decode cX11_tellRecord 157 = .ok (.aload_n 0, 1) := by decide +kernel
theorem dX11_tellRecord_158 : decode cX11_tellRecord 158 = .ok (.aload_n 1, 1) := by decide +kernel
theorem dX11_tellRecord_159 : decode cX11_tellRecord 159 = .ok (.iload_n 2, 1) := by decide +kernel
theorem dX11_tellRecord_160 : decode cX11_tellRecord 160 = .ok (.invokevirtual 263, 3) := by decide +kernel
theorem dX11_tellRecord_163 : decode cX11_tellRecord 163 = .ok (.return_, 1) := by decide +kernel
theorem dX11_tellString_0 : decode cX11_tellString 0 = .ok (.iconst 0, 1) := by decide +kernel
theorem dX11_tellString_1 : decode cX11_tellString 1 = .ok (.istore_n 3, 1) := by decide +kernel
theorem dX11_tellString_2 : decode cX11_tellString 2 = .ok (.iload_n 3, 1) := by decide +kernel
theorem dX11_tellString_3 : decode cX11_tellString 3 = .ok (.aload_n 1, 1) := by decide +kernel
theorem dX11_tellString_4 : decode cX11_tellString 4 = .ok (.getfield 286, 3) := by decide +kernel
theorem dX11_tellString_7 : decode cX11_tellString 7 = .ok (.iload_n 2, 1) := by decide +kernel
theorem dX11_tellString_8 : decode cX11_tellString 8 = .ok (.iaload, 1) := by decide +kernel
theorem dX11_tellString_9 : decode cX11_tellString 9 = .ok (.if_icmp .ge 27, 3) := by decide +kernel
theorem dX11_tellString_12 : decode cX11_tellString 12 = .ok (.aload_n 0, 1) := by decide +kernel
theorem dX11_tellString_13 : decode cX11_tellString 13 = .ok (.aload_n 1, 1) := by decide +kernel
theorem dX11_tellString_14 : decode cX11_tellString 14 = .ok (.getfield 287, 3) := by decide +kernel
theorem dX11_tellString_17 : decode cX11_tellString 17 = .ok (.aload_n 1, 1) := by decide +kernel
theorem dX11_tellString_18 : decode cX11_tellString 18 = .ok (.getfield 290, 3) := by decide +kernel
theorem dX11_tellString_21 : decode cX11_tellString 21 = .ok (.iload_n 2, 1) := by decide +kernel
theorem dX11_tellString_22 : decode cX11_tellString 22 = .ok (.laload, 1) := by decide +kernel
theorem dX11_tellString_23 : decode cX11_tellString 23 = .ok (.l2i, 1) := by decide +kernel
theorem dX11_tellString_24 : decode cX11_tellString 24 = .ok (.iload_n 3, 1) := by decide +kernel
theorem dX11_tellString_25 : decode cX11_tellString 25 = .ok (.iadd, 1) := by decide +kernel
theorem dX11_tellString_26 : decode cX11_tellString 26 = .ok (.baload, 1) := by decide +kernel
theorem dX11_tellString_27 : decode cX11_tellString 27 = .ok (.invokevirtual 250, 3) := by decide +kernel
theorem dX11_tellString_30 : decode cX11_tellString 30 = .ok (.iinc 3 1, 3) := by decide +kernel
theorem dX11_tellString_33 : decode cX11_tellString 33 = .ok (.goto (-31), 3) := by decide +kernel
theorem dX11_tellString_36 : decode cX11_tellString 36 = .ok (.return_, 1) := by decide +kernel
theorem dX11_tellDefault_0 : decode cX11_tellDefault 0 = .ok (.aload_n 1, 1) := by decide +kernel
theorem dX11_tellDefault_1 : decode cX11_tellDefault 1 = .ok (.getfield 132, 3) := by decide +kernel
theorem dX11_tellDefault_4 : decode cX11_tellDefault 4 = .ok (.iload_n 3, 1) := by decide +kernel
theorem dX11_tellDefault_5 : decode cX11_tellDefault 5 = .ok (.iaload, 1) := by decide +kernel
theorem dX11_tellDefault_6 : decode cX11_tellDefault 6 = .ok (.tableswitch 292 0 11 #[62, 65, 87, 87, 100, 100, 221, 292, 144, 120, 129, 169], 62) := by decide +kernel
theorem dX11_tellDefault_68 : decode cX11_tellDefault 68 = .ok (.goto 355, 3) := by decide +kernel
theorem dX11_tellDefault_71 : decode cX11_tellDefault 71 = .ok (.aload_n 0, 1) := by decide +kernel
theorem dX11_tellDefault_72 : decode cX11_tellDefault 72 = .ok (.aload_n 1, 1) := by decide +kernel
theorem dX11_tellDefault_73 : decode cX11_tellDefault 73 = .ok (.getfield 294, 3) := by decide +kernel
theorem dX11_tellDefault_76 : decode cX11_tellDefault 76 = .ok (.iload_n 2, 1) := by decide +kernel
theorem dX11_tellDefault_77 : decode cX11_tellDefault 77 = .ok (.iaload, 1) := by decide +kernel
theorem dX11_tellDefault_78 : decode cX11_tellDefault 78 = .ok (.iconst 4, 1) := by decide +kernel
theorem dX11_tellDefault_79 : decode cX11_tellDefault 79 = .ok (.if_icmp .ne 7, 3) := by decide +kernel
theorem dX11_tellDefault_82 : decode cX11_tellDefault 82 = .ok (.iconst 1, 1) := by decide +kernel
theorem dX11_tellDefault_83 : decode cX11_tellDefault 83 = .ok (.goto 4, 3) := by decide +kernel
theorem dX11_tellDefault_86 : decode cX11_tellDefault 86 = .ok (.iconst 0, 1) := by decide +kernel
theorem dX11_tellDefault_87 : decode cX11_tellDefault 87 = .ok (.invokevirtual 250, 3) := by decide +kernel
theorem dX11_tellDefault_90 : decode cX11_tellDefault 90 = .ok (.goto 333, 3) := by decide +kernel
theorem dX11_tellDefault_93 : decode cX11_tellDefault 93 = .ok (.aload_n 0, 1) := by decide +kernel
theorem dX11_tellDefault_94 : decode cX11_tellDefault 94 = .ok (.aload_n 1, 1) := by decide +kernel
theorem dX11_tellDefault_95 : decode cX11_tellDefault 95 = .ok (.getfield 290, 3) := by decide +kernel
theorem dX11_tellDefault_98 : decode cX11_tellDefault 98 = .ok (.iload_n 2, 1) := by decide +kernel
theorem dX11_tellDefault_99 : decode cX11_tellDefault 99 = .ok (.laload, 1) := by decide +kernel
theorem dX11_tellDefault_100 : decode cX11_tellDefault 100 = .ok (.invokevirtual 273, 3) := by decide +kernel
theorem dX11_tellDefault_103 : decode cX11_tellDefault 103 = .ok (.goto 320, 3) := by decide +kernel
theorem dX11_tellDefault_106 : decode cX11_tellDefault 106 = .ok (.aload_n 0, 1) := by decide +kernel
theorem dX11_tellDefault_107 : decode cX11_tellDefault 107 = .ok (.aload_n 1, 1) := by decide +kernel
theorem dX11_tellDefault_108 : decode cX11_tellDefault 108 = .ok (.getfield 286, 3) := by decide +kernel
theorem dX11_tellDefault_111 : decode cX11_tellDefault 111 = .ok (.iload_n 2, 1) := by decide +kernel
theorem dX11_tellDefault_112 : decode cX11_tellDefault 112 = .ok (.iaload, 1) := by decide +kernel
theorem dX11_tellDefault_113 : decode cX11_tellDefault 113 = .ok (.i2l, 1) := by decide +kernel
theorem dX11_tellDefault_114 : decode cX11_tellDefault 114 = .ok (.invokevirtual 273, 3) := by decide +kernel
theorem dX11_tellDefault_117 : decode cX11_tellDefault 117 = .ok (.aload_n 0, 1) := by decide +kernel
theorem dX11_tellDefault_118 : decode cX11_tellDefault 118 = .ok (.aload_n 1, 1) := by decide +kernel
theorem dX11_tellDefault_119 : decode cX11_tellDefault 119 = .ok (.iload_n 2, 1) := by decide +kernel
theorem dX11_tellDefault_120 : decode cX11_tellDefault 120 = .ok (.invokevirtual 297, 3) := by decide +kernel
theorem dX11_tellDefault_123 : decode cX11_tellDefault 123 = .ok (.goto 300, 3) := by decide +kernel
theorem dX11_tellDefault_126 : decode cX11_tellDefault 126 = .ok (.aload_n 0, 1) := by decide +kernel
theorem dX11_tellDefault_127 : decode cX11_tellDefault 127 = .ok (.aload_n 1, 1) := by decide +kernel
theorem dX11_tellDefault_128 : decode cX11_tellDefault 128 = .ok (.iload_n 2, 1) := by decide +kernel
theorem dX11_tellDefault_129 : decode cX11_tellDefault 129 = .ok (.invokevirtual 297, 3) := by decide +kernel
theorem dX11_tellDefault_132 : decode cX11_tellDefault 132 = .ok (.goto 291, 3) := by decide +kernel
theorem dX11_tellDefault_135 : decode cX11_tellDefault 135 = .ok (.aload_n 0, 1) := by decide +kernel
theorem dX11_tellDefault_136 : decode cX11_tellDefault 136 = .ok (.aload_n 1, 1) := by decide +kernel
theorem dX11_tellDefault_137 : decode cX11_tellDefault 137 = .ok (.iload_n 3, 1) := by decide +kernel
theorem dX11_tellDefault_138 : decode cX11_tellDefault 138 = .ok (.aload_n 1, 1) := by decide +kernel
theorem dX11_tellDefault_139 : decode cX11_tellDefault 139 = .ok (.iload_n 2, 1) := by decide +kernel
theorem dX11_tellDefault_140 : decode cX11_tellDefault 140 = .ok (.invokevirtual 234, 3) := by decide +kernel
theorem dX11_tellDefault_143 : decode cX11_tellDefault 143 = .ok (.i2l, 1) := by decide +kernel
theorem dX11_tellDefault_144 : decode cX11_tellDefault 144 = .ok (.invokevirtual 273, 3) := by decide +kernel
theorem dX11_tellDefault_147 : decode cX11_tellDefault 147 = .ok (.goto 276, 3) := by decide +kernel
theorem dX11_tellDefault_150 : decode cX11_tellDefault 150 = .ok (.aload_n 0, 1) := by decide +kernel
theorem dX11_tellDefault_151 : decode cX11_tellDefault 151 = .ok (.lconst 0, 1) := by decide +kernel
theorem dX11_tellDefault_152 : decode cX11_tellDefault 152 = .ok (.invokevirtual 273, 3) := by decide +kernel
theorem dX11_tellDefault_155 : decode cX11_tellDefault 155 = .ok (.aload_n 0, 1) := by decide +kernel
theorem dX11_tellDefault_156 : decode cX11_tellDefault 156 = .ok (.aload_n 1, 1) := by decide +kernel
theorem dX11_tellDefault_157 : decode cX11_tellDefault 157 = .ok (.iload_n 2, 1) := by decide +kernel
theorem dX11_tellDefault_158 : decode cX11_tellDefault 158 = .ok (.aload_n 1, 1) := by decide +kernel
theorem dX11_tellDefault_159 : decode cX11_tellDefault 159 = .ok (.getfield 149, 3) := by decide +kernel
theorem dX11_tellDefault_162 : decode cX11_tellDefault 162 = .ok (.aload_n 1, 1) := by decide +kernel
theorem dX11_tellDefault_163 : decode cX11_tellDefault 163 = .ok (.getfield 160, 3) := by decide +kernel
theorem dX11_tellDefault_166 : decode cX11_tellDefault 166 = .ok (.iload_n 3, 1) := by decide +kernel
theorem dX11_tellDefault_167 : decode cX11_tellDefault 167 = .ok (.iaload, 1) := by decide +kernel
theorem dX11_tellDefault_168 : decode cX11_tellDefault 168 = .ok (.iaload, 1) := by decide +kernel
theorem dX11_tellDefault_169 : decode cX11_tellDefault 169 = .ok (.invokevirtual 282, 3) := by decide +kernel
theorem dX11_tellDefault_172 : decode cX11_tellDefault 172 = .ok (.goto 251, 3) := by decide +kernel
theorem dX11_tellDefault_175 : decode cX11_tellDefault 175 = .ok (.aload_n 1, 1) := by decide +kernel
theorem dX11_tellDefault_176 : decode cX11_tellDefault 176 = .ok (.getfield 160, 3) := by decide +kernel
theorem dX11_tellDefault_179 : decode cX11_tellDefault 179 = .ok (.iload_n 3, 1) := by decide +kernel
theorem dX11_tellDefault_180 : decode cX11_tellDefault 180 = .ok (.iaload, 1) := by decide +kernel
theorem dX11_tellDefault_181 : decode cX11_tellDefault 181 = .ok (.istore 4, 2) := by decide +kernel
theorem dX11_tellDefault_183 : decode cX11_tellDefault 183 = .ok (.iload 4, 2) := by decide +kernel
theorem dX11_tellDefault_185 : decode cX11_tellDefault 185 = .ok (.ifCond .lt 39, 3) := by decide +kernel
theorem dX11_tellDefault_188 : decode cX11_tellDefault 188 = .ok (.aload_n 0, 1) := by decide +kernel
theorem dX11_tellDefault_189 : decode cX11_tellDefault 189 = .ok (.aload_n 1, 1) := by decide +kernel
theorem dX11_tellDefault_190 : decode cX11_tellDefault 190 = .ok (.aload_n 1, 1) := by decide +kernel
theorem dX11_tellDefault_191 : decode cX11_tellDefault 191 = .ok (.iload_n 2, 1) := by decide +kernel
theorem dX11_tellDefault_192 : decode cX11_tellDefault 192 = .ok (.aload_n 1, 1) := by decide +kernel
theorem dX11_tellDefault_193 : decode cX11_tellDefault 193 = .ok (.getfield 231, 3) := by decide +kernel
theorem dX11_tellDefault_196 : decode cX11_tellDefault 196 = .ok (.iload 4, 2) := by decide +kernel
theorem dX11_tellDefault_198 : decode cX11_tellDefault 198 = .ok (.iaload, 1) := by decide +kernel
theorem dX11_tellDefault_199 : decode cX11_tellDefault 199 = .ok (.invokevirtual 300, 3) := by decide +kernel
theorem dX11_tellDefault_202 : decode cX11_tellDefault 202 = .ok (.aload_n 1, 1) := by decide +kernel
theorem dX11_tellDefault_203 : decode cX11_tellDefault 203 = .ok (.getfield 149, 3) := by decide +kernel
theorem dX11_tellDefault_206 : decode cX11_tellDefault 206 = .ok (.iload 4, 2) := by decide +kernel
theorem dX11_tellDefault_208 : decode cX11_tellDefault 208 = .ok (.iaload, 1) := by decide +kernel
theorem dX11_tellDefault_209 : decode cX11_tellDefault 209 = .ok (.invokevirtual 282, 3) := by decide +kernel
theorem dX11_tellDefault_212 : decode cX11_tellDefault 212 = .ok (.aload_n 1, 1) := by decide +kernel
theorem dX11_tellDefault_213 : decode cX11_tellDefault 213 = .ok (.getfield 163, 3) := by decide +kernel
theorem dX11_tellDefault_216 : decode cX11_tellDefault 216 = .ok (.iload 4, 2) := by decide +kernel
theorem dX11_tellDefault_218 : decode cX11_tellDefault 218 = .ok (.iaload, 1) := by decide +kernel
theorem dX11_tellDefault_219 : decode cX11_tellDefault 219 = .ok (.istore 4, 2) := by decide +kernel
theorem dX11_tellDefault_221 : decode cX11_tellDefault 221 = .ok (.goto (-38), 3) := by decide +kernel
theorem dX11_tellDefault_224 : decode cX11_tellDefault 224 = .ok (.goto 199, 3) := by decide +kernel
theorem dX11_tellDefault_227 : decode cX11_tellDefault 227 = .ok (.aload_n 1, 1) := by decide +kernel
theorem dX11_tellDefault_228 : decode cX11_tellDefault 228 = .ok (.getfield 303, 3) := by decide +kernel
theorem dX11_tellDefault_231 : decode cX11_tellDefault 231 = .ok (.iload_n 2, 1) := by decide +kernel
theorem dX11_tellDefault_232 : decode cX11_tellDefault 232 = .ok (.iaload, 1) := by decide +kernel
theorem dX11_tellDefault_233 : decode cX11_tellDefault 233 = .ok (.ifCond .lt 14, 3) := by decide +kernel
theorem dX11_tellDefault_236 : decode cX11_tellDefault 236 = .ok (.aload_n 0, 1) := by decide +kernel
theorem dX11_tellDefault_237 : decode cX11_tellDefault 237 = .ok (.aload_n 1, 1) := by decide +kernel
theorem dX11_tellDefault_238 : decode cX11_tellDefault 238 = .ok (.getfield 286, 3) := by decide +kernel
theorem dX11_tellDefault_241 : decode cX11_tellDefault 241 = .ok (.iload_n 2, 1) := by decide +kernel
theorem dX11_tellDefault_242 : decode cX11_tellDefault 242 = .ok (.iaload, 1) := by decide +kernel
theorem dX11_tellDefault_243 : decode cX11_tellDefault 243 = .ok (.i2l, 1) := by decide +kernel
theorem dX11_tellDefault_244 : decode cX11_tellDefault 244 = .ok (.invokevirtual 273, 3) := by decide +kernel
theorem dX11_tellDefault_247 : decode cX11_tellDefault 247 = .ok (.aload_n 1, 1) := by decide +kernel
theorem dX11_tellDefault_248 : decode cX11_tellDefault 248 = .ok (.getfield 303, 3) := by decide +kernel
theorem dX11_tellDefault_251 : decode cX11_tellDefault 251 = .ok (.iload_n 2, 1) := by decide +kernel
theorem dX11_tellDefault_252 : decode cX11_tellDefault 252 = .ok (.iaload, 1) := by decide +kernel
theorem dX11_tellDefault_253 : decode cX11_tellDefault 253 = .ok (.istore 4, 2) := by decide +kernel
theorem dX11_tellDefault_255 : decode cX11_tellDefault 255 = .ok (.iload 4, 2) := by decide +kernel
theorem dX11_tellDefault_257 : decode cX11_tellDefault 257 = .ok (.ifCond .lt 33, 3) := by decide +kernel
theorem dX11_tellDefault_260 : decode cX11_tellDefault 260 = .ok (.aload_n 0, 1) := by decide +kernel
theorem dX11_tellDefault_261 : decode cX11_tellDefault 261 = .ok (.aload_n 1, 1) := by decide +kernel
theorem dX11_tellDefault_262 : decode cX11_tellDefault 262 = .ok (.iload 4, 2) := by decide +kernel
theorem dX11_tellDefault_264 : decode cX11_tellDefault 264 = .ok (.aload_n 1, 1) := by decide +kernel
theorem dX11_tellDefault_265 : decode cX11_tellDefault 265 = .ok (.getfield 149, 3) := by decide +kernel
theorem dX11_tellDefault_268 : decode cX11_tellDefault 268 = .ok (.aload_n 1, 1) := by decide +kernel
theorem dX11_tellDefault_269 : decode cX11_tellDefault 269 = .ok (.getfield 160, 3) := by decide +kernel
theorem dX11_tellDefault_272 : decode cX11_tellDefault 272 = .ok (.iload_n 3, 1) := by decide +kernel
theorem dX11_tellDefault_273 : decode cX11_tellDefault 273 = .ok (.iaload, 1) := by decide +kernel
theorem dX11_tellDefault_274 : decode cX11_tellDefault 274 = .ok (.iaload, 1) := by decide +kernel
theorem dX11_tellDefault_275 : decode cX11_tellDefault 275 = .ok (.invokevirtual 282, 3) := by decide +kernel
theorem dX11_tellDefault_278 : decode cX11_tellDefault 278 = .ok (.aload_n 1, 1) := by decide +kernel
theorem dX11_tellDefault_279 : decode cX11_tellDefault 279 = .ok (.getfield 306, 3) := by decide +kernel
theorem dX11_tellDefault_282 : decode cX11_tellDefault 282 = .ok (.iload 4, 2) := by decide +kernel
theorem dX11_tellDefault_284 : decode cX11_tellDefault 284 = .ok (.iaload, 1) := by decide +kernel
theorem dX11_tellDefault_285 : decode cX11_tellDefault 285 = .ok (.istore 4, 2) := by decide +kernel
theorem dX11_tellDefault_287 : decode cX11_tellDefault 287 = .ok (.goto (-32), 3) := by decide +kernel
theorem dX11_tellDefault_290 : decode cX11_tellDefault 290 = .ok (.aload_n 0, 1) := by decide +kernel
theorem dX11_tellDefault_291 : decode cX11_tellDefault 291 = .ok (.lconst 0, 1) := by decide +kernel
theorem dX11_tellDefault_292 : decode cX11_tellDefault 292 = .ok (.invokevirtual 273, 3) := by decide +kernel
theorem dX11_tellDefault_295 : decode cX11_tellDefault 295 = .ok (.goto 128, 3) := by decide +kernel
theorem dX11_tellDefault_298 : decode cX11_tellDefault 298 = .ok (.iconst 0, 1) := by decide +kernel
theorem dX11_tellDefault_299 : decode cX11_tellDefault 299 = .ok (.istore 4, 2) := by decide +kernel
theorem dX11_tellDefault_301 : decode cX11_tellDefault 301 = .ok (.aload_n 1, 1) := by decide +kernel
theorem dX11_tellDefault_302 : decode cX11_tellDefault 302 = .ok (.getfield 303, 3) := by decide +kernel
theorem dX11_tellDefault_305 : decode cX11_tellDefault 305 = .ok (.iload_n 2, 1) := by decide +kernel
theorem dX11_tellDefault_306 : decode cX11_tellDefault 306 = .ok (.iaload, 1) := by decide +kernel
theorem dX11_tellDefault_307 : decode cX11_tellDefault 307 = .ok (.istore 5, 2) := by decide +kernel
theorem dX11_tellDefault_309 : decode cX11_tellDefault 309 = .ok (.iload 5, 2) := by decide +kernel
theorem dX11_tellDefault_311 : decode cX11_tellDefault 311 = .ok (.ifCond .lt 23, 3) := by decide +kernel
theorem dX11_tellDefault_314 : decode cX11_tellDefault 314 = .ok (.iinc 4 1, 3) := by decide +kernel
theorem dX11_tellDefault_317 : decode cX11_tellDefault 317 = .ok (.aload_n 1, 1) := by decide +kernel
theorem dX11_tellDefault_318 : decode cX11_tellDefault 318 = .ok (.getfield 306, 3) := by decide +kernel
theorem dX11_tellDefault_321 : decode cX11_tellDefault 321 = .ok (.aload_n 1, 1) := by decide +kernel
theorem dX11_tellDefault_322 : decode cX11_tellDefault 322 = .ok (.getfield 306, 3) := by decide +kernel
theorem dX11_tellDefault_325 : decode cX11_tellDefault 325 = .ok (.iload 5, 2) := by decide +kernel
theorem dX11_tellDefault_327 : decode cX11_tellDefault 327 = .ok (.iaload, 1) := by decide +kernel
theorem dX11_tellDefault_328 : decode cX11_tellDefault 328 = .ok (.iaload, 1) := by decide +kernel
theorem dX11_tellDefault_329 : decode cX11_tellDefault 329 = .ok (.istore 5, 2) := by decide +kernel
theorem dX11_tellDefault_331 : decode cX11_tellDefault 331 = .ok (.goto (-22), 3) := by decide +kernel
theorem dX11_tellDefault_334 : decode cX11_tellDefault 334 = .ok (.iload 4, 2) := by decide +kernel
theorem dX11_tellDefault_336 : decode cX11_tellDefault 336 = .ok (.ifCond .le 10, 3) := by decide +kernel
theorem dX11_tellDefault_339 : decode cX11_tellDefault 339 = .ok (.aload_n 0, 1) := by decide +kernel
theorem dX11_tellDefault_340 : decode cX11_tellDefault 340 = .ok (.iload 4, 2) := by decide +kernel
theorem dX11_tellDefault_342 : decode cX11_tellDefault 342 = .ok (.i2l, 1) := by decide +kernel
theorem dX11_tellDefault_343 : decode cX11_tellDefault 343 = .ok (.invokevirtual 273, 3) := by decide +kernel
theorem dX11_tellDefault_346 : decode cX11_tellDefault 346 = .ok (.aload_n 1, 1) := by decide +kernel
theorem dX11_tellDefault_347 : decode cX11_tellDefault 347 = .ok (.getfield 303, 3) := by decide +kernel
theorem dX11_tellDefault_350 : decode cX11_tellDefault 350 = .ok (.iload_n 2, 1) := by decide +kernel
theorem dX11_tellDefault_351 : decode cX11_tellDefault 351 = .ok (.iaload, 1) := by decide +kernel
theorem dX11_tellDefault_352 : decode cX11_tellDefault 352 = .ok (.istore 5, 2) := by decide +kernel
theorem dX11_tellDefault_354 : decode cX11_tellDefault 354 = .ok (.iload 5, 2) := by decide +kernel
theorem dX11_tellDefault_356 : decode cX11_tellDefault 356 = .ok (.ifCond .lt 62, 3) := by decide +kernel
theorem dX11_tellDefault_359 : decode cX11_tellDefault 359 = .ok (.aload_n 0, 1) := by decide +kernel
theorem dX11_tellDefault_360 : decode cX11_tellDefault 360 = .ok (.aload_n 1, 1) := by decide +kernel
theorem dX11_tellDefault_361 : decode cX11_tellDefault 361 = .ok (.getfield 286, 3) := by decide +kernel
theorem dX11_tellDefault_364 : decode cX11_tellDefault 364 = .ok (.iload 5, 2) := by decide +kernel
theorem dX11_tellDefault_366 : decode cX11_tellDefault 366 = .ok (.iaload, 1) := by decide +kernel
theorem dX11_tellDefault_367 : decode cX11_tellDefault 367 = .ok (.i2l, 1) := by decide +kernel
theorem dX11_tellDefault_368 : decode cX11_tellDefault 368 = .ok (.invokevirtual 273, 3) := by decide +kernel
theorem dX11_tellDefault_371 : decode cX11_tellDefault 371 = .ok (.aload_n 0, 1) := by decide +kernel
theorem dX11_tellDefault_372 : decode cX11_tellDefault 372 = .ok (.aload_n 1, 1) := by decide +kernel
theorem dX11_tellDefault_373 : decode cX11_tellDefault 373 = .ok (.iload 5, 2) := by decide +kernel
theorem dX11_tellDefault_375 : decode cX11_tellDefault 375 = .ok (.invokevirtual 297, 3) := by decide +kernel
theorem dX11_tellDefault_378 : decode cX11_tellDefault 378 = .ok (.aload_n 0, 1) := by decide +kernel
theorem dX11_tellDefault_379 : decode cX11_tellDefault 379 = .ok (.aload_n 1, 1) := by decide +kernel
theorem dX11_tellDefault_380 : decode cX11_tellDefault 380 = .ok (.aload_n 1, 1) := by decide +kernel
theorem dX11_tellDefault_381 : decode cX11_tellDefault 381 = .ok (.getfield 306, 3) := by decide +kernel
theorem dX11_tellDefault_384 : decode cX11_tellDefault 384 = .ok (.iload 5, 2) := by decide +kernel
theorem dX11_tellDefault_386 : decode cX11_tellDefault 386 = .ok (.iaload, 1) := by decide +kernel
theorem dX11_tellDefault_387 : decode cX11_tellDefault 387 = .ok (.aload_n 1, 1) := by decide +kernel
theorem dX11_tellDefault_388 : decode cX11_tellDefault 388 = .ok (.getfield 149, 3) := by decide +kernel
theorem dX11_tellDefault_391 : decode cX11_tellDefault 391 = .ok (.aload_n 1, 1) := by decide +kernel
theorem dX11_tellDefault_392 : decode cX11_tellDefault 392 = .ok (.getfield 160, 3) := by decide +kernel
theorem dX11_tellDefault_395 : decode cX11_tellDefault 395 = .ok (.iload_n 3, 1) := by decide +kernel
theorem dX11_tellDefault_396 : decode cX11_tellDefault 396 = .ok (.iaload, 1) := by decide +kernel
theorem dX11_tellDefault_397 : decode cX11_tellDefault 397 = .ok (.iaload, 1) := by decide +kernel
theorem dX11_tellDefault_398 : decode cX11_tellDefault 398 = .ok (.invokevirtual 282, 3) := by decide +kernel
theorem dX11_tellDefault_401 : decode cX11_tellDefault 401 = .ok (.aload_n 1, 1) := by decide +kernel
theorem dX11_tellDefault_402 : decode cX11_tellDefault 402 = .ok (.getfield 306, 3) := by decide +kernel
theorem dX11_tellDefault_405 : decode cX11_tellDefault 405 = .ok (.aload_n 1, 1) := by decide +kernel
theorem dX11_tellDefault_406 : decode cX11_tellDefault 406 = .ok (.getfield 306, 3) := by decide +kernel
theorem dX11_tellDefault_409 : decode cX11_tellDefault 409 = .ok (.iload 5, 2) := by decide +kernel
theorem dX11_tellDefault_411 : decode cX11_tellDefault 411 = .ok (.iaload, 1) := by decide +kernel
theorem dX11_tellDefault_412 : decode cX11_tellDefault 412 = .ok (.iaload, 1) := by decide +kernel
theorem dX11_tellDefault_413 : decode cX11_tellDefault 413 = .ok (.istore 5, 2) := by decide +kernel
theorem dX11_tellDefault_415 : decode cX11_tellDefault 415 = .ok (.goto (-61), 3) := by decide +kernel
theorem dX11_tellDefault_418 : decode cX11_tellDefault 418 = .ok (.aload_n 0, 1) := by decide +kernel
theorem dX11_tellDefault_419 : decode cX11_tellDefault 419 = .ok (.lconst 0, 1) := by decide +kernel
theorem dX11_tellDefault_420 : decode cX11_tellDefault 420 = .ok (.invokevirtual 273, 3) := by decide +kernel
theorem dX11_tellDefault_423 : decode cX11_tellDefault 423 = .ok (.return_, 1) := by decide +kernel
theorem dX11_tellRow_0 : decode cX11_tellRow 0 = .ok (.aload_n 0, 1) := by decide +kernel
theorem dX11_tellRow_1 : decode cX11_tellRow 1 = .ok (.aload_n 0, 1) := by decide +kernel
theorem dX11_tellRow_2 : decode cX11_tellRow 2 = .ok (.getfield 115, 3) := by decide +kernel
theorem dX11_tellRow_5 : decode cX11_tellRow 5 = .ok (.iload_n 1, 1) := by decide +kernel
theorem dX11_tellRow_6 : decode cX11_tellRow 6 = .ok (.iadd, 1) := by decide +kernel
theorem dX11_tellRow_7 : decode cX11_tellRow 7 = .ok (.putfield 247, 3) := by decide +kernel
theorem dX11_tellRow_10 : decode cX11_tellRow 10 = .ok (.aload_n 0, 1) := by decide +kernel
theorem dX11_tellRow_11 : decode cX11_tellRow 11 = .ok (.aload_n 0, 1) := by decide +kernel
theorem dX11_tellRow_12 : decode cX11_tellRow 12 = .ok (.getfield 20, 3) := by decide +kernel
theorem dX11_tellRow_15 : decode cX11_tellRow 15 = .ok (.aload_n 0, 1) := by decide +kernel
theorem dX11_tellRow_16 : decode cX11_tellRow 16 = .ok (.getfield 20, 3) := by decide +kernel
theorem dX11_tellRow_19 : decode cX11_tellRow 19 = .ok (.getfield 188, 3) := by decide +kernel
theorem dX11_tellRow_22 : decode cX11_tellRow 22 = .ok (.aload_n 0, 1) := by decide +kernel
theorem dX11_tellRow_23 : decode cX11_tellRow 23 = .ok (.getfield 24, 3) := by decide +kernel
theorem dX11_tellRow_26 : decode cX11_tellRow 26 = .ok (.aload_n 0, 1) := by decide +kernel
theorem dX11_tellRow_27 : decode cX11_tellRow 27 = .ok (.getfield 24, 3) := by decide +kernel
theorem dX11_tellRow_30 : decode cX11_tellRow 30 = .ok (.getfield 188, 3) := by decide +kernel
theorem dX11_tellRow_33 : decode cX11_tellRow 33 = .ok (.invokevirtual 266, 3) := by decide +kernel
theorem dX11_tellRow_36 : decode cX11_tellRow 36 = .ok (.goto 10, 3) := by decide +kernel
theorem dX11_tellRow_39 : decode cX11_tellRow 39 = .ok (.astore_n 2, 1) := by decide +kernel
theorem dX11_tellRow_40 : decode cX11_tellRow 40 = .ok (.aload_n 0, 1) := by decide +kernel
theorem dX11_tellRow_41 : decode cX11_tellRow 41 = .ok (.getfield 87, 3) := by decide +kernel
theorem dX11_tellRow_44 : decode cX11_tellRow 44 = .ok (.ineg, 1) := by decide +kernel
theorem dX11_tellRow_45 : decode cX11_tellRow 45 = .ok (.ireturn, 1) := by decide +kernel
theorem dX11_tellRow_46 : decode cX11_tellRow 46 = .ok (.iconst 0, 1) := by decide +kernel
theorem dX11_tellRow_47 : decode cX11_tellRow 47 = .ok (.ireturn, 1) := by decide +kernel
theorem dX11_read__0 : decode cX11_read_ 0 = .ok (.iload_n 1, 1) := by decide +kernel
theorem dX11_read__1 : decode cX11_read_ 1 = .ok (.invokestatic 76, 3) := by decide +kernel
theorem dX11_read__4 : decode cX11_read_ 4 = .ok (.ifCond .eq 17, 3) := by decide +kernel
theorem dX11_read__7 : decode cX11_read_ 7 = .ok (.iload_n 2, 1) := by decide +kernel
theorem dX11_read__8 : decode cX11_read_ 8 = .ok (.iconst 0, 1) := by decide +kernel
theorem dX11_read__9 : decode cX11_read_ 9 = .ok (.aload_n 0, 1) := by decide +kernel
theorem dX11_read__10 : decode cX11_read_ 10 = .ok (.getfield 81, 3) := by decide +kernel
theorem dX11_read__13 : decode cX11_read_ 13 = .ok (.iconst 1, 1) := by decide +kernel
theorem dX11_read__14 : decode cX11_read_ 14 = .ok (.isub, 1) := by decide +kernel
theorem dX11_read__15 : decode cX11_read_ 15 = .ok (.invokestatic 68, 3) := by decide +kernel
theorem dX11_read__18 : decode cX11_read_ 18 = .ok (.ifCond .ne 7, 3) := by decide +kernel
theorem dX11_read__21 : decode cX11_read_ 21 = .ok (.iconst 1, 1) := by decide +kernel
theorem dX11_read__22 : decode cX11_read_ 22 = .ok (.goto 4, 3) := by decide +kernel
theorem dX11_read__25 : decode cX11_read_ 25 = .ok (.iconst 0, 1) := by decide +kernel
theorem dX11_read__26 : decode cX11_read_ 26 = .ok (.istore_n 3, 1) := by decide +kernel
theorem dX11_read__27 : decode cX11_read_ 27 = .ok (.aload_n 0, 1) := by decide +kernel
theorem dX11_read__28 : decode cX11_read_ 28 = .ok (.iload_n 3, 1) := by decide +kernel
theorem dX11_read__29 : decode cX11_read_ 29 = .ok (.iload_n 3, 1) := by decide +kernel
theorem dX11_read__30 : decode cX11_read_ 30 = .ok (.ifCond .ne 16, 3) := by decide +kernel
theorem dX11_read__33 : decode cX11_read_ 33 = .ok (.aload_n 0, 1) := by decide +kernel
theorem dX11_read__34 : decode cX11_read_ 34 = .ok (.getfield 31, 3) := by decide +kernel
theorem dX11_read__37 : decode cX11_read_ 37 = .ok (.iload_n 1, 1) := by decide +kernel
theorem dX11_read__38 : decode cX11_read_ 38 = .ok (.iaload, 1) := by decide +kernel
theorem dX11_read__39 : decode cX11_read_ 39 = .ok (.ifCond .ge 7, 3) := by decide +kernel
theorem dX11_read__42 : decode cX11_read_ 42 = .ok (.iconst 1, 1) := by decide +kernel
theorem dX11_read__43 : decode cX11_read_ 43 = .ok (.goto 4, 3) := by decide +kernel
theorem dX11_read__46 : decode cX11_read_ 46 = .ok (.iconst 0, 1) := by decide +kernel
theorem dX11_read__47 : decode cX11_read_ 47 = .ok (.invokevirtual 60, 3) := by decide +kernel
theorem dX11_read__50 : decode cX11_read_ 50 = .ok (.ifCond .eq 5, 3) := by decide +kernel
theorem dX11_read__53 : decode cX11_read_ 53 = .ok (.iconst 0, 1) := by decide +kernel
theorem dX11_read__54 : decode cX11_read_ 54 = .ok (.ireturn, 1) := by decide +kernel
theorem dX11_read__55 : decode cX11_read_ 55 = .ok (.aload_n 0, 1) := by decide +kernel
theorem dX11_read__56 : decode cX11_read_ 56 = .ok (.aload_n 0, 1) := by decide +kernel
theorem dX11_read__57 : decode cX11_read_ 57 = .ok (.getfield 20, 3) := by decide +kernel
theorem dX11_read__60 : decode cX11_read_ 60 = .ok (.aload_n 0, 1) := by decide +kernel
theorem dX11_read__61 : decode cX11_read_ 61 = .ok (.getfield 38, 3) := by decide +kernel
theorem dX11_read__64 : decode cX11_read_ 64 = .ok (.invokevirtual 191, 3) := by decide +kernel
theorem dX11_read__67 : decode cX11_read_ 67 = .ok (.aload_n 0, 1) := by decide +kernel
theorem dX11_read__68 : decode cX11_read_ 68 = .ok (.aload_n 0, 1) := by decide +kernel
theorem dX11_read__69 : decode cX11_read_ 69 = .ok (.getfield 24, 3) := by decide +kernel
theorem dX11_read__72 : decode cX11_read_ 72 = .ok (.iload_n 1, 1) := by decide +kernel
theorem dX11_read__73 : decode cX11_read_ 73 = .ok (.invokevirtual 191, 3) := by decide +kernel
theorem dX11_read__76 : decode cX11_read_ 76 = .ok (.aload_n 0, 1) := by decide +kernel
theorem dX11_read__77 : decode cX11_read_ 77 = .ok (.iconst 0, 1) := by decide +kernel
theorem dX11_read__78 : decode cX11_read_ 78 = .ok (.putfield 253, 3) := by decide +kernel
theorem dX11_read__81 : decode cX11_read_ 81 = .ok (.aload_n 0, 1) := by decide +kernel
theorem dX11_read__82 : decode cX11_read_ 82 = .ok (.iconst 0, 1) := by decide +kernel
theorem dX11_read__83 : decode cX11_read_ 83 = .ok (.putfield 198, 3) := by decide +kernel
theorem dX11_read__86 : decode cX11_read_ 86 = .ok (.aload_n 0, 1) := by decide +kernel
theorem dX11_read__87 : decode cX11_read_ 87 = .ok (.iconst 0, 1) := by decide +kernel
theorem dX11_read__88 : decode cX11_read_ 88 = .ok (.putfield 115, 3) := by decide +kernel
theorem dX11_read__91 : decode cX11_read_ 91 = .ok (.aload_n 0, 1) := by decide +kernel
theorem dX11_read__92 : decode cX11_read_ 92 = .ok (.iload_n 2, 1) := by decide +kernel
theorem dX11_read__93 : decode cX11_read_ 93 = .ok (.invokevirtual 309, 3) := by decide +kernel
theorem dX11_read__96 : decode cX11_read_ 96 = .ok (.aload_n 0, 1) := by decide +kernel
theorem dX11_read__97 : decode cX11_read_ 97 = .ok (.sipush 4096, 3) := by decide +kernel
theorem dX11_read__100 : decode cX11_read_ 100 = .ok (.invokevirtual 312, 3) := by decide +kernel
theorem dX11_read__103 : decode cX11_read_ 103 = .ok (.istore 4, 2) := by decide +kernel
theorem dX11_read__105 : decode cX11_read_ 105 = .ok (.iload 4, 2) := by decide +kernel
theorem dX11_read__107 : decode cX11_read_ 107 = .ok (.ifCond .ge 6, 3) := by decide +kernel
theorem dX11_read__110 : decode cX11_read_ 110 = .ok (.iload 4, 2) := by decide +kernel
theorem dX11_read__112 : decode cX11_read_ 112 = .ok (.ireturn, 1) := by decide +kernel
theorem dX11_read__113 : decode cX11_read_ 113 = .ok (.aload_n 0, 1) := by decide +kernel
theorem dX11_read__114 : decode cX11_read_ 114 = .ok (.aload_n 0, 1) := by decide +kernel
theorem dX11_read__115 : decode cX11_read_ 115 = .ok (.getfield 115, 3) := by decide +kernel
theorem dX11_read__118 : decode cX11_read_ 118 = .ok (.putfield 198, 3) := by decide +kernel
theorem dX11_read__121 : decode cX11_read_ 121 = .ok (.iconst 0, 1) := by decide +kernel
theorem dX11_read__122 : decode cX11_read_ 122 = .ok (.istore 5, 2) := by decide +kernel
theorem dX11_read__124 : decode cX11_read_ 124 = .ok (.iload 5, 2) := by decide +kernel
theorem dX11_read__126 : decode cX11_read_ 126 = .ok (.aload_n 0, 1) := by decide +kernel
theorem dX11_read__127 : decode cX11_read_ 127 = .ok (.getfield 198, 3) := by decide +kernel
theorem dX11_read__130 : decode cX11_read_ 130 = .ok (.if_icmp .ge 23, 3) := by decide +kernel
theorem dX11_read__133 : decode cX11_read_ 133 = .ok (.aload_n 0, 1) := by decide +kernel
theorem dX11_read__134 : decode cX11_read_ 134 = .ok (.getfield 41, 3) := by decide +kernel
theorem dX11_read__137 : decode cX11_read_ 137 = .ok (.iload 5, 2) := by decide +kernel
theorem dX11_read__139 : decode cX11_read_ 139 = .ok (.aload_n 0, 1) := by decide +kernel
theorem dX11_read__140 : decode cX11_read_ 140 = .ok (.getfield 44, 3) := by decide +kernel
theorem dX11_read__143 : decode cX11_read_ 143 = .ok (.iload 5, 2) := by decide +kernel
theorem dX11_read__145 : decode cX11_read_ 145 = .ok (.baload, 1) := by decide +kernel
theorem dX11_read__146 : decode cX11_read_ 146 = .ok (.bastore, 1) := by decide +kernel
theorem dX11_read__147 : decode cX11_read_ 147 = .ok (.iinc 5 1, 3) := by decide +kernel
theorem dX11_read__150 : decode cX11_read_ 150 = .ok (.goto (-26), 3) := by decide +kernel
theorem dX11_read__153 : decode cX11_read_ 153 = .ok (.aload_n 0, 1) := by decide +kernel
theorem dX11_read__154 : decode cX11_read_ 154 = .ok (.getfield 198, 3) := by decide +kernel
theorem dX11_read__157 : decode cX11_read_ 157 = .ok (.ireturn, 1) := by decide +kernel
theorem dX11_pass_0 : decode cX11_pass 0 = .ok (.iconst 0, 1) := by decide +kernel
theorem dX11_pass_1 : decode cX11_pass 1 = .ok (.istore_n 2, 1) := by decide +kernel
theorem dX11_pass_2 : decode cX11_pass 2 = .ok (.iload_n 2, 1) := by decide +kernel
theorem dX11_pass_3 : decode cX11_pass 3 = .ok (.iload_n 1, 1) := by decide +kernel
theorem dX11_pass_4 : decode cX11_pass 4 = .ok (.if_icmp .ge 24, 3) := by decide +kernel
theorem dX11_pass_7 : decode cX11_pass 7 = .ok (.aload_n 0, 1) := by decide +kernel
theorem dX11_pass_8 : decode cX11_pass 8 = .ok (.aload_n 0, 1) := by decide +kernel
theorem dX11_pass_9 : decode cX11_pass 9 = .ok (.getfield 20, 3) := by decide +kernel
theorem dX11_pass_12 : decode cX11_pass 12 = .ok (.aload_n 0, 1) := by decide +kernel
theorem dX11_pass_13 : decode cX11_pass 13 = .ok (.getfield 20, 3) := by decide +kernel
theorem dX11_pass_16 : decode cX11_pass 16 = .ok (.getfield 188, 3) := by decide +kernel
theorem dX11_pass_19 : decode cX11_pass 19 = .ok (.invokevirtual 263, 3) := by decide +kernel
theorem dX11_pass_22 : decode cX11_pass 22 = .ok (.iinc 2 1, 3) := by decide +kernel
theorem dX11_pass_25 : decode cX11_pass 25 = .ok (.goto (-23), 3) := by decide +kernel
theorem dX11_pass_28 : decode cX11_pass 28 = .ok (.return_, 1) := by decide +kernel
theorem dX11_all_0 : decode cX11_all 0 = .ok (.aload_n 0, 1) := by decide +kernel
theorem dX11_all_1 : decode cX11_all 1 = .ok (.iload_n 1, 1) := by decide +kernel
theorem dX11_all_2 : decode cX11_all 2 = .ok (.invokestatic 76, 3) := by decide +kernel
theorem dX11_all_5 : decode cX11_all 5 = .ok (.ifCond .ne 7, 3) := by decide +kernel
theorem dX11_all_8 : decode cX11_all 8 = .ok (.iconst 1, 1) := by decide +kernel
theorem dX11_all_9 : decode cX11_all 9 = .ok (.goto 4, 3) := by decide +kernel
theorem dX11_all_12 : decode cX11_all 12 = .ok (.iconst 0, 1) := by decide +kernel
theorem dX11_all_13 : decode cX11_all 13 = .ok (.iload_n 1, 1) := by decide +kernel
theorem dX11_all_14 : decode cX11_all 14 = .ok (.invokestatic 76, 3) := by decide +kernel
theorem dX11_all_17 : decode cX11_all 17 = .ok (.ifCond .eq 16, 3) := by decide +kernel
theorem dX11_all_20 : decode cX11_all 20 = .ok (.aload_n 0, 1) := by decide +kernel
theorem dX11_all_21 : decode cX11_all 21 = .ok (.getfield 31, 3) := by decide +kernel
theorem dX11_all_24 : decode cX11_all 24 = .ok (.iload_n 1, 1) := by decide +kernel
theorem dX11_all_25 : decode cX11_all 25 = .ok (.iaload, 1) := by decide +kernel
theorem dX11_all_26 : decode cX11_all 26 = .ok (.ifCond .ge 7, 3) := by decide +kernel
theorem dX11_all_29 : decode cX11_all 29 = .ok (.iconst 1, 1) := by decide +kernel
theorem dX11_all_30 : decode cX11_all 30 = .ok (.goto 4, 3) := by decide +kernel
theorem dX11_all_33 : decode cX11_all 33 = .ok (.iconst 0, 1) := by decide +kernel
theorem dX11_all_34 : decode cX11_all 34 = .ok (.invokevirtual 60, 3) := by decide +kernel
theorem dX11_all_37 : decode cX11_all 37 = .ok (.ifCond .eq 5, 3) := by decide +kernel
theorem dX11_all_40 : decode cX11_all 40 = .ok (.iconst 0, 1) := by decide +kernel
theorem dX11_all_41 : decode cX11_all 41 = .ok (.ireturn, 1) := by decide +kernel
theorem dX11_all_42 : decode cX11_all 42 = .ok (.aload_n 0, 1) := by decide +kernel
theorem dX11_all_43 : decode cX11_all 43 = .ok (.getfield 81, 3) := by decide +kernel
theorem dX11_all_46 : decode cX11_all 46 = .ok (.ifCond .ne 5, 3) := by decide +kernel
theorem dX11_all_49 : decode cX11_all 49 = .ok (.iconst 0, 1) := by decide +kernel
theorem dX11_all_50 : decode cX11_all 50 = .ok (.ireturn, 1) := by decide +kernel
theorem dX11_all_51 : decode cX11_all 51 = .ok (.aload_n 0, 1) := by decide +kernel
theorem dX11_all_52 : decode cX11_all 52 = .ok (.aload_n 0, 1) := by decide +kernel
theorem dX11_all_53 : decode cX11_all 53 = .ok (.getfield 20, 3) := by decide +kernel
theorem dX11_all_56 : decode cX11_all 56 = .ok (.aload_n 0, 1) := by decide +kernel
theorem dX11_all_57 : decode cX11_all 57 = .ok (.getfield 38, 3) := by decide +kernel
theorem dX11_all_60 : decode cX11_all 60 = .ok (.invokevirtual 191, 3) := by decide +kernel
theorem dX11_all_63 : decode cX11_all 63 = .ok (.aload_n 0, 1) := by decide +kernel
theorem dX11_all_64 : decode cX11_all 64 = .ok (.aload_n 0, 1) := by decide +kernel
theorem dX11_all_65 : decode cX11_all 65 = .ok (.getfield 24, 3) := by decide +kernel
theorem dX11_all_68 : decode cX11_all 68 = .ok (.iload_n 1, 1) := by decide +kernel
theorem dX11_all_69 : decode cX11_all 69 = .ok (.invokevirtual 191, 3) := by decide +kernel
theorem dX11_all_72 : decode cX11_all 72 = .ok (.iconst 0, 1) := by decide +kernel
theorem dX11_all_73 : decode cX11_all 73 = .ok (.istore_n 2, 1) := by decide +kernel
theorem dX11_all_74 : decode cX11_all 74 = .ok (.aload_n 0, 1) := by decide +kernel
theorem dX11_all_75 : decode cX11_all 75 = .ok (.iconst 0, 1) := by decide +kernel
theorem dX11_all_76 : decode cX11_all 76 = .ok (.putfield 253, 3) := by decide +kernel
theorem dX11_all_79 : decode cX11_all 79 = .ok (.iconst 1, 1) := by decide +kernel
theorem dX11_all_80 : decode cX11_all 80 = .ok (.istore_n 3, 1) := by decide +kernel
theorem dX11_all_81 : decode cX11_all 81 = .ok (.iload_n 3, 1) := by decide +kernel
theorem dX11_all_82 : decode cX11_all 82 = .ok (.ifCond .eq 47, 3) := by decide +kernel
theorem dX11_all_85 : decode cX11_all 85 = .ok (.iload_n 2, 1) := by decide +kernel
theorem dX11_all_86 : decode cX11_all 86 = .ok (.aload_n 0, 1) := by decide +kernel
theorem dX11_all_87 : decode cX11_all 87 = .ok (.getfield 81, 3) := by decide +kernel
theorem dX11_all_90 : decode cX11_all 90 = .ok (.if_icmp .ge 39, 3) := by decide +kernel
theorem dX11_all_93 : decode cX11_all 93 = .ok (.aload_n 0, 1) := by decide +kernel
theorem dX11_all_94 : decode cX11_all 94 = .ok (.iconst 0, 1) := by decide +kernel
theorem dX11_all_95 : decode cX11_all 95 = .ok (.putfield 115, 3) := by decide +kernel
theorem dX11_all_98 : decode cX11_all 98 = .ok (.aload_n 0, 1) := by decide +kernel
theorem dX11_all_99 : decode cX11_all 99 = .ok (.sipush 4096, 3) := by decide +kernel
theorem dX11_all_102 : decode cX11_all 102 = .ok (.invokevirtual 312, 3) := by decide +kernel
theorem dX11_all_105 : decode cX11_all 105 = .ok (.ifCond .ne 7, 3) := by decide +kernel
theorem dX11_all_108 : decode cX11_all 108 = .ok (.iconst 1, 1) := by decide +kernel
theorem dX11_all_109 : decode cX11_all 109 = .ok (.goto 4, 3) := by decide +kernel
theorem dX11_all_112 : decode cX11_all 112 = .ok (.iconst 0, 1) := by decide +kernel
theorem dX11_all_113 : decode cX11_all 113 = .ok (.istore_n 3, 1) := by decide +kernel
theorem dX11_all_114 : decode cX11_all 114 = .ok (.iload_n 3, 1) := by decide +kernel
theorem dX11_all_115 : decode cX11_all 115 = .ok (.ifCond .eq 9, 3) := by decide +kernel
theorem dX11_all_118 : decode cX11_all 118 = .ok (.iload_n 2, 1) := by decide +kernel
theorem dX11_all_119 : decode cX11_all 119 = .ok (.iconst 1, 1) := by decide +kernel
theorem dX11_all_120 : decode cX11_all 120 = .ok (.iadd, 1) := by decide +kernel
theorem dX11_all_121 : decode cX11_all 121 = .ok (.goto 4, 3) := by decide +kernel
theorem dX11_all_124 : decode cX11_all 124 = .ok (.iload_n 2, 1) := by decide +kernel
theorem dX11_all_125 : decode cX11_all 125 = .ok (.istore_n 2, 1) := by decide +kernel
theorem dX11_all_126 : decode cX11_all 126 = .ok (.goto (-45), 3) := by decide +kernel
theorem dX11_all_129 : decode cX11_all 129 = .ok (.iload_n 2, 1) := by decide +kernel
theorem dX11_all_130 : decode cX11_all 130 = .ok (.ireturn, 1) := by decide +kernel
theorem dX11_fits_0 : decode cX11_fits 0 = .ok (.aload_n 0, 1) := by decide +kernel
theorem dX11_fits_1 : decode cX11_fits 1 = .ok (.iload_n 1, 1) := by decide +kernel
theorem dX11_fits_2 : decode cX11_fits 2 = .ok (.invokestatic 76, 3) := by decide +kernel
theorem dX11_fits_5 : decode cX11_fits 5 = .ok (.ifCond .eq 10, 3) := by decide +kernel
theorem dX11_fits_8 : decode cX11_fits 8 = .ok (.iload_n 2, 1) := by decide +kernel
theorem dX11_fits_9 : decode cX11_fits 9 = .ok (.invokestatic 76, 3) := by decide +kernel
theorem dX11_fits_12 : decode cX11_fits 12 = .ok (.ifCond .ne 7, 3) := by decide +kernel
theorem dX11_fits_15 : decode cX11_fits 15 = .ok (.iconst 1, 1) := by decide +kernel
theorem dX11_fits_16 : decode cX11_fits 16 = .ok (.goto 4, 3) := by decide +kernel
theorem dX11_fits_19 : decode cX11_fits 19 = .ok (.iconst 0, 1) := by decide +kernel
theorem dX11_fits_20 : decode cX11_fits 20 = .ok (.iload_n 1, 1) := by decide +kernel
theorem dX11_fits_21 : decode cX11_fits 21 = .ok (.invokestatic 76, 3) := by decide +kernel
theorem dX11_fits_24 : decode cX11_fits 24 = .ok (.ifCond .eq 32, 3) := by decide +kernel
theorem dX11_fits_27 : decode cX11_fits 27 = .ok (.iload_n 2, 1) := by decide +kernel
theorem dX11_fits_28 : decode cX11_fits 28 = .ok (.invokestatic 76, 3) := by decide +kernel
theorem dX11_fits_31 : decode cX11_fits 31 = .ok (.ifCond .eq 25, 3) := by decide +kernel
theorem dX11_fits_34 : decode cX11_fits 34 = .ok (.aload_n 0, 1) := by decide +kernel
theorem dX11_fits_35 : decode cX11_fits 35 = .ok (.getfield 31, 3) := by decide +kernel
theorem dX11_fits_38 : decode cX11_fits 38 = .ok (.iload_n 1, 1) := by decide +kernel
theorem dX11_fits_39 : decode cX11_fits 39 = .ok (.iaload, 1) := by decide +kernel
theorem dX11_fits_40 : decode cX11_fits 40 = .ok (.ifCond .lt 12, 3) := by decide +kernel
theorem dX11_fits_43 : decode cX11_fits 43 = .ok (.aload_n 0, 1) := by decide +kernel
theorem dX11_fits_44 : decode cX11_fits 44 = .ok (.getfield 31, 3) := by decide +kernel
theorem dX11_fits_47 : decode cX11_fits 47 = .ok (.iload_n 2, 1) := by decide +kernel
theorem dX11_fits_48 : decode cX11_fits 48 = .ok (.iaload, 1) := by decide +kernel
theorem dX11_fits_49 : decode cX11_fits 49 = .ok (.ifCond .ge 7, 3) := by decide +kernel
theorem dX11_fits_52 : decode cX11_fits 52 = .ok (.iconst 1, 1) := by decide +kernel
theorem dX11_fits_53 : decode cX11_fits 53 = .ok (.goto 4, 3) := by decide +kernel
theorem dX11_fits_56 : decode cX11_fits 56 = .ok (.iconst 0, 1) := by decide +kernel
theorem dX11_fits_57 : decode cX11_fits 57 = .ok (.invokevirtual 60, 3) := by decide +kernel
theorem dX11_fits_60 : decode cX11_fits 60 = .ok (.ifCond .eq 5, 3) := by decide +kernel
theorem dX11_fits_63 : decode cX11_fits 63 = .ok (.iconst 0, 1) := by decide +kernel
theorem dX11_fits_64 : decode cX11_fits 64 = .ok (.ireturn, 1) := by decide +kernel
theorem dX11_fits_65 : decode cX11_fits 65 = .ok (.aload_n 0, 1) := by decide +kernel
theorem dX11_fits_66 : decode cX11_fits 66 = .ok (.aload_n 0, 1) := by decide +kernel
theorem dX11_fits_67 : decode cX11_fits 67 = .ok (.getfield 20, 3) := by decide +kernel
theorem dX11_fits_70 : decode cX11_fits 70 = .ok (.iload_n 1, 1) := by decide +kernel
theorem dX11_fits_71 : decode cX11_fits 71 = .ok (.invokevirtual 191, 3) := by decide +kernel
theorem dX11_fits_74 : decode cX11_fits 74 = .ok (.aload_n 0, 1) := by decide +kernel
theorem dX11_fits_75 : decode cX11_fits 75 = .ok (.aload_n 0, 1) := by decide +kernel
theorem dX11_fits_76 : decode cX11_fits 76 = .ok (.getfield 24, 3) := by decide +kernel
theorem dX11_fits_79 : decode cX11_fits 79 = .ok (.iload_n 2, 1) := by decide +kernel
theorem dX11_fits_80 : decode cX11_fits 80 = .ok (.invokevirtual 191, 3) := by decide +kernel
theorem dX11_fits_83 : decode cX11_fits 83 = .ok (.aload_n 0, 1) := by decide +kernel
theorem dX11_fits_84 : decode cX11_fits 84 = .ok (.aload_n 0, 1) := by decide +kernel
theorem dX11_fits_85 : decode cX11_fits 85 = .ok (.getfield 20, 3) := by decide +kernel
theorem dX11_fits_88 : decode cX11_fits 88 = .ok (.aload_n 0, 1) := by decide +kernel
theorem dX11_fits_89 : decode cX11_fits 89 = .ok (.getfield 24, 3) := by decide +kernel
theorem dX11_fits_92 : decode cX11_fits 92 = .ok (.invokevirtual 316, 3) := by decide +kernel
theorem dX11_fits_95 : decode cX11_fits 95 = .ok (.ireturn, 1) := by decide +kernel
theorem dJ11_isValidCodePoint_9a6ad_0 : decode cJ11_isValidCodePoint_9a6ad 0 = .ok (.iload_n 0, 1) := by decide +kernel
theorem dJ11_isValidCodePoint_9a6ad_1 : decode cJ11_isValidCodePoint_9a6ad 1 = .ok (.bipush 16, 2) := by decide +kernel
theorem dJ11_isValidCodePoint_9a6ad_3 : decode cJ11_isValidCodePoint_9a6ad 3 = .ok (.iushr, 1) := by decide +kernel
theorem dJ11_isValidCodePoint_9a6ad_4 : decode cJ11_isValidCodePoint_9a6ad 4 = .ok (.istore_n 1, 1) := by decide +kernel
theorem dJ11_isValidCodePoint_9a6ad_5 : decode cJ11_isValidCodePoint_9a6ad 5 = .ok (.iload_n 1, 1) := by decide +kernel
theorem dJ11_isValidCodePoint_9a6ad_6 : decode cJ11_isValidCodePoint_9a6ad 6 = .ok (.bipush 17, 2) := by decide +kernel
theorem dJ11_isValidCodePoint_9a6ad_8 : decode cJ11_isValidCodePoint_9a6ad 8 = .ok (.if_icmp .ge 7, 3) := by decide +kernel
theorem dJ11_isValidCodePoint_9a6ad_11 : decode cJ11_isValidCodePoint_9a6ad 11 = .ok (.iconst 1, 1) := by decide +kernel
theorem dJ11_isValidCodePoint_9a6ad_12 : decode cJ11_isValidCodePoint_9a6ad 12 = .ok (.goto 4, 3) := by decide +kernel
theorem dJ11_isValidCodePoint_9a6ad_15 : decode cJ11_isValidCodePoint_9a6ad 15 = .ok (.iconst 0, 1) := by decide +kernel
theorem dJ11_isValidCodePoint_9a6ad_16 : decode cJ11_isValidCodePoint_9a6ad 16 = .ok (.ireturn, 1) := by decide +kernel
theorem dJ11_highSurrogate_5068e_0 : decode cJ11_highSurrogate_5068e 0 = .ok (.iload_n 0, 1) := by decide +kernel
theorem dJ11_highSurrogate_5068e_1 : decode cJ11_highSurrogate_5068e 1 = .ok (.bipush 10, 2) := by decide +kernel
theorem dJ11_highSurrogate_5068e_3 : decode cJ11_highSurrogate_5068e 3 = .ok (.iushr, 1) := by decide +kernel
theorem dJ11_highSurrogate_5068e_4 : decode cJ11_highSurrogate_5068e 4 = .ok (.ldc 110, 2) := by decide +kernel
theorem dJ11_highSurrogate_5068e_6 : decode cJ11_highSurrogate_5068e 6 = .ok (.iadd, 1) := by decide +kernel
theorem dJ11_highSurrogate_5068e_7 : decode cJ11_highSurrogate_5068e 7 = .ok (.i2c, 1) := by decide +kernel
theorem dJ11_highSurrogate_5068e_8 : decode cJ11_highSurrogate_5068e 8 = .ok (.ireturn, 1) := by decide +kernel
theorem dJ11_lowSurrogate_5068e_0 : decode cJ11_lowSurrogate_5068e 0 = .ok (.iload_n 0, 1) := by decide +kernel
theorem dJ11_lowSurrogate_5068e_1 : decode cJ11_lowSurrogate_5068e 1 = .ok (.sipush 1023, 3) := by decide +kernel
theorem dJ11_lowSurrogate_5068e_4 : decode cJ11_lowSurrogate_5068e 4 = .ok (.iand, 1) := by decide +kernel
theorem dJ11_lowSurrogate_5068e_5 : decode cJ11_lowSurrogate_5068e 5 = .ok (.ldc 76, 2) := by decide +kernel
theorem dJ11_lowSurrogate_5068e_7 : decode cJ11_lowSurrogate_5068e 7 = .ok (.iadd, 1) := by decide +kernel
theorem dJ11_lowSurrogate_5068e_8 : decode cJ11_lowSurrogate_5068e 8 = .ok (.i2c, 1) := by decide +kernel
theorem dJ11_lowSurrogate_5068e_9 : decode cJ11_lowSurrogate_5068e 9 = .ok (.ireturn, 1) := by decide +kernel
theorem dJ9_abs_067f4_0 : decode cJ9_abs_067f4 0 = .ok (.lload_n 0, 1) := by decide +kernel
theorem dJ9_abs_067f4_1 : decode cJ9_abs_067f4 1 = .ok (.lconst 0, 1) := by decide +kernel
theorem dJ9_abs_067f4_2 : decode cJ9_abs_067f4 2 = .ok (.lcmp, 1) := by decide +kernel
theorem dJ9_abs_067f4_3 : decode cJ9_abs_067f4 3 = .ok (.ifCond .ge 8, 3) := by decide +kernel
theorem dJ9_abs_067f4_6 : decode cJ9_abs_067f4 6 = .ok (.lload_n 0, 1) := by decide +kernel
theorem dJ9_abs_067f4_7 : decode cJ9_abs_067f4 7 = .ok (.lneg, 1) := by decide +kernel
theorem dJ9_abs_067f4_8 : decode cJ9_abs_067f4 8 = .ok (.goto 4, 3) := by decide +kernel
theorem dJ9_abs_067f4_11 : decode cJ9_abs_067f4 11 = .ok (.lload_n 0, 1) := by decide +kernel
theorem dJ9_abs_067f4_12 : decode cJ9_abs_067f4 12 = .ok (.lreturn, 1) := by decide +kernel
theorem dJ9_max_7cf53_0 : decode cJ9_max_7cf53 0 = .ok (.iload_n 0, 1) := by decide +kernel
theorem dJ9_max_7cf53_1 : decode cJ9_max_7cf53 1 = .ok (.iload_n 1, 1) := by decide +kernel
theorem dJ9_max_7cf53_2 : decode cJ9_max_7cf53 2 = .ok (.if_icmp .lt 7, 3) := by decide +kernel
theorem dJ9_max_7cf53_5 : decode cJ9_max_7cf53 5 = .ok (.iload_n 0, 1) := by decide +kernel
theorem dJ9_max_7cf53_6 : decode cJ9_max_7cf53 6 = .ok (.goto 4, 3) := by decide +kernel
theorem dJ9_max_7cf53_9 : decode cJ9_max_7cf53 9 = .ok (.iload_n 1, 1) := by decide +kernel
theorem dJ9_max_7cf53_10 : decode cJ9_max_7cf53 10 = .ok (.ireturn, 1) := by decide +kernel
theorem dJ9_min_7cf53_0 : decode cJ9_min_7cf53 0 = .ok (.iload_n 0, 1) := by decide +kernel
theorem dJ9_min_7cf53_1 : decode cJ9_min_7cf53 1 = .ok (.iload_n 1, 1) := by decide +kernel
theorem dJ9_min_7cf53_2 : decode cJ9_min_7cf53 2 = .ok (.if_icmp .gt 7, 3) := by decide +kernel
theorem dJ9_min_7cf53_5 : decode cJ9_min_7cf53 5 = .ok (.iload_n 0, 1) := by decide +kernel
theorem dJ9_min_7cf53_6 : decode cJ9_min_7cf53 6 = .ok (.goto 4, 3) := by decide +kernel
theorem dJ9_min_7cf53_9 : decode cJ9_min_7cf53 9 = .ok (.iload_n 1, 1) := by decide +kernel
theorem dJ9_min_7cf53_10 : decode cJ9_min_7cf53 10 = .ok (.ireturn, 1) := by decide +kernel
theorem dJ0_length_8abf5_0 : decode cJ0_length_8abf5 0 = .ok (.aload_n 0, 1) := by decide +kernel
theorem dJ0_length_8abf5_1 : decode cJ0_length_8abf5 1 = .ok (.getfield 9, 3) := by decide +kernel
theorem dJ0_length_8abf5_4 : decode cJ0_length_8abf5 4 = .ok (.arraylength, 1) := by decide +kernel
theorem dJ0_length_8abf5_5 : decode cJ0_length_8abf5 5 = .ok (.aload_n 0, 1) := by decide +kernel
theorem dJ0_length_8abf5_6 : decode cJ0_length_8abf5 6 = .ok (.invokevirtual 335, 3) := by decide +kernel
theorem dJ0_length_8abf5_9 : decode cJ0_length_8abf5 9 = .ok (.ishr, 1) := by decide +kernel
theorem dJ0_length_8abf5_10 : decode cJ0_length_8abf5 10 = .ok (.ireturn, 1) := by decide +kernel
theorem dJ0_charAt_5068e_0 : decode cJ0_charAt_5068e 0 = .ok (.aload_n 0, 1) := by decide +kernel
theorem dJ0_charAt_5068e_1 : decode cJ0_charAt_5068e 1 = .ok (.invokevirtual 492, 3) := by decide +kernel
theorem dJ0_charAt_5068e_4 : decode cJ0_charAt_5068e 4 = .ok (.ifCond .eq 12, 3) := by decide +kernel
theorem dJ0_charAt_5068e_7 : decode cJ0_charAt_5068e 7 = .ok (.aload_n 0, 1) := by decide +kernel
theorem dJ0_charAt_5068e_8 : decode cJ0_charAt_5068e 8 = .ok (.getfield 9, 3) := by decide +kernel
theorem dJ0_charAt_5068e_11 : decode cJ0_charAt_5068e 11 = .ok (.iload_n 1, 1) := by decide +kernel
theorem dJ0_charAt_5068e_12 : decode cJ0_charAt_5068e 12 = .ok (.invokestatic 495, 3) := by decide +kernel
theorem dJ0_charAt_5068e_15 : decode cJ0_charAt_5068e 15 = .ok (.ireturn, 1) := by decide +kernel
theorem dJ0_charAt_5068e_16 : decode cJ0_charAt_5068e 16 = .ok (.aload_n 0, 1) := by decide +kernel
theorem dJ0_charAt_5068e_17 : decode cJ0_charAt_5068e 17 = .ok (.getfield 9, 3) := by decide +kernel
theorem dJ0_charAt_5068e_20 : decode cJ0_charAt_5068e 20 = .ok (.iload_n 1, 1) := by decide +kernel
theorem dJ0_charAt_5068e_21 : decode cJ0_charAt_5068e 21 = .ok (.invokestatic 498, 3) := by decide +kernel
theorem dJ0_charAt_5068e_24 : decode cJ0_charAt_5068e 24 = .ok (.ireturn, 1) := by decide +kernel
theorem dJ0_indexOf_0f7a4_0 : decode cJ0_indexOf_0f7a4 0 = .ok (.aload_n 0, 1) := by decide +kernel
theorem dJ0_indexOf_0f7a4_1 : decode cJ0_indexOf_0f7a4 1 = .ok (.iload_n 1, 1) := by decide +kernel
theorem dJ0_indexOf_0f7a4_2 : decode cJ0_indexOf_0f7a4 2 = .ok (.iconst 0, 1) := by decide +kernel
theorem dJ0_indexOf_0f7a4_3 : decode cJ0_indexOf_0f7a4 3 = .ok (.invokevirtual 633, 3) := by decide +kernel
theorem dJ0_indexOf_0f7a4_6 : decode cJ0_indexOf_0f7a4 6 = .ok (.ireturn, 1) := by decide +kernel
theorem dJ0_indexOf_7cf53_0 : decode cJ0_indexOf_7cf53 0 = .ok (.aload_n 0, 1) := by decide +kernel
theorem dJ0_indexOf_7cf53_1 : decode cJ0_indexOf_7cf53 1 = .ok (.invokevirtual 492, 3) := by decide +kernel
theorem dJ0_indexOf_7cf53_4 : decode cJ0_indexOf_7cf53 4 = .ok (.ifCond .eq 19, 3) := by decide +kernel
theorem dJ0_indexOf_7cf53_7 : decode cJ0_indexOf_7cf53 7 = .ok (.aload_n 0, 1) := by decide +kernel
theorem dJ0_indexOf_7cf53_8 : decode cJ0_indexOf_7cf53 8 = .ok (.getfield 9, 3) := by decide +kernel
theorem dJ0_indexOf_7cf53_11 : decode cJ0_indexOf_7cf53 11 = .ok (.iload_n 1, 1) := by decide +kernel
theorem dJ0_indexOf_7cf53_12 : decode cJ0_indexOf_7cf53 12 = .ok (.iload_n 2, 1) := by decide +kernel
theorem dJ0_indexOf_7cf53_13 : decode cJ0_indexOf_7cf53 13 = .ok (.aload_n 0, 1) := by decide +kernel
theorem dJ0_indexOf_7cf53_14 : decode cJ0_indexOf_7cf53 14 = .ok (.invokevirtual 505, 3) := by decide +kernel
theorem dJ0_indexOf_7cf53_17 : decode cJ0_indexOf_7cf53 17 = .ok (.invokestatic 637, 3) := by decide +kernel
theorem dJ0_indexOf_7cf53_20 : decode cJ0_indexOf_7cf53 20 = .ok (.goto 16, 3) := by decide +kernel
theorem dJ0_indexOf_7cf53_23 : decode cJ0_indexOf_7cf53 23 = .ok (.aload_n 0, 1) := by decide +kernel
theorem dJ0_indexOf_7cf53_24 : decode cJ0_indexOf_7cf53 24 = .ok (.getfield 9, 3) := by decide +kernel
theorem dJ0_indexOf_7cf53_27 : decode cJ0_indexOf_7cf53 27 = .ok (.iload_n 1, 1) := by decide +kernel
theorem dJ0_indexOf_7cf53_28 : decode cJ0_indexOf_7cf53 28 = .ok (.iload_n 2, 1) := by decide +kernel
theorem dJ0_indexOf_7cf53_29 : decode cJ0_indexOf_7cf53 29 = .ok (.aload_n 0, 1) := by decide +kernel
theorem dJ0_indexOf_7cf53_30 : decode cJ0_indexOf_7cf53 30 = .ok (.invokevirtual 505, 3) := by decide +kernel
theorem dJ0_indexOf_7cf53_33 : decode cJ0_indexOf_7cf53 33 = .ok (.invokestatic 640, 3) := by decide +kernel
theorem dJ0_indexOf_7cf53_36 : decode cJ0_indexOf_7cf53 36 = .ok (.ireturn, 1) := by decide +kernel
theorem dJ0_coder_7d493_0 : decode cJ0_coder_7d493 0 = .ok (.getstatic 38, 3) := by decide +kernel
theorem dJ0_coder_7d493_3 : decode cJ0_coder_7d493 3 = .ok (.ifCond .eq 10, 3) := by decide +kernel
theorem dJ0_coder_7d493_6 : decode cJ0_coder_7d493 6 = .ok (.aload_n 0, 1) := by decide +kernel
theorem dJ0_coder_7d493_7 : decode cJ0_coder_7d493 7 = .ok (.getfield 15, 3) := by decide +kernel
theorem dJ0_coder_7d493_10 : decode cJ0_coder_7d493 10 = .ok (.goto 4, 3) := by decide +kernel
theorem dJ0_coder_7d493_13 : decode cJ0_coder_7d493 13 = .ok (.iconst 1, 1) := by decide +kernel
theorem dJ0_coder_7d493_14 : decode cJ0_coder_7d493 14 = .ok (.ireturn, 1) := by decide +kernel
theorem dJ0_isLatin1_aae02_0 : decode cJ0_isLatin1_aae02 0 = .ok (.getstatic 38, 3) := by decide +kernel
theorem dJ0_isLatin1_aae02_3 : decode cJ0_isLatin1_aae02 3 = .ok (.ifCond .eq 14, 3) := by decide +kernel
theorem dJ0_isLatin1_aae02_6 : decode cJ0_isLatin1_aae02 6 = .ok (.aload_n 0, 1) := by decide +kernel
theorem dJ0_isLatin1_aae02_7 : decode cJ0_isLatin1_aae02 7 = .ok (.getfield 15, 3) := by decide +kernel
theorem dJ0_isLatin1_aae02_10 : decode cJ0_isLatin1_aae02 10 = .ok (.ifCond .ne 7, 3) := by decide +kernel
theorem dJ0_isLatin1_aae02_13 : decode cJ0_isLatin1_aae02 13 = .ok (.iconst 1, 1) := by decide +kernel
theorem dJ0_isLatin1_aae02_14 : decode cJ0_isLatin1_aae02 14 = .ok (.goto 4, 3) := by decide +kernel
theorem dJ0_isLatin1_aae02_17 : decode cJ0_isLatin1_aae02 17 = .ok (.iconst 0, 1) := by decide +kernel
theorem dJ0_isLatin1_aae02_18 : decode cJ0_isLatin1_aae02 18 = .ok (.ireturn, 1) := by decide +kernel
theorem dJ0_checkIndex_df160_0 : decode cJ0_checkIndex_df160 0 = .ok (.iload_n 0, 1) := by decide +kernel
theorem dJ0_checkIndex_df160_1 : decode cJ0_checkIndex_df160 1 = .ok (.iload_n 1, 1) := by decide +kernel
theorem dJ0_checkIndex_df160_2 : decode cJ0_checkIndex_df160 2 = .ok (.getstatic 1053, 3) := by decide +kernel
theorem dJ0_checkIndex_df160_5 : decode cJ0_checkIndex_df160 5 = .ok (.invokestatic 1059, 3) := by decide +kernel
theorem dJ0_checkIndex_df160_8 : decode cJ0_checkIndex_df160 8 = .ok (.pop, 1) := by decide +kernel
theorem dJ0_checkIndex_df160_9 : decode cJ0_checkIndex_df160 9 = .ok (.return_, 1) := by decide +kernel
theorem dJ0_checkBoundsBeginEnd_23922_0 : decode cJ0_checkBoundsBeginEnd_23922 0 = .ok (.iload_n 0, 1) := by decide +kernel
theorem dJ0_checkBoundsBeginEnd_23922_1 : decode cJ0_checkBoundsBeginEnd_23922 1 = .ok (.iload_n 1, 1) := by decide +kernel
theorem dJ0_checkBoundsBeginEnd_23922_2 : decode cJ0_checkBoundsBeginEnd_23922 2 = .ok (.iload_n 2, 1) := by decide +kernel
theorem dJ0_checkBoundsBeginEnd_23922_3 : decode cJ0_checkBoundsBeginEnd_23922 3 = .ok (.getstatic 1053, 3) := by decide +kernel
theorem dJ0_checkBoundsBeginEnd_23922_6 : decode cJ0_checkBoundsBeginEnd_23922 6 = .ok (.invokestatic 1062, 3) := by decide +kernel
theorem dJ0_checkBoundsBeginEnd_23922_9 : decode cJ0_checkBoundsBeginEnd_23922 9 = .ok (.pop, 1) := by decide +kernel
theorem dJ0_checkBoundsBeginEnd_23922_10 : decode cJ0_checkBoundsBeginEnd_23922 10 = .ok (.return_, 1) := by decide +kernel
theorem dJ1_charAt_3b067_0 : decode cJ1_charAt_3b067 0 = .ok (.iload_n 1, 1) := by decide +kernel
theorem dJ1_charAt_3b067_1 : decode cJ1_charAt_3b067 1 = .ok (.aload_n 0, 1) := by decide +kernel
theorem dJ1_charAt_3b067_2 : decode cJ1_charAt_3b067 2 = .ok (.arraylength, 1) := by decide +kernel
theorem dJ1_charAt_3b067_3 : decode cJ1_charAt_3b067 3 = .ok (.invokestatic 9, 3) := by decide +kernel
theorem dJ1_charAt_3b067_6 : decode cJ1_charAt_3b067 6 = .ok (.aload_n 0, 1) := by decide +kernel
theorem dJ1_charAt_3b067_7 : decode cJ1_charAt_3b067 7 = .ok (.iload_n 1, 1) := by decide +kernel
theorem dJ1_charAt_3b067_8 : decode cJ1_charAt_3b067 8 = .ok (.baload, 1) := by decide +kernel
theorem dJ1_charAt_3b067_9 : decode cJ1_charAt_3b067 9 = .ok (.sipush 255, 3) := by decide +kernel
theorem dJ1_charAt_3b067_12 : decode cJ1_charAt_3b067 12 = .ok (.iand, 1) := by decide +kernel
theorem dJ1_charAt_3b067_13 : decode cJ1_charAt_3b067 13 = .ok (.i2c, 1) := by decide +kernel
theorem dJ1_charAt_3b067_14 : decode cJ1_charAt_3b067 14 = .ok (.ireturn, 1) := by decide +kernel
theorem dJ1_canEncode_9a6ad_0 : decode cJ1_canEncode_9a6ad 0 = .ok (.iload_n 0, 1) := by decide +kernel
theorem dJ1_canEncode_9a6ad_1 : decode cJ1_canEncode_9a6ad 1 = .ok (.ifCond .lt 14, 3) := by decide +kernel
theorem dJ1_canEncode_9a6ad_4 : decode cJ1_canEncode_9a6ad 4 = .ok (.iload_n 0, 1) := by decide +kernel
theorem dJ1_canEncode_9a6ad_5 : decode cJ1_canEncode_9a6ad 5 = .ok (.sipush 255, 3) := by decide +kernel
theorem dJ1_canEncode_9a6ad_8 : decode cJ1_canEncode_9a6ad 8 = .ok (.if_icmp .gt 7, 3) := by decide +kernel
theorem dJ1_canEncode_9a6ad_11 : decode cJ1_canEncode_9a6ad 11 = .ok (.iconst 1, 1) := by decide +kernel
theorem dJ1_canEncode_9a6ad_12 : decode cJ1_canEncode_9a6ad 12 = .ok (.goto 4, 3) := by decide +kernel
theorem dJ1_canEncode_9a6ad_15 : decode cJ1_canEncode_9a6ad 15 = .ok (.iconst 0, 1) := by decide +kernel
theorem dJ1_canEncode_9a6ad_16 : decode cJ1_canEncode_9a6ad 16 = .ok (.ireturn, 1) := by decide +kernel
theorem dJ1_indexOf_4cfef_0 : decode cJ1_indexOf_4cfef 0 = .ok (.iload_n 1, 1) := by decide +kernel
theorem dJ1_indexOf_4cfef_1 : decode cJ1_indexOf_4cfef 1 = .ok (.invokestatic 88, 3) := by decide +kernel
theorem dJ1_indexOf_4cfef_4 : decode cJ1_indexOf_4cfef 4 = .ok (.ifCond .ne 5, 3) := by decide +kernel
theorem dJ1_indexOf_4cfef_7 : decode cJ1_indexOf_4cfef 7 = .ok (.iconst (-1), 1) := by decide +kernel
theorem dJ1_indexOf_4cfef_8 : decode cJ1_indexOf_4cfef 8 = .ok (.ireturn, 1) := by decide +kernel
theorem dJ1_indexOf_4cfef_9 : decode cJ1_indexOf_4cfef 9 = .ok (.iload_n 2, 1) := by decide +kernel
theorem dJ1_indexOf_4cfef_10 : decode cJ1_indexOf_4cfef 10 = .ok (.iconst 0, 1) := by decide +kernel
theorem dJ1_indexOf_4cfef_11 : decode cJ1_indexOf_4cfef 11 = .ok (.invokestatic 92, 3) := by decide +kernel
theorem dJ1_indexOf_4cfef_14 : decode cJ1_indexOf_4cfef 14 = .ok (.istore_n 2, 1) := by decide +kernel
theorem dJ1_indexOf_4cfef_15 : decode cJ1_indexOf_4cfef 15 = .ok (.iload_n 3, 1) := by decide +kernel
theorem dJ1_indexOf_4cfef_16 : decode cJ1_indexOf_4cfef 16 = .ok (.aload_n 0, 1) := by decide +kernel
theorem dJ1_indexOf_4cfef_17 : decode cJ1_indexOf_4cfef 17 = .ok (.arraylength, 1) := by decide +kernel
theorem dJ1_indexOf_4cfef_18 : decode cJ1_indexOf_4cfef 18 = .ok (.invokestatic 38, 3) := by decide +kernel
theorem dJ1_indexOf_4cfef_21 : decode cJ1_indexOf_4cfef 21 = .ok (.istore_n 3, 1) := by decide +kernel
theorem dJ1_indexOf_4cfef_22 : decode cJ1_indexOf_4cfef 22 = .ok (.iload_n 2, 1) := by decide +kernel
theorem dJ1_indexOf_4cfef_23 : decode cJ1_indexOf_4cfef 23 = .ok (.iload_n 3, 1) := by decide +kernel
theorem dJ1_indexOf_4cfef_24 : decode cJ1_indexOf_4cfef 24 = .ok (.if_icmp .lt 5, 3) := by decide +kernel
theorem dJ1_indexOf_4cfef_27 : decode cJ1_indexOf_4cfef 27 = .ok (.iconst (-1), 1) := by decide +kernel
theorem dJ1_indexOf_4cfef_28 : decode cJ1_indexOf_4cfef 28 = .ok (.ireturn, 1) := by decide +kernel
theorem dJ1_indexOf_4cfef_29 : decode cJ1_indexOf_4cfef 29 = .ok (.aload_n 0, 1) := by decide +kernel
theorem dJ1_indexOf_4cfef_30 : decode cJ1_indexOf_4cfef 30 = .ok (.iload_n 1, 1) := by decide +kernel
theorem dJ1_indexOf_4cfef_31 : decode cJ1_indexOf_4cfef 31 = .ok (.iload_n 2, 1) := by decide +kernel
theorem dJ1_indexOf_4cfef_32 : decode cJ1_indexOf_4cfef 32 = .ok (.iload_n 3, 1) := by decide +kernel
theorem dJ1_indexOf_4cfef_33 : decode cJ1_indexOf_4cfef 33 = .ok (.invokestatic 95, 3) := by decide +kernel
theorem dJ1_indexOf_4cfef_36 : decode cJ1_indexOf_4cfef 36 = .ok (.ireturn, 1) := by decide +kernel
theorem dJ1_indexOfChar_4cfef_0 : decode cJ1_indexOfChar_4cfef 0 = .ok (.iload_n 1, 1) := by decide +kernel
theorem dJ1_indexOfChar_4cfef_1 : decode cJ1_indexOfChar_4cfef 1 = .ok (.i2b, 1) := by decide +kernel
theorem dJ1_indexOfChar_4cfef_2 : decode cJ1_indexOfChar_4cfef 2 = .ok (.istore 4, 2) := by decide +kernel
theorem dJ1_indexOfChar_4cfef_4 : decode cJ1_indexOfChar_4cfef 4 = .ok (.iload_n 2, 1) := by decide +kernel
theorem dJ1_indexOfChar_4cfef_5 : decode cJ1_indexOfChar_4cfef 5 = .ok (.istore 5, 2) := by decide +kernel
theorem dJ1_indexOfChar_4cfef_7 : decode cJ1_indexOfChar_4cfef 7 = .ok (.iload 5, 2) := by decide +kernel
theorem dJ1_indexOfChar_4cfef_9 : decode cJ1_indexOfChar_4cfef 9 = .ok (.iload_n 3, 1) := by decide +kernel
theorem dJ1_indexOfChar_4cfef_10 : decode cJ1_indexOfChar_4cfef 10 = .ok (.if_icmp .ge 21, 3) := by decide +kernel
theorem dJ1_indexOfChar_4cfef_13 : decode cJ1_indexOfChar_4cfef 13 = .ok (.aload_n 0, 1) := by decide +kernel
theorem dJ1_indexOfChar_4cfef_14 : decode cJ1_indexOfChar_4cfef 14 = .ok (.iload 5, 2) := by decide +kernel
theorem dJ1_indexOfChar_4cfef_16 : decode cJ1_indexOfChar_4cfef 16 = .ok (.baload, 1) := by decide +kernel
theorem dJ1_indexOfChar_4cfef_17 : decode cJ1_indexOfChar_4cfef 17 = .ok (.iload 4, 2) := by decide +kernel
theorem dJ1_indexOfChar_4cfef_19 : decode cJ1_indexOfChar_4cfef 19 = .ok (.if_icmp .ne 6, 3) := by decide +kernel
theorem dJ1_indexOfChar_4cfef_22 : decode cJ1_indexOfChar_4cfef 22 = .ok (.iload 5, 2) := by decide +kernel
theorem dJ1_indexOfChar_4cfef_24 : decode cJ1_indexOfChar_4cfef 24 = .ok (.ireturn, 1) := by decide +kernel
theorem dJ1_indexOfChar_4cfef_25 : decode cJ1_indexOfChar_4cfef 25 = .ok (.iinc 5 1, 3) := by decide +kernel
theorem dJ1_indexOfChar_4cfef_28 : decode cJ1_indexOfChar_4cfef 28 = .ok (.goto (-21), 3) := by decide +kernel
theorem dJ1_indexOfChar_4cfef_31 : decode cJ1_indexOfChar_4cfef 31 = .ok (.iconst (-1), 1) := by decide +kernel
theorem dJ1_indexOfChar_4cfef_32 : decode cJ1_indexOfChar_4cfef 32 = .ok (.ireturn, 1) := by decide +kernel
theorem dJ2_getChar_3b067_0 : decode cJ2_getChar_3b067 0 = .ok (.getstatic 44, 3) := by decide +kernel
theorem dJ2_getChar_3b067_3 : decode cJ2_getChar_3b067 3 = .ok (.ifCond .ne 25, 3) := by decide +kernel
theorem dJ2_getChar_3b067_6 : decode cJ2_getChar_3b067 6 = .ok (.iload_n 1, 1) := by decide +kernel
theorem dJ2_getChar_3b067_7 : decode cJ2_getChar_3b067 7 = .ok (.ifCond .lt 11, 3) := by decide +kernel
theorem dJ2_getChar_3b067_10 : decode cJ2_getChar_3b067 10 = .ok (.iload_n 1, 1) := by decide +kernel
theorem dJ2_getChar_3b067_11 : decode cJ2_getChar_3b067 11 = .ok (.aload_n 0, 1) := by decide +kernel
theorem dJ2_getChar_3b067_12 : decode cJ2_getChar_3b067 12 = .ok (.invokestatic 48, 3) := by decide +kernel
theorem dJ2_getChar_3b067_15 : decode cJ2_getChar_3b067 15 = .ok (.if_icmp .lt 13, 3) := by decide +kernel
theorem dJ2_getChar_3b067_18 : decode cJ2_getChar_3b067 18 = .ok (.new 52, 3) := by decide +kernel
theorem dJ2_getChar_3b067_21 : decode cJ2_getChar_3b067 21 = .ok (.dup, 1) := by decide +kernel
theorem dJ2_getChar_3b067_22 : decode cJ2_getChar_3b067 22 = .ok (.ldc 54, 2) := by decide +kernel
theorem dJ2_getChar_3b067_24 : decode cJ2_getChar_3b067 24 = .ok (.invokespecial 56, 3) := by decide +kernel
theorem dJ2_getChar_3b067_27 : decode cJ2_getChar_3b067 27 = .ok (.athrow, 1) := by decide +kernel
theorem dJ2_getChar_3b067_28 : decode cJ2_getChar_3b067 28 = .ok (.iload_n 1, 1) := by decide +kernel
theorem dJ2_getChar_3b067_29 : decode cJ2_getChar_3b067 29 = .ok (.iconst 1, 1) := by decide +kernel
theorem dJ2_getChar_3b067_30 : decode cJ2_getChar_3b067 30 = .ok (.ishl, 1) := by decide +kernel
theorem dJ2_getChar_3b067_31 : decode cJ2_getChar_3b067 31 = .ok (.istore_n 1, 1) := by decide +kernel
theorem dJ2_getChar_3b067_32 : decode cJ2_getChar_3b067 32 = .ok (.aload_n 0, 1) := by decide +kernel
theorem dJ2_getChar_3b067_33 : decode cJ2_getChar_3b067 33 = .ok (.iload_n 1, 1) := by decide +kernel
theorem dJ2_getChar_3b067_34 : decode cJ2_getChar_3b067 34 = .ok (.iinc 1 1, 3) := by decide +kernel
theorem dJ2_getChar_3b067_37 : decode cJ2_getChar_3b067 37 = .ok (.baload, 1) := by decide +kernel
theorem dJ2_getChar_3b067_38 : decode cJ2_getChar_3b067 38 = .ok (.sipush 255, 3) := by decide +kernel
theorem dJ2_getChar_3b067_41 : decode cJ2_getChar_3b067 41 = .ok (.iand, 1) := by decide +kernel
theorem dJ2_getChar_3b067_42 : decode cJ2_getChar_3b067 42 = .ok (.getstatic 59, 3) := by decide +kernel
theorem dJ2_getChar_3b067_45 : decode cJ2_getChar_3b067 45 = .ok (.ishl, 1) := by decide +kernel
theorem dJ2_getChar_3b067_46 : decode cJ2_getChar_3b067 46 = .ok (.aload_n 0, 1) := by decide +kernel
theorem dJ2_getChar_3b067_47 : decode cJ2_getChar_3b067 47 = .ok (.iload_n 1, 1) := by decide +kernel
theorem dJ2_getChar_3b067_48 : decode cJ2_getChar_3b067 48 = .ok (.baload, 1) := by decide +kernel
theorem dJ2_getChar_3b067_49 : decode cJ2_getChar_3b067 49 = .ok (.sipush 255, 3) := by decide +kernel
theorem dJ2_getChar_3b067_52 : decode cJ2_getChar_3b067 52 = .ok (.iand, 1) := by decide +kernel
theorem dJ2_getChar_3b067_53 : decode cJ2_getChar_3b067 53 = .ok (.getstatic 63, 3) := by decide +kernel
theorem dJ2_getChar_3b067_56 : decode cJ2_getChar_3b067 56 = .ok (.ishl, 1) := by decide +kernel
theorem dJ2_getChar_3b067_57 : decode cJ2_getChar_3b067 57 = .ok (.ior, 1) := by decide +kernel
theorem dJ2_getChar_3b067_58 : decode cJ2_getChar_3b067 58 = .ok (.i2c, 1) := by decide +kernel
theorem dJ2_getChar_3b067_59 : decode cJ2_getChar_3b067 59 = .ok (.ireturn, 1) := by decide +kernel
theorem dJ2_length_9d52b_0 : decode cJ2_length_9d52b 0 = .ok (.aload_n 0, 1) := by decide +kernel
theorem dJ2_length_9d52b_1 : decode cJ2_length_9d52b 1 = .ok (.arraylength, 1) := by decide +kernel
theorem dJ2_length_9d52b_2 : decode cJ2_length_9d52b 2 = .ok (.iconst 1, 1) := by decide +kernel
theorem dJ2_length_9d52b_3 : decode cJ2_length_9d52b 3 = .ok (.ishr, 1) := by decide +kernel
theorem dJ2_length_9d52b_4 : decode cJ2_length_9d52b 4 = .ok (.ireturn, 1) := by decide +kernel
theorem dJ2_indexOf_4cfef_0 : decode cJ2_indexOf_4cfef 0 = .ok (.iload_n 2, 1) := by decide +kernel
theorem dJ2_indexOf_4cfef_1 : decode cJ2_indexOf_4cfef 1 = .ok (.iconst 0, 1) := by decide +kernel
theorem dJ2_indexOf_4cfef_2 : decode cJ2_indexOf_4cfef 2 = .ok (.invokestatic 224, 3) := by decide +kernel
theorem dJ2_indexOf_4cfef_5 : decode cJ2_indexOf_4cfef 5 = .ok (.istore_n 2, 1) := by decide +kernel
theorem dJ2_indexOf_4cfef_6 : decode cJ2_indexOf_4cfef 6 = .ok (.iload_n 3, 1) := by decide +kernel
theorem dJ2_indexOf_4cfef_7 : decode cJ2_indexOf_4cfef 7 = .ok (.aload_n 0, 1) := by decide +kernel
theorem dJ2_indexOf_4cfef_8 : decode cJ2_indexOf_4cfef 8 = .ok (.arraylength, 1) := by decide +kernel
theorem dJ2_indexOf_4cfef_9 : decode cJ2_indexOf_4cfef 9 = .ok (.iconst 1, 1) := by decide +kernel
theorem dJ2_indexOf_4cfef_10 : decode cJ2_indexOf_4cfef 10 = .ok (.ishr, 1) := by decide +kernel
theorem dJ2_indexOf_4cfef_11 : decode cJ2_indexOf_4cfef 11 = .ok (.invokestatic 183, 3) := by decide +kernel
theorem dJ2_indexOf_4cfef_14 : decode cJ2_indexOf_4cfef 14 = .ok (.istore_n 3, 1) := by decide +kernel
theorem dJ2_indexOf_4cfef_15 : decode cJ2_indexOf_4cfef 15 = .ok (.iload_n 2, 1) := by decide +kernel
theorem dJ2_indexOf_4cfef_16 : decode cJ2_indexOf_4cfef 16 = .ok (.iload_n 3, 1) := by decide +kernel
theorem dJ2_indexOf_4cfef_17 : decode cJ2_indexOf_4cfef 17 = .ok (.if_icmp .lt 5, 3) := by decide +kernel
theorem dJ2_indexOf_4cfef_20 : decode cJ2_indexOf_4cfef 20 = .ok (.iconst (-1), 1) := by decide +kernel
theorem dJ2_indexOf_4cfef_21 : decode cJ2_indexOf_4cfef 21 = .ok (.ireturn, 1) := by decide +kernel
theorem dJ2_indexOf_4cfef_22 : decode cJ2_indexOf_4cfef 22 = .ok (.iload_n 1, 1) := by decide +kernel
theorem dJ2_indexOf_4cfef_23 : decode cJ2_indexOf_4cfef 23 = .ok (.ldc 227, 2) := by decide +kernel
theorem dJ2_indexOf_4cfef_25 : decode cJ2_indexOf_4cfef 25 = .ok (.if_icmp .ge 11, 3) := by decide +kernel
theorem dJ2_indexOf_4cfef_28 : decode cJ2_indexOf_4cfef 28 = .ok (.aload_n 0, 1) := by decide +kernel
theorem dJ2_indexOf_4cfef_29 : decode cJ2_indexOf_4cfef 29 = .ok (.iload_n 1, 1) := by decide +kernel
theorem dJ2_indexOf_4cfef_30 : decode cJ2_indexOf_4cfef 30 = .ok (.iload_n 2, 1) := by decide +kernel
theorem dJ2_indexOf_4cfef_31 : decode cJ2_indexOf_4cfef 31 = .ok (.iload_n 3, 1) := by decide +kernel
theorem dJ2_indexOf_4cfef_32 : decode cJ2_indexOf_4cfef 32 = .ok (.invokestatic 228, 3) := by decide +kernel
theorem dJ2_indexOf_4cfef_35 : decode cJ2_indexOf_4cfef 35 = .ok (.ireturn, 1) := by decide +kernel
theorem dJ2_indexOf_4cfef_36 : decode cJ2_indexOf_4cfef 36 = .ok (.aload_n 0, 1) := by decide +kernel
theorem dJ2_indexOf_4cfef_37 : decode cJ2_indexOf_4cfef 37 = .ok (.iload_n 1, 1) := by decide +kernel
theorem dJ2_indexOf_4cfef_38 : decode cJ2_indexOf_4cfef 38 = .ok (.iload_n 2, 1) := by decide +kernel
theorem dJ2_indexOf_4cfef_39 : decode cJ2_indexOf_4cfef 39 = .ok (.iload_n 3, 1) := by decide +kernel
theorem dJ2_indexOf_4cfef_40 : decode cJ2_indexOf_4cfef 40 = .ok (.invokestatic 232, 3) := by decide +kernel
theorem dJ2_indexOf_4cfef_43 : decode cJ2_indexOf_4cfef 43 = .ok (.ireturn, 1) := by decide +kernel
theorem dJ2_indexOfChar_4cfef_0 : decode cJ2_indexOfChar_4cfef 0 = .ok (.iload_n 2, 1) := by decide +kernel
theorem dJ2_indexOfChar_4cfef_1 : decode cJ2_indexOfChar_4cfef 1 = .ok (.iload_n 3, 1) := by decide +kernel
theorem dJ2_indexOfChar_4cfef_2 : decode cJ2_indexOfChar_4cfef 2 = .ok (.aload_n 0, 1) := by decide +kernel
theorem dJ2_indexOfChar_4cfef_3 : decode cJ2_indexOfChar_4cfef 3 = .ok (.invokestatic 96, 3) := by decide +kernel
theorem dJ2_indexOfChar_4cfef_6 : decode cJ2_indexOfChar_4cfef 6 = .ok (.aload_n 0, 1) := by decide +kernel
theorem dJ2_indexOfChar_4cfef_7 : decode cJ2_indexOfChar_4cfef 7 = .ok (.iload_n 1, 1) := by decide +kernel
theorem dJ2_indexOfChar_4cfef_8 : decode cJ2_indexOfChar_4cfef 8 = .ok (.iload_n 2, 1) := by decide +kernel
theorem dJ2_indexOfChar_4cfef_9 : decode cJ2_indexOfChar_4cfef 9 = .ok (.iload_n 3, 1) := by decide +kernel
theorem dJ2_indexOfChar_4cfef_10 : decode cJ2_indexOfChar_4cfef 10 = .ok (.invokestatic 244, 3) := by decide +kernel
theorem dJ2_indexOfChar_4cfef_13 : decode cJ2_indexOfChar_4cfef 13 = .ok (.ireturn, 1) := by decide +kernel
theorem dJ2_indexOfCharUnsafe_4cfef_0 : decode cJ2_indexOfCharUnsafe_4cfef 0 = .ok (.iload_n 2, 1) := by decide +kernel
theorem dJ2_indexOfCharUnsafe_4cfef_1 : decode cJ2_indexOfCharUnsafe_4cfef 1 = .ok (.istore 4, 2) := by decide +kernel
theorem dJ2_indexOfCharUnsafe_4cfef_3 : decode cJ2_indexOfCharUnsafe_4cfef 3 = .ok (.iload 4, 2) := by decide +kernel
theorem dJ2_indexOfCharUnsafe_4cfef_5 : decode cJ2_indexOfCharUnsafe_4cfef 5 = .ok (.iload_n 3, 1) := by decide +kernel
theorem dJ2_indexOfCharUnsafe_4cfef_6 : decode cJ2_indexOfCharUnsafe_4cfef 6 = .ok (.if_icmp .ge 22, 3) := by decide +kernel
theorem dJ2_indexOfCharUnsafe_4cfef_9 : decode cJ2_indexOfCharUnsafe_4cfef 9 = .ok (.aload_n 0, 1) := by decide +kernel
theorem dJ2_indexOfCharUnsafe_4cfef_10 : decode cJ2_indexOfCharUnsafe_4cfef 10 = .ok (.iload 4, 2) := by decide +kernel
theorem dJ2_indexOfCharUnsafe_4cfef_12 : decode cJ2_indexOfCharUnsafe_4cfef 12 = .ok (.invokestatic 71, 3) := by decide +kernel
theorem dJ2_indexOfCharUnsafe_4cfef_15 : decode cJ2_indexOfCharUnsafe_4cfef 15 = .ok (.iload_n 1, 1) := by decide +kernel
theorem dJ2_indexOfCharUnsafe_4cfef_16 : decode cJ2_indexOfCharUnsafe_4cfef 16 = .ok (.if_icmp .ne 6, 3) := by decide +kernel
theorem dJ2_indexOfCharUnsafe_4cfef_19 : decode cJ2_indexOfCharUnsafe_4cfef 19 = .ok (.iload 4, 2) := by decide +kernel
theorem dJ2_indexOfCharUnsafe_4cfef_21 : decode cJ2_indexOfCharUnsafe_4cfef 21 = .ok (.ireturn, 1) := by decide +kernel
theorem dJ2_indexOfCharUnsafe_4cfef_22 : decode cJ2_indexOfCharUnsafe_4cfef 22 = .ok (.iinc 4 1, 3) := by decide +kernel
theorem dJ2_indexOfCharUnsafe_4cfef_25 : decode cJ2_indexOfCharUnsafe_4cfef 25 = .ok (.goto (-22), 3) := by decide +kernel
theorem dJ2_indexOfCharUnsafe_4cfef_28 : decode cJ2_indexOfCharUnsafe_4cfef 28 = .ok (.iconst (-1), 1) := by decide +kernel
theorem dJ2_indexOfCharUnsafe_4cfef_29 : decode cJ2_indexOfCharUnsafe_4cfef 29 = .ok (.ireturn, 1) := by decide +kernel
theorem dJ2_indexOfSupplementary_4cfef_0 : decode cJ2_indexOfSupplementary_4cfef 0 = .ok (.iload_n 1, 1) := by decide +kernel
theorem dJ2_indexOfSupplementary_4cfef_1 : decode cJ2_indexOfSupplementary_4cfef 1 = .ok (.invokestatic 164, 3) := by decide +kernel
theorem dJ2_indexOfSupplementary_4cfef_4 : decode cJ2_indexOfSupplementary_4cfef 4 = .ok (.ifCond .eq 65, 3) := by decide +kernel
theorem dJ2_indexOfSupplementary_4cfef_7 : decode cJ2_indexOfSupplementary_4cfef 7 = .ok (.iload_n 1, 1) := by decide +kernel
theorem dJ2_indexOfSupplementary_4cfef_8 : decode cJ2_indexOfSupplementary_4cfef 8 = .ok (.invokestatic 157, 3) := by decide +kernel
theorem dJ2_indexOfSupplementary_4cfef_11 : decode cJ2_indexOfSupplementary_4cfef 11 = .ok (.istore 4, 2) := by decide +kernel
theorem dJ2_indexOfSupplementary_4cfef_13 : decode cJ2_indexOfSupplementary_4cfef 13 = .ok (.iload_n 1, 1) := by decide +kernel
theorem dJ2_indexOfSupplementary_4cfef_14 : decode cJ2_indexOfSupplementary_4cfef 14 = .ok (.invokestatic 161, 3) := by decide +kernel
theorem dJ2_indexOfSupplementary_4cfef_17 : decode cJ2_indexOfSupplementary_4cfef 17 = .ok (.istore 5, 2) := by decide +kernel
theorem dJ2_indexOfSupplementary_4cfef_19 : decode cJ2_indexOfSupplementary_4cfef 19 = .ok (.iload_n 2, 1) := by decide +kernel
theorem dJ2_indexOfSupplementary_4cfef_20 : decode cJ2_indexOfSupplementary_4cfef 20 = .ok (.iload_n 3, 1) := by decide +kernel
theorem dJ2_indexOfSupplementary_4cfef_21 : decode cJ2_indexOfSupplementary_4cfef 21 = .ok (.aload_n 0, 1) := by decide +kernel
theorem dJ2_indexOfSupplementary_4cfef_22 : decode cJ2_indexOfSupplementary_4cfef 22 = .ok (.invokestatic 96, 3) := by decide +kernel
theorem dJ2_indexOfSupplementary_4cfef_25 : decode cJ2_indexOfSupplementary_4cfef 25 = .ok (.iload_n 2, 1) := by decide +kernel
theorem dJ2_indexOfSupplementary_4cfef_26 : decode cJ2_indexOfSupplementary_4cfef 26 = .ok (.istore 6, 2) := by decide +kernel
theorem dJ2_indexOfSupplementary_4cfef_28 : decode cJ2_indexOfSupplementary_4cfef 28 = .ok (.iload 6, 2) := by decide +kernel
theorem dJ2_indexOfSupplementary_4cfef_30 : decode cJ2_indexOfSupplementary_4cfef 30 = .ok (.iload_n 3, 1) := by decide +kernel
theorem dJ2_indexOfSupplementary_4cfef_31 : decode cJ2_indexOfSupplementary_4cfef 31 = .ok (.iconst 1, 1) := by decide +kernel
theorem dJ2_indexOfSupplementary_4cfef_32 : decode cJ2_indexOfSupplementary_4cfef 32 = .ok (.isub, 1) := by decide +kernel
theorem dJ2_indexOfSupplementary_4cfef_33 : decode cJ2_indexOfSupplementary_4cfef 33 = .ok (.if_icmp .ge 36, 3) := by decide +kernel
theorem dJ2_indexOfSupplementary_4cfef_36 : decode cJ2_indexOfSupplementary_4cfef 36 = .ok (.aload_n 0, 1) := by decide +kernel
theorem dJ2_indexOfSupplementary_4cfef_37 : decode cJ2_indexOfSupplementary_4cfef 37 = .ok (.iload 6, 2) := by decide +kernel
theorem dJ2_indexOfSupplementary_4cfef_39 : decode cJ2_indexOfSupplementary_4cfef 39 = .ok (.invokestatic 71, 3) := by decide +kernel
theorem dJ2_indexOfSupplementary_4cfef_42 : decode cJ2_indexOfSupplementary_4cfef 42 = .ok (.iload 4, 2) := by decide +kernel
theorem dJ2_indexOfSupplementary_4cfef_44 : decode cJ2_indexOfSupplementary_4cfef 44 = .ok (.if_icmp .ne 19, 3) := by decide +kernel
theorem dJ2_indexOfSupplementary_4cfef_47 : decode cJ2_indexOfSupplementary_4cfef 47 = .ok (.aload_n 0, 1) := by decide +kernel
theorem dJ2_indexOfSupplementary_4cfef_48 : decode cJ2_indexOfSupplementary_4cfef 48 = .ok (.iload 6, 2) := by decide +kernel
theorem dJ2_indexOfSupplementary_4cfef_50 : decode cJ2_indexOfSupplementary_4cfef 50 = .ok (.iconst 1, 1) := by decide +kernel
theorem dJ2_indexOfSupplementary_4cfef_51 : decode cJ2_indexOfSupplementary_4cfef 51 = .ok (.iadd, 1) := by decide +kernel
theorem dJ2_indexOfSupplementary_4cfef_52 : decode cJ2_indexOfSupplementary_4cfef 52 = .ok (.invokestatic 71, 3) := by decide +kernel
theorem dJ2_indexOfSupplementary_4cfef_55 : decode cJ2_indexOfSupplementary_4cfef 55 = .ok (.iload 5, 2) := by decide +kernel
theorem dJ2_indexOfSupplementary_4cfef_57 : decode cJ2_indexOfSupplementary_4cfef 57 = .ok (.if_icmp .ne 6, 3) := by decide +kernel
theorem dJ2_indexOfSupplementary_4cfef_60 : decode cJ2_indexOfSupplementary_4cfef 60 = .ok (.iload 6, 2) := by decide +kernel
theorem dJ2_indexOfSupplementary_4cfef_62 : decode cJ2_indexOfSupplementary_4cfef 62 = .ok (.ireturn, 1) := by decide +kernel
theorem dJ2_indexOfSupplementary_4cfef_63 : decode cJ2_indexOfSupplementary_4cfef 63 = .ok (.iinc 6 1, 3) := by decide +kernel
theorem dJ2_indexOfSupplementary_4cfef_66 : decode cJ2_indexOfSupplementary_4cfef 66 = .ok (.goto (-38), 3) := by decide +kernel
theorem dJ2_indexOfSupplementary_4cfef_69 : decode cJ2_indexOfSupplementary_4cfef 69 = .ok (.iconst (-1), 1) := by decide +kernel
theorem dJ2_indexOfSupplementary_4cfef_70 : decode cJ2_indexOfSupplementary_4cfef 70 = .ok (.ireturn, 1) := by decide +kernel
theorem dJ2_charAt_3b067_0 : decode cJ2_charAt_3b067 0 = .ok (.iload_n 1, 1) := by decide +kernel
theorem dJ2_charAt_3b067_1 : decode cJ2_charAt_3b067 1 = .ok (.aload_n 0, 1) := by decide +kernel
theorem dJ2_charAt_3b067_2 : decode cJ2_charAt_3b067 2 = .ok (.invokestatic 67, 3) := by decide +kernel
theorem dJ2_charAt_3b067_5 : decode cJ2_charAt_3b067 5 = .ok (.aload_n 0, 1) := by decide +kernel
theorem dJ2_charAt_3b067_6 : decode cJ2_charAt_3b067 6 = .ok (.iload_n 1, 1) := by decide +kernel
theorem dJ2_charAt_3b067_7 : decode cJ2_charAt_3b067 7 = .ok (.invokestatic 71, 3) := by decide +kernel
theorem dJ2_charAt_3b067_10 : decode cJ2_charAt_3b067 10 = .ok (.ireturn, 1) := by decide +kernel
theorem dJ2_checkIndex_2214a_0 : decode cJ2_checkIndex_2214a 0 = .ok (.iload_n 0, 1) := by decide +kernel
theorem dJ2_checkIndex_2214a_1 : decode cJ2_checkIndex_2214a 1 = .ok (.aload_n 1, 1) := by decide +kernel
theorem dJ2_checkIndex_2214a_2 : decode cJ2_checkIndex_2214a 2 = .ok (.invokestatic 48, 3) := by decide +kernel
theorem dJ2_checkIndex_2214a_5 : decode cJ2_checkIndex_2214a 5 = .ok (.invokestatic 414, 3) := by decide +kernel
theorem dJ2_checkIndex_2214a_8 : decode cJ2_checkIndex_2214a 8 = .ok (.return_, 1) := by decide +kernel
theorem dJ2_checkBoundsBeginEnd_d044e_0 : decode cJ2_checkBoundsBeginEnd_d044e 0 = .ok (.iload_n 0, 1) := by decide +kernel
theorem dJ2_checkBoundsBeginEnd_d044e_1 : decode cJ2_checkBoundsBeginEnd_d044e 1 = .ok (.iload_n 1, 1) := by decide +kernel
theorem dJ2_checkBoundsBeginEnd_d044e_2 : decode cJ2_checkBoundsBeginEnd_d044e 2 = .ok (.aload_n 2, 1) := by decide +kernel
theorem dJ2_checkBoundsBeginEnd_d044e_3 : decode cJ2_checkBoundsBeginEnd_d044e 3 = .ok (.invokestatic 48, 3) := by decide +kernel
theorem dJ2_checkBoundsBeginEnd_d044e_6 : decode cJ2_checkBoundsBeginEnd_d044e 6 = .ok (.invokestatic 241, 3) := by decide +kernel
theorem dJ2_checkBoundsBeginEnd_d044e_9 : decode cJ2_checkBoundsBeginEnd_d044e 9 = .ok (.return_, 1) := by decide +kernel
theorem dJ3_checkIndex_8e157_0 : decode cJ3_checkIndex_8e157 0 = .ok (.iload_n 0, 1) := by decide +kernel
theorem dJ3_checkIndex_8e157_1 : decode cJ3_checkIndex_8e157 1 = .ok (.ifCond .lt 8, 3) := by decide +kernel
theorem dJ3_checkIndex_8e157_4 : decode cJ3_checkIndex_8e157 4 = .ok (.iload_n 0, 1) := by decide +kernel
theorem dJ3_checkIndex_8e157_5 : decode cJ3_checkIndex_8e157 5 = .ok (.iload_n 1, 1) := by decide +kernel
theorem dJ3_checkIndex_8e157_6 : decode cJ3_checkIndex_8e157 6 = .ok (.if_icmp .lt 10, 3) := by decide +kernel
theorem dJ3_checkIndex_8e157_9 : decode cJ3_checkIndex_8e157 9 = .ok (.aload_n 2, 1) := by decide +kernel
theorem dJ3_checkIndex_8e157_10 : decode cJ3_checkIndex_8e157 10 = .ok (.iload_n 0, 1) := by decide +kernel
theorem dJ3_checkIndex_8e157_11 : decode cJ3_checkIndex_8e157 11 = .ok (.iload_n 1, 1) := by decide +kernel
theorem dJ3_checkIndex_8e157_12 : decode cJ3_checkIndex_8e157 12 = .ok (.invokestatic 95, 3) := by decide +kernel
theorem dJ3_checkIndex_8e157_15 : decode cJ3_checkIndex_8e157 15 = .ok (.athrow, 1) := by decide +kernel
theorem dJ3_checkIndex_8e157_16 : decode cJ3_checkIndex_8e157 16 = .ok (.iload_n 0, 1) := by decide +kernel
theorem dJ3_checkIndex_8e157_17 : decode cJ3_checkIndex_8e157 17 = .ok (.ireturn, 1) := by decide +kernel
theorem dJ3_checkFromToIndex_8c36e_0 : decode cJ3_checkFromToIndex_8c36e 0 = .ok (.iload_n 0, 1) := by decide +kernel
theorem dJ3_checkFromToIndex_8c36e_1 : decode cJ3_checkFromToIndex_8c36e 1 = .ok (.ifCond .lt 13, 3) := by decide +kernel
theorem dJ3_checkFromToIndex_8c36e_4 : decode cJ3_checkFromToIndex_8c36e 4 = .ok (.iload_n 0, 1) := by decide +kernel
theorem dJ3_checkFromToIndex_8c36e_5 : decode cJ3_checkFromToIndex_8c36e 5 = .ok (.iload_n 1, 1) := by decide +kernel
theorem dJ3_checkFromToIndex_8c36e_6 : decode cJ3_checkFromToIndex_8c36e 6 = .ok (.if_icmp .gt 8, 3) := by decide +kernel
theorem dJ3_checkFromToIndex_8c36e_9 : decode cJ3_checkFromToIndex_8c36e 9 = .ok (.iload_n 1, 1) := by decide +kernel
theorem dJ3_checkFromToIndex_8c36e_10 : decode cJ3_checkFromToIndex_8c36e 10 = .ok (.iload_n 2, 1) := by decide +kernel
theorem dJ3_checkFromToIndex_8c36e_11 : decode cJ3_checkFromToIndex_8c36e 11 = .ok (.if_icmp .le 11, 3) := by decide +kernel
theorem dJ3_checkFromToIndex_8c36e_14 : decode cJ3_checkFromToIndex_8c36e 14 = .ok (.aload_n 3, 1) := by decide +kernel
theorem dJ3_checkFromToIndex_8c36e_15 : decode cJ3_checkFromToIndex_8c36e 15 = .ok (.iload_n 0, 1) := by decide +kernel
theorem dJ3_checkFromToIndex_8c36e_16 : decode cJ3_checkFromToIndex_8c36e 16 = .ok (.iload_n 1, 1) := by decide +kernel
theorem dJ3_checkFromToIndex_8c36e_17 : decode cJ3_checkFromToIndex_8c36e 17 = .ok (.iload_n 2, 1) := by decide +kernel
theorem dJ3_checkFromToIndex_8c36e_18 : decode cJ3_checkFromToIndex_8c36e 18 = .ok (.invokestatic 99, 3) := by decide +kernel
theorem dJ3_checkFromToIndex_8c36e_21 : decode cJ3_checkFromToIndex_8c36e 21 = .ok (.athrow, 1) := by decide +kernel
theorem dJ3_checkFromToIndex_8c36e_22 : decode cJ3_checkFromToIndex_8c36e 22 = .ok (.iload_n 0, 1) := by decide +kernel
theorem dJ3_checkFromToIndex_8c36e_23 : decode cJ3_checkFromToIndex_8c36e 23 = .ok (.ireturn, 1) := by decide +kernel
theorem dL_feed_0 : decode cL_feed 0 = .ok (.aload 6, 2) := by decide +kernel
theorem dL_feed_2 : decode cL_feed 2 = .ok (.iconst 0, 1) := by decide +kernel
theorem dL_feed_3 : decode cL_feed 3 = .ok (.aload_n 0, 1) := by decide +kernel
theorem dL_feed_4 : decode cL_feed 4 = .ok (.iload_n 1, 1) := by decide +kernel
theorem dL_feed_5 : decode cL_feed 5 = .ok (.iload_n 2, 1) := by decide +kernel
theorem dL_feed_6 : decode cL_feed 6 = .ok (.iload_n 3, 1) := by decide +kernel
theorem dL_feed_7 : decode cL_feed 7 = .ok (.iload 4, 2) := by decide +kernel
theorem dL_feed_9 : decode cL_feed 9 = .ok (.iload 5, 2) := by decide +kernel
theorem dL_feed_11 : decode cL_feed 11 = .ok (.invokevirtual 7, 3) := by decide +kernel
theorem dL_feed_14 : decode cL_feed 14 = .ok (.i2l, 1) := by decide +kernel
theorem dL_feed_15 : decode cL_feed 15 = .ok (.lastore, 1) := by decide +kernel
theorem dL_feed_16 : decode cL_feed 16 = .ok (.goto 7, 3) := by decide +kernel
theorem dL_feed_19 : decode cL_feed 19 = .ok (.astore 7, 2) := by decide +kernel
theorem dL_feed_21 : decode cL_feed 21 = .ok (.iconst 1, 1) := by decide +kernel
theorem dL_feed_22 : decode cL_feed 22 = .ok (.ireturn, 1) := by decide +kernel
theorem dL_feed_23 : decode cL_feed 23 = .ok (.iconst 0, 1) := by decide +kernel
theorem dL_feed_24 : decode cL_feed 24 = .ok (.ireturn, 1) := by decide +kernel
theorem dL_end_0 : decode cL_end 0 = .ok (.aload_n 0, 1) := by decide +kernel
theorem dL_end_1 : decode cL_end 1 = .ok (.iload_n 1, 1) := by decide +kernel
theorem dL_end_2 : decode cL_end 2 = .ok (.invokevirtual 15, 3) := by decide +kernel
theorem dL_end_5 : decode cL_end 5 = .ok (.goto 6, 3) := by decide +kernel
theorem dL_end_8 : decode cL_end 8 = .ok (.astore_n 2, 1) := by decide +kernel
theorem dL_end_9 : decode cL_end 9 = .ok (.iconst 1, 1) := by decide +kernel
theorem dL_end_10 : decode cL_end 10 = .ok (.ireturn, 1) := by decide +kernel
theorem dL_end_11 : decode cL_end 11 = .ok (.iconst 0, 1) := by decide +kernel
theorem dL_end_12 : decode cL_end 12 = .ok (.ireturn, 1) := by decide +kernel
theorem dL_schema_0 : decode cL_schema 0 = .ok (.aload_n 2, 1) := by decide +kernel
theorem dL_schema_1 : decode cL_schema 1 = .ok (.iconst 0, 1) := by decide +kernel
theorem dL_schema_2 : decode cL_schema 2 = .ok (.aload_n 0, 1) := by decide +kernel
theorem dL_schema_3 : decode cL_schema 3 = .ok (.iload_n 1, 1) := by decide +kernel
theorem dL_schema_4 : decode cL_schema 4 = .ok (.invokevirtual 21, 3) := by decide +kernel
theorem dL_schema_7 : decode cL_schema 7 = .ok (.i2l, 1) := by decide +kernel
theorem dL_schema_8 : decode cL_schema 8 = .ok (.lastore, 1) := by decide +kernel
theorem dL_schema_9 : decode cL_schema 9 = .ok (.goto 6, 3) := by decide +kernel
theorem dL_schema_12 : decode cL_schema 12 = .ok (.astore_n 3, 1) := by decide +kernel
theorem dL_schema_13 : decode cL_schema 13 = .ok (.iconst 1, 1) := by decide +kernel
theorem dL_schema_14 : decode cL_schema 14 = .ok (.ireturn, 1) := by decide +kernel
theorem dL_schema_15 : decode cL_schema 15 = .ok (.iconst 0, 1) := by decide +kernel
theorem dL_schema_16 : decode cL_schema 16 = .ok (.ireturn, 1) := by decide +kernel
theorem dL_load_0 : decode cL_load 0 = .ok (.aload_n 2, 1) := by decide +kernel
theorem dL_load_1 : decode cL_load 1 = .ok (.iconst 0, 1) := by decide +kernel
theorem dL_load_2 : decode cL_load 2 = .ok (.aload_n 0, 1) := by decide +kernel
theorem dL_load_3 : decode cL_load 3 = .ok (.iload_n 1, 1) := by decide +kernel
theorem dL_load_4 : decode cL_load 4 = .ok (.invokevirtual 27, 3) := by decide +kernel
theorem dL_load_7 : decode cL_load 7 = .ok (.i2l, 1) := by decide +kernel
theorem dL_load_8 : decode cL_load 8 = .ok (.lastore, 1) := by decide +kernel
theorem dL_load_9 : decode cL_load 9 = .ok (.goto 9, 3) := by decide +kernel
theorem dL_load_12 : decode cL_load 12 = .ok (.astore_n 3, 1) := by decide +kernel
theorem dL_load_13 : decode cL_load 13 = .ok (.iconst 1, 1) := by decide +kernel
theorem dL_load_14 : decode cL_load 14 = .ok (.ireturn, 1) := by decide +kernel
theorem dL_load_15 : decode cL_load 15 = .ok (.astore_n 3, 1) := by decide +kernel
theorem dL_load_16 : decode cL_load 16 = .ok (.iconst 2, 1) := by decide +kernel
theorem dL_load_17 : decode cL_load 17 = .ok (.ireturn, 1) := by decide +kernel
theorem dL_load_18 : decode cL_load 18 = .ok (.iconst 0, 1) := by decide +kernel
theorem dL_load_19 : decode cL_load 19 = .ok (.ireturn, 1) := by decide +kernel
theorem dL_size_0 : decode cL_size 0 = .ok (.aload_n 2, 1) := by decide +kernel
theorem dL_size_1 : decode cL_size 1 = .ok (.iconst 0, 1) := by decide +kernel
theorem dL_size_2 : decode cL_size 2 = .ok (.aload_n 0, 1) := by decide +kernel
theorem dL_size_3 : decode cL_size 3 = .ok (.iload_n 1, 1) := by decide +kernel
theorem dL_size_4 : decode cL_size 4 = .ok (.invokevirtual 30, 3) := by decide +kernel
theorem dL_size_7 : decode cL_size 7 = .ok (.i2l, 1) := by decide +kernel
theorem dL_size_8 : decode cL_size 8 = .ok (.lastore, 1) := by decide +kernel
theorem dL_size_9 : decode cL_size 9 = .ok (.goto 6, 3) := by decide +kernel
theorem dL_size_12 : decode cL_size 12 = .ok (.astore_n 3, 1) := by decide +kernel
theorem dL_size_13 : decode cL_size 13 = .ok (.iconst 1, 1) := by decide +kernel
theorem dL_size_14 : decode cL_size 14 = .ok (.ireturn, 1) := by decide +kernel
theorem dL_size_15 : decode cL_size 15 = .ok (.iconst 0, 1) := by decide +kernel
theorem dL_size_16 : decode cL_size 16 = .ok (.ireturn, 1) := by decide +kernel
theorem dL_letter_0 : decode cL_letter 0 = .ok (.aload_n 3, 1) := by decide +kernel
theorem dL_letter_1 : decode cL_letter 1 = .ok (.iconst 0, 1) := by decide +kernel
theorem dL_letter_2 : decode cL_letter 2 = .ok (.aload_n 0, 1) := by decide +kernel
theorem dL_letter_3 : decode cL_letter 3 = .ok (.iload_n 1, 1) := by decide +kernel
theorem dL_letter_4 : decode cL_letter 4 = .ok (.iload_n 2, 1) := by decide +kernel
theorem dL_letter_5 : decode cL_letter 5 = .ok (.invokevirtual 33, 3) := by decide +kernel
theorem dL_letter_8 : decode cL_letter 8 = .ok (.i2l, 1) := by decide +kernel
theorem dL_letter_9 : decode cL_letter 9 = .ok (.lastore, 1) := by decide +kernel
theorem dL_letter_10 : decode cL_letter 10 = .ok (.goto 11, 3) := by decide +kernel
theorem dL_letter_13 : decode cL_letter 13 = .ok (.astore 4, 2) := by decide +kernel
theorem dL_letter_15 : decode cL_letter 15 = .ok (.iconst 1, 1) := by decide +kernel
theorem dL_letter_16 : decode cL_letter 16 = .ok (.ireturn, 1) := by decide +kernel
theorem dL_letter_17 : decode cL_letter 17 = .ok (.astore 4, 2) := by decide +kernel
theorem dL_letter_19 : decode cL_letter 19 = .ok (.iconst 2, 1) := by decide +kernel
theorem dL_letter_20 : decode cL_letter 20 = .ok (.ireturn, 1) := by decide +kernel
theorem dL_letter_21 : decode cL_letter 21 = .ok (.iconst 0, 1) := by decide +kernel
theorem dL_letter_22 : decode cL_letter 22 = .ok (.ireturn, 1) := by decide +kernel
theorem dL_read_0 : decode cL_read 0 = .ok (.aload_n 3, 1) := by decide +kernel
theorem dL_read_1 : decode cL_read 1 = .ok (.iconst 0, 1) := by decide +kernel
theorem dL_read_2 : decode cL_read 2 = .ok (.aload_n 0, 1) := by decide +kernel
theorem dL_read_3 : decode cL_read 3 = .ok (.iload_n 1, 1) := by decide +kernel
theorem dL_read_4 : decode cL_read 4 = .ok (.iload_n 2, 1) := by decide +kernel
theorem dL_read_5 : decode cL_read 5 = .ok (.invokevirtual 37, 3) := by decide +kernel
theorem dL_read_8 : decode cL_read 8 = .ok (.i2l, 1) := by decide +kernel
theorem dL_read_9 : decode cL_read 9 = .ok (.lastore, 1) := by decide +kernel
theorem dL_read_10 : decode cL_read 10 = .ok (.goto 11, 3) := by decide +kernel
theorem dL_read_13 : decode cL_read 13 = .ok (.astore 4, 2) := by decide +kernel
theorem dL_read_15 : decode cL_read 15 = .ok (.iconst 1, 1) := by decide +kernel
theorem dL_read_16 : decode cL_read 16 = .ok (.ireturn, 1) := by decide +kernel
theorem dL_read_17 : decode cL_read 17 = .ok (.astore 4, 2) := by decide +kernel
theorem dL_read_19 : decode cL_read 19 = .ok (.iconst 2, 1) := by decide +kernel
theorem dL_read_20 : decode cL_read 20 = .ok (.ireturn, 1) := by decide +kernel
theorem dL_read_21 : decode cL_read 21 = .ok (.iconst 0, 1) := by decide +kernel
theorem dL_read_22 : decode cL_read 22 = .ok (.ireturn, 1) := by decide +kernel
theorem dL_all_0 : decode cL_all 0 = .ok (.aload_n 2, 1) := by decide +kernel
theorem dL_all_1 : decode cL_all 1 = .ok (.iconst 0, 1) := by decide +kernel
theorem dL_all_2 : decode cL_all 2 = .ok (.aload_n 0, 1) := by decide +kernel
theorem dL_all_3 : decode cL_all 3 = .ok (.iload_n 1, 1) := by decide +kernel
theorem dL_all_4 : decode cL_all 4 = .ok (.invokevirtual 40, 3) := by decide +kernel
theorem dL_all_7 : decode cL_all 7 = .ok (.i2l, 1) := by decide +kernel
theorem dL_all_8 : decode cL_all 8 = .ok (.lastore, 1) := by decide +kernel
theorem dL_all_9 : decode cL_all 9 = .ok (.goto 9, 3) := by decide +kernel
theorem dL_all_12 : decode cL_all 12 = .ok (.astore_n 3, 1) := by decide +kernel
theorem dL_all_13 : decode cL_all 13 = .ok (.iconst 1, 1) := by decide +kernel
theorem dL_all_14 : decode cL_all 14 = .ok (.ireturn, 1) := by decide +kernel
theorem dL_all_15 : decode cL_all 15 = .ok (.astore_n 3, 1) := by decide +kernel
theorem dL_all_16 : decode cL_all 16 = .ok (.iconst 2, 1) := by decide +kernel
theorem dL_all_17 : decode cL_all 17 = .ok (.ireturn, 1) := by decide +kernel
theorem dL_all_18 : decode cL_all 18 = .ok (.iconst 0, 1) := by decide +kernel
theorem dL_all_19 : decode cL_all 19 = .ok (.ireturn, 1) := by decide +kernel
theorem dL_fits_0 : decode cL_fits 0 = .ok (.aload_n 3, 1) := by decide +kernel
theorem dL_fits_1 : decode cL_fits 1 = .ok (.iconst 0, 1) := by decide +kernel
theorem dL_fits_2 : decode cL_fits 2 = .ok (.aload_n 0, 1) := by decide +kernel
theorem dL_fits_3 : decode cL_fits 3 = .ok (.iload_n 1, 1) := by decide +kernel
theorem dL_fits_4 : decode cL_fits 4 = .ok (.iload_n 2, 1) := by decide +kernel
theorem dL_fits_5 : decode cL_fits 5 = .ok (.invokevirtual 43, 3) := by decide +kernel
theorem dL_fits_8 : decode cL_fits 8 = .ok (.ifCond .eq 7, 3) := by decide +kernel
theorem dL_fits_11 : decode cL_fits 11 = .ok (.lconst 1, 1) := by decide +kernel
theorem dL_fits_12 : decode cL_fits 12 = .ok (.goto 4, 3) := by decide +kernel
theorem dL_fits_15 : decode cL_fits 15 = .ok (.lconst 0, 1) := by decide +kernel
theorem dL_fits_16 : decode cL_fits 16 = .ok (.lastore, 1) := by decide +kernel
theorem dL_fits_17 : decode cL_fits 17 = .ok (.goto 11, 3) := by decide +kernel
theorem dL_fits_20 : decode cL_fits 20 = .ok (.astore 4, 2) := by decide +kernel
theorem dL_fits_22 : decode cL_fits 22 = .ok (.iconst 1, 1) := by decide +kernel
theorem dL_fits_23 : decode cL_fits 23 = .ok (.ireturn, 1) := by decide +kernel
theorem dL_fits_24 : decode cL_fits 24 = .ok (.astore 4, 2) := by decide +kernel
theorem dL_fits_26 : decode cL_fits 26 = .ok (.iconst 2, 1) := by decide +kernel
theorem dL_fits_27 : decode cL_fits 27 = .ok (.ireturn, 1) := by decide +kernel
theorem dL_fits_28 : decode cL_fits 28 = .ok (.iconst 0, 1) := by decide +kernel
theorem dL_fits_29 : decode cL_fits 29 = .ok (.ireturn, 1) := by decide +kernel
theorem dL_law_0 : decode cL_law 0 = .ok (.new 8, 3) := by decide +kernel
theorem dL_law_3 : decode cL_law 3 = .ok (.dup, 1) := by decide +kernel
theorem dL_law_4 : decode cL_law 4 = .ok (.invokespecial 47, 3) := by decide +kernel
theorem dL_law_7 : decode cL_law 7 = .ok (.astore_n 1, 1) := by decide +kernel
theorem dL_law_8 : decode cL_law 8 = .ok (.new 48, 3) := by decide +kernel
theorem dL_law_11 : decode cL_law 11 = .ok (.dup, 1) := by decide +kernel
theorem dL_law_12 : decode cL_law 12 = .ok (.invokespecial 50, 3) := by decide +kernel
theorem dL_law_15 : decode cL_law 15 = .ok (.astore_n 2, 1) := by decide +kernel
theorem dL_law_16 : decode cL_law 16 = .ok (.iconst 1, 1) := by decide +kernel
theorem dL_law_17 : decode cL_law 17 = .ok (.newarray .long, 2) := by decide +kernel
theorem dL_law_19 : decode cL_law 19 = .ok (.astore_n 3, 1) := by decide +kernel
theorem dL_law_20 : decode cL_law 20 = .ok (.iconst 0, 1) := by decide +kernel
theorem dL_law_21 : decode cL_law 21 = .ok (.istore 4, 2) := by decide +kernel
theorem dL_law_23 : decode cL_law 23 = .ok (.iload 4, 2) := by decide +kernel
theorem dL_law_25 : decode cL_law 25 = .ok (.aload_n 0, 1) := by decide +kernel
theorem dL_law_26 : decode cL_law 26 = .ok (.arraylength, 1) := by decide +kernel
theorem dL_law_27 : decode cL_law 27 = .ok (.bipush 6, 2) := by decide +kernel
theorem dL_law_29 : decode cL_law 29 = .ok (.isub, 1) := by decide +kernel
theorem dL_law_30 : decode cL_law 30 = .ok (.if_icmp .gt 677, 3) := by decide +kernel
theorem dL_law_33 : decode cL_law 33 = .ok (.aload_n 0, 1) := by decide +kernel
theorem dL_law_34 : decode cL_law 34 = .ok (.iload 4, 2) := by decide +kernel
theorem dL_law_36 : decode cL_law 36 = .ok (.iaload, 1) := by decide +kernel
theorem dL_law_37 : decode cL_law 37 = .ok (.bipush 15, 2) := by decide +kernel
theorem dL_law_39 : decode cL_law 39 = .ok (.iand, 1) := by decide +kernel
theorem dL_law_40 : decode cL_law 40 = .ok (.tableswitch 661 0 10 #[60, 164, 200, 256, 312, 325, 338, 394, 462, 530, 586], 60) := by decide +kernel
theorem dL_law_100 : decode cL_law 100 = .ok (.aload_n 1, 1) := by decide +kernel
theorem dL_law_101 : decode cL_law 101 = .ok (.aload_n 0, 1) := by decide +kernel
theorem dL_law_102 : decode cL_law 102 = .ok (.iload 4, 2) := by decide +kernel
theorem dL_law_104 : decode cL_law 104 = .ok (.iconst 1, 1) := by decide +kernel
theorem dL_law_105 : decode cL_law 105 = .ok (.iadd, 1) := by decide +kernel
theorem dL_law_106 : decode cL_law 106 = .ok (.iaload, 1) := by decide +kernel
theorem dL_law_107 : decode cL_law 107 = .ok (.aload_n 0, 1) := by decide +kernel
theorem dL_law_108 : decode cL_law 108 = .ok (.iload 4, 2) := by decide +kernel
theorem dL_law_110 : decode cL_law 110 = .ok (.iconst 2, 1) := by decide +kernel
theorem dL_law_111 : decode cL_law 111 = .ok (.iadd, 1) := by decide +kernel
theorem dL_law_112 : decode cL_law 112 = .ok (.iaload, 1) := by decide +kernel
theorem dL_law_113 : decode cL_law 113 = .ok (.aload_n 0, 1) := by decide +kernel
theorem dL_law_114 : decode cL_law 114 = .ok (.iload 4, 2) := by decide +kernel
theorem dL_law_116 : decode cL_law 116 = .ok (.iconst 3, 1) := by decide +kernel
theorem dL_law_117 : decode cL_law 117 = .ok (.iadd, 1) := by decide +kernel
theorem dL_law_118 : decode cL_law 118 = .ok (.iaload, 1) := by decide +kernel
theorem dL_law_119 : decode cL_law 119 = .ok (.aload_n 0, 1) := by decide +kernel
theorem dL_law_120 : decode cL_law 120 = .ok (.iload 4, 2) := by decide +kernel
theorem dL_law_122 : decode cL_law 122 = .ok (.iconst 4, 1) := by decide +kernel
theorem dL_law_123 : decode cL_law 123 = .ok (.iadd, 1) := by decide +kernel
theorem dL_law_124 : decode cL_law 124 = .ok (.iaload, 1) := by decide +kernel
theorem dL_law_125 : decode cL_law 125 = .ok (.aload_n 0, 1) := by decide +kernel
theorem dL_law_126 : decode cL_law 126 = .ok (.iload 4, 2) := by decide +kernel
theorem dL_law_128 : decode cL_law 128 = .ok (.iconst 5, 1) := by decide +kernel
theorem dL_law_129 : decode cL_law 129 = .ok (.iadd, 1) := by decide +kernel
theorem dL_law_130 : decode cL_law 130 = .ok (.iaload, 1) := by decide +kernel
theorem dL_law_131 : decode cL_law 131 = .ok (.aload_n 3, 1) := by decide +kernel
theorem dL_law_132 : decode cL_law 132 = .ok (.invokestatic 51, 3) := by decide +kernel
theorem dL_law_135 : decode cL_law 135 = .ok (.istore 5, 2) := by decide +kernel
theorem dL_law_137 : decode cL_law 137 = .ok (.aload_n 2, 1) := by decide +kernel
theorem dL_law_138 : decode cL_law 138 = .ok (.aload_n 0, 1) := by decide +kernel
theorem dL_law_139 : decode cL_law 139 = .ok (.iload 4, 2) := by decide +kernel
theorem dL_law_141 : decode cL_law 141 = .ok (.iconst 1, 1) := by decide +kernel
theorem dL_law_142 : decode cL_law 142 = .ok (.iadd, 1) := by decide +kernel
theorem dL_law_143 : decode cL_law 143 = .ok (.iaload, 1) := by decide +kernel
theorem dL_law_144 : decode cL_law 144 = .ok (.aload_n 0, 1) := by decide +kernel
theorem dL_law_145 : decode cL_law 145 = .ok (.iload 4, 2) := by decide +kernel
theorem dL_law_147 : decode cL_law 147 = .ok (.iconst 2, 1) := by decide +kernel
theorem dL_law_148 : decode cL_law 148 = .ok (.iadd, 1) := by decide +kernel
theorem dL_law_149 : decode cL_law 149 = .ok (.iaload, 1) := by decide +kernel
theorem dL_law_150 : decode cL_law 150 = .ok (.aload_n 0, 1) := by decide +kernel
theorem dL_law_151 : decode cL_law 151 = .ok (.iload 4, 2) := by decide +kernel
theorem dL_law_153 : decode cL_law 153 = .ok (.iconst 3, 1) := by decide +kernel
theorem dL_law_154 : decode cL_law 154 = .ok (.iadd, 1) := by decide +kernel
theorem dL_law_155 : decode cL_law 155 = .ok (.iaload, 1) := by decide +kernel
theorem dL_law_156 : decode cL_law 156 = .ok (.aload_n 0, 1) := by decide +kernel
theorem dL_law_157 : decode cL_law 157 = .ok (.iload 4, 2) := by decide +kernel
theorem dL_law_159 : decode cL_law 159 = .ok (.iconst 4, 1) := by decide +kernel
theorem dL_law_160 : decode cL_law 160 = .ok (.iadd, 1) := by decide +kernel
theorem dL_law_161 : decode cL_law 161 = .ok (.iaload, 1) := by decide +kernel
theorem dL_law_162 : decode cL_law 162 = .ok (.aload_n 0, 1) := by decide +kernel
theorem dL_law_163 : decode cL_law 163 = .ok (.iload 4, 2) := by decide +kernel
theorem dL_law_165 : decode cL_law 165 = .ok (.iconst 5, 1) := by decide +kernel
theorem dL_law_166 : decode cL_law 166 = .ok (.iadd, 1) := by decide +kernel
theorem dL_law_167 : decode cL_law 167 = .ok (.iaload, 1) := by decide +kernel
theorem dL_law_168 : decode cL_law 168 = .ok (.invokevirtual 56, 3) := by decide +kernel
theorem dL_law_171 : decode cL_law 171 = .ok (.istore 6, 2) := by decide +kernel
theorem dL_law_173 : decode cL_law 173 = .ok (.aload_n 2, 1) := by decide +kernel
theorem dL_law_174 : decode cL_law 174 = .ok (.invokevirtual 57, 3) := by decide +kernel
theorem dL_law_177 : decode cL_law 177 = .ok (.iload 5, 2) := by decide +kernel
theorem dL_law_179 : decode cL_law 179 = .ok (.if_icmp .eq 5, 3) := by decide +kernel
theorem dL_law_182 : decode cL_law 182 = .ok (.iconst 0, 1) := by decide +kernel
theorem dL_law_183 : decode cL_law 183 = .ok (.ireturn, 1) := by decide +kernel
theorem dL_law_184 : decode cL_law 184 = .ok (.iload 5, 2) := by decide +kernel
theorem dL_law_186 : decode cL_law 186 = .ok (.ifCond .ne 15, 3) := by decide +kernel
theorem dL_law_189 : decode cL_law 189 = .ok (.aload_n 3, 1) := by decide +kernel
theorem dL_law_190 : decode cL_law 190 = .ok (.iconst 0, 1) := by decide +kernel
theorem dL_law_191 : decode cL_law 191 = .ok (.laload, 1) := by decide +kernel
theorem dL_law_192 : decode cL_law 192 = .ok (.iload 6, 2) := by decide +kernel
theorem dL_law_194 : decode cL_law 194 = .ok (.i2l, 1) := by decide +kernel
theorem dL_law_195 : decode cL_law 195 = .ok (.lcmp, 1) := by decide +kernel
theorem dL_law_196 : decode cL_law 196 = .ok (.ifCond .eq 5, 3) := by decide +kernel
theorem dL_law_199 : decode cL_law 199 = .ok (.iconst 0, 1) := by decide +kernel
theorem dL_law_200 : decode cL_law 200 = .ok (.ireturn, 1) := by decide +kernel
theorem dL_law_201 : decode cL_law 201 = .ok (.goto 500, 3) := by decide +kernel
theorem dL_law_204 : decode cL_law 204 = .ok (.aload_n 1, 1) := by decide +kernel
theorem dL_law_205 : decode cL_law 205 = .ok (.aload_n 0, 1) := by decide +kernel
theorem dL_law_206 : decode cL_law 206 = .ok (.iload 4, 2) := by decide +kernel
theorem dL_law_208 : decode cL_law 208 = .ok (.iconst 1, 1) := by decide +kernel
theorem dL_law_209 : decode cL_law 209 = .ok (.iadd, 1) := by decide +kernel
theorem dL_law_210 : decode cL_law 210 = .ok (.iaload, 1) := by decide +kernel
theorem dL_law_211 : decode cL_law 211 = .ok (.invokestatic 61, 3) := by decide +kernel
theorem dL_law_214 : decode cL_law 214 = .ok (.istore 5, 2) := by decide +kernel
theorem dL_law_216 : decode cL_law 216 = .ok (.aload_n 2, 1) := by decide +kernel
theorem dL_law_217 : decode cL_law 217 = .ok (.aload_n 0, 1) := by decide +kernel
theorem dL_law_218 : decode cL_law 218 = .ok (.iload 4, 2) := by decide +kernel
theorem dL_law_220 : decode cL_law 220 = .ok (.iconst 1, 1) := by decide +kernel
theorem dL_law_221 : decode cL_law 221 = .ok (.iadd, 1) := by decide +kernel
theorem dL_law_222 : decode cL_law 222 = .ok (.iaload, 1) := by decide +kernel
theorem dL_law_223 : decode cL_law 223 = .ok (.invokevirtual 64, 3) := by decide +kernel
theorem dL_law_226 : decode cL_law 226 = .ok (.aload_n 2, 1) := by decide +kernel
theorem dL_law_227 : decode cL_law 227 = .ok (.invokevirtual 57, 3) := by decide +kernel
theorem dL_law_230 : decode cL_law 230 = .ok (.iload 5, 2) := by decide +kernel
theorem dL_law_232 : decode cL_law 232 = .ok (.if_icmp .eq 5, 3) := by decide +kernel
theorem dL_law_235 : decode cL_law 235 = .ok (.iconst 0, 1) := by decide +kernel
theorem dL_law_236 : decode cL_law 236 = .ok (.ireturn, 1) := by decide +kernel
theorem dL_law_237 : decode cL_law 237 = .ok (.goto 464, 3) := by decide +kernel
theorem dL_law_240 : decode cL_law 240 = .ok (.aload_n 1, 1) := by decide +kernel
theorem dL_law_241 : decode cL_law 241 = .ok (.aload_n 0, 1) := by decide +kernel
theorem dL_law_242 : decode cL_law 242 = .ok (.iload 4, 2) := by decide +kernel
theorem dL_law_244 : decode cL_law 244 = .ok (.iconst 1, 1) := by decide +kernel
theorem dL_law_245 : decode cL_law 245 = .ok (.iadd, 1) := by decide +kernel
theorem dL_law_246 : decode cL_law 246 = .ok (.iaload, 1) := by decide +kernel
theorem dL_law_247 : decode cL_law 247 = .ok (.aload_n 3, 1) := by decide +kernel
theorem dL_law_248 : decode cL_law 248 = .ok (.invokestatic 65, 3) := by decide +kernel
theorem dL_law_251 : decode cL_law 251 = .ok (.istore 5, 2) := by decide +kernel
theorem dL_law_253 : decode cL_law 253 = .ok (.aload_n 2, 1) := by decide +kernel
theorem dL_law_254 : decode cL_law 254 = .ok (.aload_n 0, 1) := by decide +kernel
theorem dL_law_255 : decode cL_law 255 = .ok (.iload 4, 2) := by decide +kernel
theorem dL_law_257 : decode cL_law 257 = .ok (.iconst 1, 1) := by decide +kernel
theorem dL_law_258 : decode cL_law 258 = .ok (.iadd, 1) := by decide +kernel
theorem dL_law_259 : decode cL_law 259 = .ok (.iaload, 1) := by decide +kernel
theorem dL_law_260 : decode cL_law 260 = .ok (.invokevirtual 68, 3) := by decide +kernel
theorem dL_law_263 : decode cL_law 263 = .ok (.istore 6, 2) := by decide +kernel
theorem dL_law_265 : decode cL_law 265 = .ok (.aload_n 2, 1) := by decide +kernel
theorem dL_law_266 : decode cL_law 266 = .ok (.invokevirtual 57, 3) := by decide +kernel
theorem dL_law_269 : decode cL_law 269 = .ok (.iload 5, 2) := by decide +kernel
theorem dL_law_271 : decode cL_law 271 = .ok (.if_icmp .eq 5, 3) := by decide +kernel
theorem dL_law_274 : decode cL_law 274 = .ok (.iconst 0, 1) := by decide +kernel
theorem dL_law_275 : decode cL_law 275 = .ok (.ireturn, 1) := by decide +kernel
theorem dL_law_276 : decode cL_law 276 = .ok (.iload 5, 2) := by decide +kernel
theorem dL_law_278 : decode cL_law 278 = .ok (.ifCond .ne 15, 3) := by decide +kernel
theorem dL_law_281 : decode cL_law 281 = .ok (.aload_n 3, 1) := by decide +kernel
theorem dL_law_282 : decode cL_law 282 = .ok (.iconst 0, 1) := by decide +kernel
theorem dL_law_283 : decode cL_law 283 = .ok (.laload, 1) := by decide +kernel
theorem dL_law_284 : decode cL_law 284 = .ok (.iload 6, 2) := by decide +kernel
theorem dL_law_286 : decode cL_law 286 = .ok (.i2l, 1) := by decide +kernel
theorem dL_law_287 : decode cL_law 287 = .ok (.lcmp, 1) := by decide +kernel
theorem dL_law_288 : decode cL_law 288 = .ok (.ifCond .eq 5, 3) := by decide +kernel
theorem dL_law_291 : decode cL_law 291 = .ok (.iconst 0, 1) := by decide +kernel
theorem dL_law_292 : decode cL_law 292 = .ok (.ireturn, 1) := by decide +kernel
theorem dL_law_293 : decode cL_law 293 = .ok (.goto 408, 3) := by decide +kernel
theorem dL_law_296 : decode cL_law 296 = .ok (.aload_n 1, 1) := by decide +kernel
theorem dL_law_297 : decode cL_law 297 = .ok (.aload_n 0, 1) := by decide +kernel
theorem dL_law_298 : decode cL_law 298 = .ok (.iload 4, 2) := by decide +kernel
theorem dL_law_300 : decode cL_law 300 = .ok (.iconst 1, 1) := by decide +kernel
theorem dL_law_301 : decode cL_law 301 = .ok (.iadd, 1) := by decide +kernel
theorem dL_law_302 : decode cL_law 302 = .ok (.iaload, 1) := by decide +kernel
theorem dL_law_303 : decode cL_law 303 = .ok (.aload_n 3, 1) := by decide +kernel
theorem dL_law_304 : decode cL_law 304 = .ok (.invokestatic 69, 3) := by decide +kernel
theorem dL_law_307 : decode cL_law 307 = .ok (.istore 5, 2) := by decide +kernel
theorem dL_law_309 : decode cL_law 309 = .ok (.aload_n 2, 1) := by decide +kernel
theorem dL_law_310 : decode cL_law 310 = .ok (.aload_n 0, 1) := by decide +kernel
theorem dL_law_311 : decode cL_law 311 = .ok (.iload 4, 2) := by decide +kernel
theorem dL_law_313 : decode cL_law 313 = .ok (.iconst 1, 1) := by decide +kernel
theorem dL_law_314 : decode cL_law 314 = .ok (.iadd, 1) := by decide +kernel
theorem dL_law_315 : decode cL_law 315 = .ok (.iaload, 1) := by decide +kernel
theorem dL_law_316 : decode cL_law 316 = .ok (.invokevirtual 71, 3) := by decide +kernel
theorem dL_law_319 : decode cL_law 319 = .ok (.istore 6, 2) := by decide +kernel
theorem dL_law_321 : decode cL_law 321 = .ok (.aload_n 2, 1) := by decide +kernel
theorem dL_law_322 : decode cL_law 322 = .ok (.invokevirtual 57, 3) := by decide +kernel
theorem dL_law_325 : decode cL_law 325 = .ok (.iload 5, 2) := by decide +kernel
theorem dL_law_327 : decode cL_law 327 = .ok (.if_icmp .eq 5, 3) := by decide +kernel
theorem dL_law_330 : decode cL_law 330 = .ok (.iconst 0, 1) := by decide +kernel
theorem dL_law_331 : decode cL_law 331 = .ok (.ireturn, 1) := by decide +kernel
theorem dL_law_332 : decode cL_law 332 = .ok (.iload 5, 2) := by decide +kernel
theorem dL_law_334 : decode cL_law 334 = .ok (.ifCond .ne 15, 3) := by decide +kernel
theorem dL_law_337 : decode cL_law 337 = .ok (.aload_n 3, 1) := by decide +kernel
theorem dL_law_338 : decode cL_law 338 = .ok (.iconst 0, 1) := by decide +kernel
theorem dL_law_339 : decode cL_law 339 = .ok (.laload, 1) := by decide +kernel
theorem dL_law_340 : decode cL_law 340 = .ok (.iload 6, 2) := by decide +kernel
theorem dL_law_342 : decode cL_law 342 = .ok (.i2l, 1) := by decide +kernel
theorem dL_law_343 : decode cL_law 343 = .ok (.lcmp, 1) := by decide +kernel
theorem dL_law_344 : decode cL_law 344 = .ok (.ifCond .eq 5, 3) := by decide +kernel
theorem dL_law_347 : decode cL_law 347 = .ok (.iconst 0, 1) := by decide +kernel
theorem dL_law_348 : decode cL_law 348 = .ok (.ireturn, 1) := by decide +kernel
theorem dL_law_349 : decode cL_law 349 = .ok (.goto 352, 3) := by decide +kernel
theorem dL_law_352 : decode cL_law 352 = .ok (.aload_n 1, 1) := by decide +kernel
theorem dL_law_353 : decode cL_law 353 = .ok (.invokevirtual 72, 3) := by decide +kernel
theorem dL_law_356 : decode cL_law 356 = .ok (.aload_n 2, 1) := by decide +kernel
theorem dL_law_357 : decode cL_law 357 = .ok (.invokevirtual 75, 3) := by decide +kernel
theorem dL_law_360 : decode cL_law 360 = .ok (.if_icmp .eq 341, 3) := by decide +kernel
theorem dL_law_363 : decode cL_law 363 = .ok (.iconst 0, 1) := by decide +kernel
theorem dL_law_364 : decode cL_law 364 = .ok (.ireturn, 1) := by decide +kernel
theorem dL_law_365 : decode cL_law 365 = .ok (.aload_n 1, 1) := by decide +kernel
theorem dL_law_366 : decode cL_law 366 = .ok (.invokevirtual 76, 3) := by decide +kernel
theorem dL_law_369 : decode cL_law 369 = .ok (.aload_n 2, 1) := by decide +kernel
theorem dL_law_370 : decode cL_law 370 = .ok (.invokevirtual 79, 3) := by decide +kernel
theorem dL_law_373 : decode cL_law 373 = .ok (.if_icmp .eq 328, 3) := by decide +kernel
theorem dL_law_376 : decode cL_law 376 = .ok (.iconst 0, 1) := by decide +kernel
theorem dL_law_377 : decode cL_law 377 = .ok (.ireturn, 1) := by decide +kernel
theorem dL_law_378 : decode cL_law 378 = .ok (.aload_n 1, 1) := by decide +kernel
theorem dL_law_379 : decode cL_law 379 = .ok (.aload_n 0, 1) := by decide +kernel
theorem dL_law_380 : decode cL_law 380 = .ok (.iload 4, 2) := by decide +kernel
theorem dL_law_382 : decode cL_law 382 = .ok (.iconst 1, 1) := by decide +kernel
theorem dL_law_383 : decode cL_law 383 = .ok (.iadd, 1) := by decide +kernel
theorem dL_law_384 : decode cL_law 384 = .ok (.iaload, 1) := by decide +kernel
theorem dL_law_385 : decode cL_law 385 = .ok (.aload_n 3, 1) := by decide +kernel
theorem dL_law_386 : decode cL_law 386 = .ok (.invokestatic 80, 3) := by decide +kernel
theorem dL_law_389 : decode cL_law 389 = .ok (.istore 5, 2) := by decide +kernel
theorem dL_law_391 : decode cL_law 391 = .ok (.aload_n 2, 1) := by decide +kernel
theorem dL_law_392 : decode cL_law 392 = .ok (.aload_n 0, 1) := by decide +kernel
theorem dL_law_393 : decode cL_law 393 = .ok (.iload 4, 2) := by decide +kernel
theorem dL_law_395 : decode cL_law 395 = .ok (.iconst 1, 1) := by decide +kernel
theorem dL_law_396 : decode cL_law 396 = .ok (.iadd, 1) := by decide +kernel
theorem dL_law_397 : decode cL_law 397 = .ok (.iaload, 1) := by decide +kernel
theorem dL_law_398 : decode cL_law 398 = .ok (.invokevirtual 82, 3) := by decide +kernel
theorem dL_law_401 : decode cL_law 401 = .ok (.istore 6, 2) := by decide +kernel
theorem dL_law_403 : decode cL_law 403 = .ok (.aload_n 2, 1) := by decide +kernel
theorem dL_law_404 : decode cL_law 404 = .ok (.invokevirtual 57, 3) := by decide +kernel
theorem dL_law_407 : decode cL_law 407 = .ok (.iload 5, 2) := by decide +kernel
theorem dL_law_409 : decode cL_law 409 = .ok (.if_icmp .eq 5, 3) := by decide +kernel
theorem dL_law_412 : decode cL_law 412 = .ok (.iconst 0, 1) := by decide +kernel
theorem dL_law_413 : decode cL_law 413 = .ok (.ireturn, 1) := by decide +kernel
theorem dL_law_414 : decode cL_law 414 = .ok (.iload 5, 2) := by decide +kernel
theorem dL_law_416 : decode cL_law 416 = .ok (.ifCond .ne 15, 3) := by decide +kernel
theorem dL_law_419 : decode cL_law 419 = .ok (.aload_n 3, 1) := by decide +kernel
theorem dL_law_420 : decode cL_law 420 = .ok (.iconst 0, 1) := by decide +kernel
theorem dL_law_421 : decode cL_law 421 = .ok (.laload, 1) := by decide +kernel
theorem dL_law_422 : decode cL_law 422 = .ok (.iload 6, 2) := by decide +kernel
theorem dL_law_424 : decode cL_law 424 = .ok (.i2l, 1) := by decide +kernel
theorem dL_law_425 : decode cL_law 425 = .ok (.lcmp, 1) := by decide +kernel
theorem dL_law_426 : decode cL_law 426 = .ok (.ifCond .eq 5, 3) := by decide +kernel
theorem dL_law_429 : decode cL_law 429 = .ok (.iconst 0, 1) := by decide +kernel
theorem dL_law_430 : decode cL_law 430 = .ok (.ireturn, 1) := by decide +kernel
theorem dL_law_431 : decode cL_law 431 = .ok (.goto 270, 3) := by decide +kernel
theorem dL_law_434 : decode cL_law 434 = .ok (.aload_n 1, 1) := by decide +kernel
theorem dL_law_435 : decode cL_law 435 = .ok (.aload_n 0, 1) := by decide +kernel
theorem dL_law_436 : decode cL_law 436 = .ok (.iload 4, 2) := by decide +kernel
theorem dL_law_438 : decode cL_law 438 = .ok (.iconst 1, 1) := by decide +kernel
theorem dL_law_439 : decode cL_law 439 = .ok (.iadd, 1) := by decide +kernel
theorem dL_law_440 : decode cL_law 440 = .ok (.iaload, 1) := by decide +kernel
theorem dL_law_441 : decode cL_law 441 = .ok (.aload_n 0, 1) := by decide +kernel
theorem dL_law_442 : decode cL_law 442 = .ok (.iload 4, 2) := by decide +kernel
theorem dL_law_444 : decode cL_law 444 = .ok (.iconst 2, 1) := by decide +kernel
theorem dL_law_445 : decode cL_law 445 = .ok (.iadd, 1) := by decide +kernel
theorem dL_law_446 : decode cL_law 446 = .ok (.iaload, 1) := by decide +kernel
theorem dL_law_447 : decode cL_law 447 = .ok (.aload_n 3, 1) := by decide +kernel
theorem dL_law_448 : decode cL_law 448 = .ok (.invokestatic 83, 3) := by decide +kernel
theorem dL_law_451 : decode cL_law 451 = .ok (.istore 5, 2) := by decide +kernel
theorem dL_law_453 : decode cL_law 453 = .ok (.aload_n 2, 1) := by decide +kernel
theorem dL_law_454 : decode cL_law 454 = .ok (.aload_n 0, 1) := by decide +kernel
theorem dL_law_455 : decode cL_law 455 = .ok (.iload 4, 2) := by decide +kernel
theorem dL_law_457 : decode cL_law 457 = .ok (.iconst 1, 1) := by decide +kernel
theorem dL_law_458 : decode cL_law 458 = .ok (.iadd, 1) := by decide +kernel
theorem dL_law_459 : decode cL_law 459 = .ok (.iaload, 1) := by decide +kernel
theorem dL_law_460 : decode cL_law 460 = .ok (.aload_n 0, 1) := by decide +kernel
theorem dL_law_461 : decode cL_law 461 = .ok (.iload 4, 2) := by decide +kernel
theorem dL_law_463 : decode cL_law 463 = .ok (.iconst 2, 1) := by decide +kernel
theorem dL_law_464 : decode cL_law 464 = .ok (.iadd, 1) := by decide +kernel
theorem dL_law_465 : decode cL_law 465 = .ok (.iaload, 1) := by decide +kernel
theorem dL_law_466 : decode cL_law 466 = .ok (.invokevirtual 86, 3) := by decide +kernel
theorem dL_law_469 : decode cL_law 469 = .ok (.istore 6, 2) := by decide +kernel
theorem dL_law_471 : decode cL_law 471 = .ok (.aload_n 2, 1) := by decide +kernel
theorem dL_law_472 : decode cL_law 472 = .ok (.invokevirtual 57, 3) := by decide +kernel
theorem dL_law_475 : decode cL_law 475 = .ok (.iload 5, 2) := by decide +kernel
theorem dL_law_477 : decode cL_law 477 = .ok (.if_icmp .eq 5, 3) := by decide +kernel
theorem dL_law_480 : decode cL_law 480 = .ok (.iconst 0, 1) := by decide +kernel
theorem dL_law_481 : decode cL_law 481 = .ok (.ireturn, 1) := by decide +kernel
theorem dL_law_482 : decode cL_law 482 = .ok (.iload 5, 2) := by decide +kernel
theorem dL_law_484 : decode cL_law 484 = .ok (.ifCond .ne 15, 3) := by decide +kernel
theorem dL_law_487 : decode cL_law 487 = .ok (.aload_n 3, 1) := by decide +kernel
theorem dL_law_488 : decode cL_law 488 = .ok (.iconst 0, 1) := by decide +kernel
theorem dL_law_489 : decode cL_law 489 = .ok (.laload, 1) := by decide +kernel
theorem dL_law_490 : decode cL_law 490 = .ok (.iload 6, 2) := by decide +kernel
theorem dL_law_492 : decode cL_law 492 = .ok (.i2l, 1) := by decide +kernel
theorem dL_law_493 : decode cL_law 493 = .ok (.lcmp, 1) := by decide +kernel
theorem dL_law_494 : decode cL_law 494 = .ok (.ifCond .eq 5, 3) := by decide +kernel
theorem dL_law_497 : decode cL_law 497 = .ok (.iconst 0, 1) := by decide +kernel
theorem dL_law_498 : decode cL_law 498 = .ok (.ireturn, 1) := by decide +kernel
theorem dL_law_499 : decode cL_law 499 = .ok (.goto 202, 3) := by decide +kernel
theorem dL_law_502 : decode cL_law 502 = .ok (.aload_n 1, 1) := by decide +kernel
theorem dL_law_503 : decode cL_law 503 = .ok (.aload_n 0, 1) := by decide +kernel
theorem dL_law_504 : decode cL_law 504 = .ok (.iload 4, 2) := by decide +kernel
theorem dL_law_506 : decode cL_law 506 = .ok (.iconst 1, 1) := by decide +kernel
theorem dL_law_507 : decode cL_law 507 = .ok (.iadd, 1) := by decide +kernel
theorem dL_law_508 : decode cL_law 508 = .ok (.iaload, 1) := by decide +kernel
theorem dL_law_509 : decode cL_law 509 = .ok (.aload_n 0, 1) := by decide +kernel
theorem dL_law_510 : decode cL_law 510 = .ok (.iload 4, 2) := by decide +kernel
theorem dL_law_512 : decode cL_law 512 = .ok (.iconst 2, 1) := by decide +kernel
theorem dL_law_513 : decode cL_law 513 = .ok (.iadd, 1) := by decide +kernel
theorem dL_law_514 : decode cL_law 514 = .ok (.iaload, 1) := by decide +kernel
theorem dL_law_515 : decode cL_law 515 = .ok (.aload_n 3, 1) := by decide +kernel
theorem dL_law_516 : decode cL_law 516 = .ok (.invokestatic 87, 3) := by decide +kernel
theorem dL_law_519 : decode cL_law 519 = .ok (.istore 5, 2) := by decide +kernel
theorem dL_law_521 : decode cL_law 521 = .ok (.aload_n 2, 1) := by decide +kernel
theorem dL_law_522 : decode cL_law 522 = .ok (.aload_n 0, 1) := by decide +kernel
theorem dL_law_523 : decode cL_law 523 = .ok (.iload 4, 2) := by decide +kernel
theorem dL_law_525 : decode cL_law 525 = .ok (.iconst 1, 1) := by decide +kernel
theorem dL_law_526 : decode cL_law 526 = .ok (.iadd, 1) := by decide +kernel
theorem dL_law_527 : decode cL_law 527 = .ok (.iaload, 1) := by decide +kernel
theorem dL_law_528 : decode cL_law 528 = .ok (.aload_n 0, 1) := by decide +kernel
theorem dL_law_529 : decode cL_law 529 = .ok (.iload 4, 2) := by decide +kernel
theorem dL_law_531 : decode cL_law 531 = .ok (.iconst 2, 1) := by decide +kernel
theorem dL_law_532 : decode cL_law 532 = .ok (.iadd, 1) := by decide +kernel
theorem dL_law_533 : decode cL_law 533 = .ok (.iaload, 1) := by decide +kernel
theorem dL_law_534 : decode cL_law 534 = .ok (.invokevirtual 89, 3) := by decide +kernel
theorem dL_law_537 : decode cL_law 537 = .ok (.istore 6, 2) := by decide +kernel
theorem dL_law_539 : decode cL_law 539 = .ok (.aload_n 2, 1) := by decide +kernel
theorem dL_law_540 : decode cL_law 540 = .ok (.invokevirtual 57, 3) := by decide +kernel
theorem dL_law_543 : decode cL_law 543 = .ok (.iload 5, 2) := by decide +kernel
theorem dL_law_545 : decode cL_law 545 = .ok (.if_icmp .eq 5, 3) := by decide +kernel
theorem dL_law_548 : decode cL_law 548 = .ok (.iconst 0, 1) := by decide +kernel
theorem dL_law_549 : decode cL_law 549 = .ok (.ireturn, 1) := by decide +kernel
theorem dL_law_550 : decode cL_law 550 = .ok (.iload 5, 2) := by decide +kernel
theorem dL_law_552 : decode cL_law 552 = .ok (.ifCond .ne 15, 3) := by decide +kernel
theorem dL_law_555 : decode cL_law 555 = .ok (.aload_n 3, 1) := by decide +kernel
theorem dL_law_556 : decode cL_law 556 = .ok (.iconst 0, 1) := by decide +kernel
theorem dL_law_557 : decode cL_law 557 = .ok (.laload, 1) := by decide +kernel
theorem dL_law_558 : decode cL_law 558 = .ok (.iload 6, 2) := by decide +kernel
theorem dL_law_560 : decode cL_law 560 = .ok (.i2l, 1) := by decide +kernel
theorem dL_law_561 : decode cL_law 561 = .ok (.lcmp, 1) := by decide +kernel
theorem dL_law_562 : decode cL_law 562 = .ok (.ifCond .eq 5, 3) := by decide +kernel
theorem dL_law_565 : decode cL_law 565 = .ok (.iconst 0, 1) := by decide +kernel
theorem dL_law_566 : decode cL_law 566 = .ok (.ireturn, 1) := by decide +kernel
theorem dL_law_567 : decode cL_law 567 = .ok (.goto 134, 3) := by decide +kernel
theorem dL_law_570 : decode cL_law 570 = .ok (.aload_n 1, 1) := by decide +kernel
theorem dL_law_571 : decode cL_law 571 = .ok (.aload_n 0, 1) := by decide +kernel
theorem dL_law_572 : decode cL_law 572 = .ok (.iload 4, 2) := by decide +kernel
theorem dL_law_574 : decode cL_law 574 = .ok (.iconst 1, 1) := by decide +kernel
theorem dL_law_575 : decode cL_law 575 = .ok (.iadd, 1) := by decide +kernel
theorem dL_law_576 : decode cL_law 576 = .ok (.iaload, 1) := by decide +kernel
theorem dL_law_577 : decode cL_law 577 = .ok (.aload_n 3, 1) := by decide +kernel
theorem dL_law_578 : decode cL_law 578 = .ok (.invokestatic 90, 3) := by decide +kernel
theorem dL_law_581 : decode cL_law 581 = .ok (.istore 5, 2) := by decide +kernel
theorem dL_law_583 : decode cL_law 583 = .ok (.aload_n 2, 1) := by decide +kernel
theorem dL_law_584 : decode cL_law 584 = .ok (.aload_n 0, 1) := by decide +kernel
theorem dL_law_585 : decode cL_law 585 = .ok (.iload 4, 2) := by decide +kernel
theorem dL_law_587 : decode cL_law 587 = .ok (.iconst 1, 1) := by decide +kernel
theorem dL_law_588 : decode cL_law 588 = .ok (.iadd, 1) := by decide +kernel
theorem dL_law_589 : decode cL_law 589 = .ok (.iaload, 1) := by decide +kernel
theorem dL_law_590 : decode cL_law 590 = .ok (.invokevirtual 92, 3) := by decide +kernel
theorem dL_law_593 : decode cL_law 593 = .ok (.istore 6, 2) := by decide +kernel
theorem dL_law_595 : decode cL_law 595 = .ok (.aload_n 2, 1) := by decide +kernel
theorem dL_law_596 : decode cL_law 596 = .ok (.invokevirtual 57, 3) := by decide +kernel
theorem dL_law_599 : decode cL_law 599 = .ok (.iload 5, 2) := by decide +kernel
theorem dL_law_601 : decode cL_law 601 = .ok (.if_icmp .eq 5, 3) := by decide +kernel
theorem dL_law_604 : decode cL_law 604 = .ok (.iconst 0, 1) := by decide +kernel
theorem dL_law_605 : decode cL_law 605 = .ok (.ireturn, 1) := by decide +kernel
theorem dL_law_606 : decode cL_law 606 = .ok (.iload 5, 2) := by decide +kernel
theorem dL_law_608 : decode cL_law 608 = .ok (.ifCond .ne 15, 3) := by decide +kernel
theorem dL_law_611 : decode cL_law 611 = .ok (.aload_n 3, 1) := by decide +kernel
theorem dL_law_612 : decode cL_law 612 = .ok (.iconst 0, 1) := by decide +kernel
theorem dL_law_613 : decode cL_law 613 = .ok (.laload, 1) := by decide +kernel
theorem dL_law_614 : decode cL_law 614 = .ok (.iload 6, 2) := by decide +kernel
theorem dL_law_616 : decode cL_law 616 = .ok (.i2l, 1) := by decide +kernel
theorem dL_law_617 : decode cL_law 617 = .ok (.lcmp, 1) := by decide +kernel
theorem dL_law_618 : decode cL_law 618 = .ok (.ifCond .eq 5, 3) := by decide +kernel
theorem dL_law_621 : decode cL_law 621 = .ok (.iconst 0, 1) := by decide +kernel
theorem dL_law_622 : decode cL_law 622 = .ok (.ireturn, 1) := by decide +kernel
theorem dL_law_623 : decode cL_law 623 = .ok (.goto 78, 3) := by decide +kernel
theorem dL_law_626 : decode cL_law 626 = .ok (.aload_n 1, 1) := by decide +kernel
theorem dL_law_627 : decode cL_law 627 = .ok (.aload_n 0, 1) := by decide +kernel
theorem dL_law_628 : decode cL_law 628 = .ok (.iload 4, 2) := by decide +kernel
theorem dL_law_630 : decode cL_law 630 = .ok (.iconst 1, 1) := by decide +kernel
theorem dL_law_631 : decode cL_law 631 = .ok (.iadd, 1) := by decide +kernel
theorem dL_law_632 : decode cL_law 632 = .ok (.iaload, 1) := by decide +kernel
theorem dL_law_633 : decode cL_law 633 = .ok (.aload_n 0, 1) := by decide +kernel
theorem dL_law_634 : decode cL_law 634 = .ok (.iload 4, 2) := by decide +kernel
theorem dL_law_636 : decode cL_law 636 = .ok (.iconst 2, 1) := by decide +kernel
theorem dL_law_637 : decode cL_law 637 = .ok (.iadd, 1) := by decide +kernel
theorem dL_law_638 : decode cL_law 638 = .ok (.iaload, 1) := by decide +kernel
theorem dL_law_639 : decode cL_law 639 = .ok (.aload_n 3, 1) := by decide +kernel
theorem dL_law_640 : decode cL_law 640 = .ok (.invokestatic 93, 3) := by decide +kernel
theorem dL_law_643 : decode cL_law 643 = .ok (.istore 5, 2) := by decide +kernel
theorem dL_law_645 : decode cL_law 645 = .ok (.aload_n 2, 1) := by decide +kernel
theorem dL_law_646 : decode cL_law 646 = .ok (.aload_n 0, 1) := by decide +kernel
theorem dL_law_647 : decode cL_law 647 = .ok (.iload 4, 2) := by decide +kernel
theorem dL_law_649 : decode cL_law 649 = .ok (.iconst 1, 1) := by decide +kernel
theorem dL_law_650 : decode cL_law 650 = .ok (.iadd, 1) := by decide +kernel
theorem dL_law_651 : decode cL_law 651 = .ok (.iaload, 1) := by decide +kernel
theorem dL_law_652 : decode cL_law 652 = .ok (.aload_n 0, 1) := by decide +kernel
theorem dL_law_653 : decode cL_law 653 = .ok (.iload 4, 2) := by decide +kernel
theorem dL_law_655 : decode cL_law 655 = .ok (.iconst 2, 1) := by decide +kernel
theorem dL_law_656 : decode cL_law 656 = .ok (.iadd, 1) := by decide +kernel
theorem dL_law_657 : decode cL_law 657 = .ok (.iaload, 1) := by decide +kernel
theorem dL_law_658 : decode cL_law 658 = .ok (.invokevirtual 95, 3) := by decide +kernel
theorem dL_law_661 : decode cL_law 661 = .ok (.istore 6, 2) := by decide +kernel
theorem dL_law_663 : decode cL_law 663 = .ok (.aload_n 2, 1) := by decide +kernel
theorem dL_law_664 : decode cL_law 664 = .ok (.invokevirtual 57, 3) := by decide +kernel
theorem dL_law_667 : decode cL_law 667 = .ok (.iload 5, 2) := by decide +kernel
theorem dL_law_669 : decode cL_law 669 = .ok (.if_icmp .eq 5, 3) := by decide +kernel
theorem dL_law_672 : decode cL_law 672 = .ok (.iconst 0, 1) := by decide +kernel
theorem dL_law_673 : decode cL_law 673 = .ok (.ireturn, 1) := by decide +kernel
theorem dL_law_674 : decode cL_law 674 = .ok (.iload 5, 2) := by decide +kernel
theorem dL_law_676 : decode cL_law 676 = .ok (.ifCond .ne 22, 3) := by decide +kernel
theorem dL_law_679 : decode cL_law 679 = .ok (.aload_n 3, 1) := by decide +kernel
theorem dL_law_680 : decode cL_law 680 = .ok (.iconst 0, 1) := by decide +kernel
theorem dL_law_681 : decode cL_law 681 = .ok (.laload, 1) := by decide +kernel
theorem dL_law_682 : decode cL_law 682 = .ok (.iload 6, 2) := by decide +kernel
theorem dL_law_684 : decode cL_law 684 = .ok (.ifCond .eq 7, 3) := by decide +kernel
theorem dL_law_687 : decode cL_law 687 = .ok (.lconst 1, 1) := by decide +kernel
theorem dL_law_688 : decode cL_law 688 = .ok (.goto 4, 3) := by decide +kernel
theorem dL_law_691 : decode cL_law 691 = .ok (.lconst 0, 1) := by decide +kernel
theorem dL_law_692 : decode cL_law 692 = .ok (.lcmp, 1) := by decide +kernel
theorem dL_law_693 : decode cL_law 693 = .ok (.ifCond .eq 5, 3) := by decide +kernel
theorem dL_law_696 : decode cL_law 696 = .ok (.iconst 0, 1) := by decide +kernel
theorem dL_law_697 : decode cL_law 697 = .ok (.ireturn, 1) := by decide +kernel
theorem dL_law_698 : decode cL_law 698 = .ok (.goto 3, 3) := by decide +kernel
theorem dL_law_701 : decode cL_law 701 = .ok (.iinc 4 6, 3) := by decide +kernel
theorem dL_law_704 : decode cL_law 704 = .ok (.goto (-681), 3) := by decide +kernel
theorem dL_law_707 : decode cL_law 707 = .ok (.iconst 1, 1) := by decide +kernel
theorem dL_law_708 : decode cL_law 708 = .ok (.ireturn, 1) := by decide +kernel
