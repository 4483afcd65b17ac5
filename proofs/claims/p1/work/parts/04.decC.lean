theorem dX11_init_0 : decode cX11_init 0 = .ok (.aload_n 0, 1) := by decide +kernel
theorem dX11_init_1 : decode cX11_init 1 = .ok (.invokespecial 1, 3) := by decide +kernel
theorem dX11_init_4 : decode cX11_init 4 = .ok (.aload_n 0, 1) := by decide +kernel
theorem dX11_init_5 : decode cX11_init 5 = .ok (.sipush 4096, 3) := by decide +kernel
theorem dX11_init_8 : decode cX11_init 8 = .ok (.newarray .byte, 2) := by decide +kernel
theorem dX11_init_10 : decode cX11_init 10 = .ok (.putfield 7, 3) := by decide +kernel
theorem dX11_init_13 : decode cX11_init 13 = .ok (.aload_n 0, 1) := by decide +kernel
theorem dX11_init_14 : decode cX11_init 14 = .ok (.iconst (-1), 1) := by decide +kernel
theorem dX11_init_15 : decode cX11_init 15 = .ok (.putfield 13, 3) := by decide +kernel
theorem dX11_init_18 : decode cX11_init 18 = .ok (.aload_n 0, 1) := by decide +kernel
theorem dX11_init_19 : decode cX11_init 19 = .ok (.new 17, 3) := by decide +kernel
theorem dX11_init_22 : decode cX11_init 22 = .ok (.dup, 1) := by decide +kernel
theorem dX11_init_23 : decode cX11_init 23 = .ok (.invokespecial 19, 3) := by decide +kernel
theorem dX11_init_26 : decode cX11_init 26 = .ok (.putfield 20, 3) := by decide +kernel
theorem dX11_init_29 : decode cX11_init 29 = .ok (.aload_n 0, 1) := by decide +kernel
theorem dX11_init_30 : decode cX11_init 30 = .ok (.new 17, 3) := by decide +kernel
theorem dX11_init_33 : decode cX11_init 33 = .ok (.dup, 1) := by decide +kernel
theorem dX11_init_34 : decode cX11_init 34 = .ok (.invokespecial 19, 3) := by decide +kernel
theorem dX11_init_37 : decode cX11_init 37 = .ok (.putfield 24, 3) := by decide +kernel
theorem dX11_init_40 : decode cX11_init 40 = .ok (.aload_n 0, 1) := by decide +kernel
theorem dX11_init_41 : decode cX11_init 41 = .ok (.ldc 27, 2) := by decide +kernel
theorem dX11_init_43 : decode cX11_init 43 = .ok (.newarray .byte, 2) := by decide +kernel
theorem dX11_init_45 : decode cX11_init 45 = .ok (.putfield 28, 3) := by decide +kernel
theorem dX11_init_48 : decode cX11_init 48 = .ok (.aload_n 0, 1) := by decide +kernel
theorem dX11_init_49 : decode cX11_init 49 = .ok (.bipush 8, 2) := by decide +kernel
theorem dX11_init_51 : decode cX11_init 51 = .ok (.newarray .int, 2) := by decide +kernel
theorem dX11_init_53 : decode cX11_init 53 = .ok (.putfield 31, 3) := by decide +kernel
theorem dX11_init_56 : decode cX11_init 56 = .ok (.aload_n 0, 1) := by decide +kernel
theorem dX11_init_57 : decode cX11_init 57 = .ok (.sipush 4200, 3) := by decide +kernel
theorem dX11_init_60 : decode cX11_init 60 = .ok (.newarray .byte, 2) := by decide +kernel
theorem dX11_init_62 : decode cX11_init 62 = .ok (.putfield 35, 3) := by decide +kernel
theorem dX11_init_65 : decode cX11_init 65 = .ok (.aload_n 0, 1) := by decide +kernel
theorem dX11_init_66 : decode cX11_init 66 = .ok (.iconst (-1), 1) := by decide +kernel
theorem dX11_init_67 : decode cX11_init 67 = .ok (.putfield 38, 3) := by decide +kernel
theorem dX11_init_70 : decode cX11_init 70 = .ok (.aload_n 0, 1) := by decide +kernel
theorem dX11_init_71 : decode cX11_init 71 = .ok (.sipush 4200, 3) := by decide +kernel
theorem dX11_init_74 : decode cX11_init 74 = .ok (.newarray .byte, 2) := by decide +kernel
theorem dX11_init_76 : decode cX11_init 76 = .ok (.putfield 41, 3) := by decide +kernel
theorem dX11_init_79 : decode cX11_init 79 = .ok (.aload_n 0, 1) := by decide +kernel
theorem dX11_init_80 : decode cX11_init 80 = .ok (.sipush 4200, 3) := by decide +kernel
theorem dX11_init_83 : decode cX11_init 83 = .ok (.newarray .byte, 2) := by decide +kernel
theorem dX11_init_85 : decode cX11_init 85 = .ok (.putfield 44, 3) := by decide +kernel
theorem dX11_init_88 : decode cX11_init 88 = .ok (.aload_n 0, 1) := by decide +kernel
theorem dX11_init_89 : decode cX11_init 89 = .ok (.sipush 19600, 3) := by decide +kernel
theorem dX11_init_92 : decode cX11_init 92 = .ok (.newarray .boolean, 2) := by decide +kernel
theorem dX11_init_94 : decode cX11_init 94 = .ok (.putfield 47, 3) := by decide +kernel
theorem dX11_init_97 : decode cX11_init 97 = .ok (.aload_n 0, 1) := by decide +kernel
theorem dX11_init_98 : decode cX11_init 98 = .ok (.sipush 19600, 3) := by decide +kernel
theorem dX11_init_101 : decode cX11_init 101 = .ok (.newarray .int, 2) := by decide +kernel
theorem dX11_init_103 : decode cX11_init 103 = .ok (.putfield 51, 3) := by decide +kernel
theorem dX11_init_106 : decode cX11_init 106 = .ok (.iconst 0, 1) := by decide +kernel
theorem dX11_init_107 : decode cX11_init 107 = .ok (.istore_n 1, 1) := by decide +kernel
theorem dX11_init_108 : decode cX11_init 108 = .ok (.iload_n 1, 1) := by decide +kernel
theorem dX11_init_109 : decode cX11_init 109 = .ok (.bipush 8, 2) := by decide +kernel
theorem dX11_init_111 : decode cX11_init 111 = .ok (.if_icmp .ge 16, 3) := by decide +kernel
theorem dX11_init_114 : decode cX11_init 114 = .ok (.aload_n 0, 1) := by decide +kernel
theorem dX11_init_115 : decode cX11_init 115 = .ok (.getfield 31, 3) := by decide +kernel
theorem dX11_init_118 : decode cX11_init 118 = .ok (.iload_n 1, 1) := by decide +kernel
theorem dX11_init_119 : decode cX11_init 119 = .ok (.iconst (-1), 1) := by decide +kernel
theorem dX11_init_120 : decode cX11_init 120 = .ok (.iastore, 1) := by decide +kernel
theorem dX11_init_121 : decode cX11_init 121 = .ok (.iinc 1 1, 3) := by decide +kernel
theorem dX11_init_124 : decode cX11_init 124 = .ok (.goto (-16), 3) := by decide +kernel
theorem dX11_init_127 : decode cX11_init 127 = .ok (.return_, 1) := by decide +kernel
theorem dX11_thrown_0 : decode cX11_thrown 0 = .ok (.aload_n 0, 1) := by decide +kernel
theorem dX11_thrown_1 : decode cX11_thrown 1 = .ok (.getfield 54, 3) := by decide +kernel
theorem dX11_thrown_4 : decode cX11_thrown 4 = .ok (.ireturn, 1) := by decide +kernel
theorem dX11_refused_0 : decode cX11_refused 0 = .ok (.aload_n 0, 1) := by decide +kernel
theorem dX11_refused_1 : decode cX11_refused 1 = .ok (.iload_n 1, 1) := by decide +kernel
theorem dX11_refused_2 : decode cX11_refused 2 = .ok (.ifCond .eq 7, 3) := by decide +kernel
theorem dX11_refused_5 : decode cX11_refused 5 = .ok (.iconst 1, 1) := by decide +kernel
theorem dX11_refused_6 : decode cX11_refused 6 = .ok (.goto 12, 3) := by decide +kernel
theorem dX11_refused_9 : decode cX11_refused 9 = .ok (.iload_n 2, 1) := by decide +kernel
theorem dX11_refused_10 : decode cX11_refused 10 = .ok (.ifCond .eq 7, 3) := by decide +kernel
theorem dX11_refused_13 : decode cX11_refused 13 = .ok (.iconst 2, 1) := by decide +kernel
theorem dX11_refused_14 : decode cX11_refused 14 = .ok (.goto 4, 3) := by decide +kernel
theorem dX11_refused_17 : decode cX11_refused 17 = .ok (.iconst 0, 1) := by decide +kernel
theorem dX11_refused_18 : decode cX11_refused 18 = .ok (.putfield 54, 3) := by decide +kernel
theorem dX11_refused_21 : decode cX11_refused 21 = .ok (.aload_n 0, 1) := by decide +kernel
theorem dX11_refused_22 : decode cX11_refused 22 = .ok (.getfield 54, 3) := by decide +kernel
theorem dX11_refused_25 : decode cX11_refused 25 = .ok (.ifCond .le 7, 3) := by decide +kernel
theorem dX11_refused_28 : decode cX11_refused 28 = .ok (.iconst 1, 1) := by decide +kernel
theorem dX11_refused_29 : decode cX11_refused 29 = .ok (.goto 4, 3) := by decide +kernel
theorem dX11_refused_32 : decode cX11_refused 32 = .ok (.iconst 0, 1) := by decide +kernel
theorem dX11_refused_33 : decode cX11_refused 33 = .ok (.ireturn, 1) := by decide +kernel
theorem dX11_within_0 : decode cX11_within 0 = .ok (.iload_n 0, 1) := by decide +kernel
theorem dX11_within_1 : decode cX11_within 1 = .ok (.iload_n 1, 1) := by decide +kernel
theorem dX11_within_2 : decode cX11_within 2 = .ok (.if_icmp .lt 12, 3) := by decide +kernel
theorem dX11_within_5 : decode cX11_within 5 = .ok (.iload_n 0, 1) := by decide +kernel
theorem dX11_within_6 : decode cX11_within 6 = .ok (.iload_n 2, 1) := by decide +kernel
theorem dX11_within_7 : decode cX11_within 7 = .ok (.if_icmp .gt 7, 3) := by decide +kernel
theorem dX11_within_10 : decode cX11_within 10 = .ok (.iconst 1, 1) := by decide +kernel
theorem dX11_within_11 : decode cX11_within 11 = .ok (.goto 4, 3) := by decide +kernel
theorem dX11_within_14 : decode cX11_within 14 = .ok (.iconst 0, 1) := by decide +kernel
theorem dX11_within_15 : decode cX11_within 15 = .ok (.ireturn, 1) := by decide +kernel
theorem dX11_addInt_0 : decode cX11_addInt 0 = .ok (.bipush 24, 2) := by decide +kernel
theorem dX11_addInt_2 : decode cX11_addInt 2 = .ok (.istore_n 2, 1) := by decide +kernel
theorem dX11_addInt_3 : decode cX11_addInt 3 = .ok (.iload_n 2, 1) := by decide +kernel
theorem dX11_addInt_4 : decode cX11_addInt 4 = .ok (.ifCond .lt 32, 3) := by decide +kernel
theorem dX11_addInt_7 : decode cX11_addInt 7 = .ok (.aload_n 0, 1) := by decide +kernel
theorem dX11_addInt_8 : decode cX11_addInt 8 = .ok (.getfield 7, 3) := by decide +kernel
theorem dX11_addInt_11 : decode cX11_addInt 11 = .ok (.aload_n 0, 1) := by decide +kernel
theorem dX11_addInt_12 : decode cX11_addInt 12 = .ok (.getfield 57, 3) := by decide +kernel
theorem dX11_addInt_15 : decode cX11_addInt 15 = .ok (.iload_n 1, 1) := by decide +kernel
theorem dX11_addInt_16 : decode cX11_addInt 16 = .ok (.iload_n 2, 1) := by decide +kernel
theorem dX11_addInt_17 : decode cX11_addInt 17 = .ok (.ishr, 1) := by decide +kernel
theorem dX11_addInt_18 : decode cX11_addInt 18 = .ok (.i2b, 1) := by decide +kernel
theorem dX11_addInt_19 : decode cX11_addInt 19 = .ok (.bastore, 1) := by decide +kernel
theorem dX11_addInt_20 : decode cX11_addInt 20 = .ok (.aload_n 0, 1) := by decide +kernel
theorem dX11_addInt_21 : decode cX11_addInt 21 = .ok (.dup, 1) := by decide +kernel
theorem dX11_addInt_22 : decode cX11_addInt 22 = .ok (.getfield 57, 3) := by decide +kernel
theorem dX11_addInt_25 : decode cX11_addInt 25 = .ok (.iconst 1, 1) := by decide +kernel
theorem dX11_addInt_26 : decode cX11_addInt 26 = .ok (.iadd, 1) := by decide +kernel
theorem dX11_addInt_27 : decode cX11_addInt 27 = .ok (.putfield 57, 3) := by decide +kernel
theorem dX11_addInt_30 : decode cX11_addInt 30 = .ok (.iinc 2 (-8), 3) := by decide +kernel
theorem dX11_addInt_33 : decode cX11_addInt 33 = .ok (.goto (-30), 3) := by decide +kernel
theorem dX11_addInt_36 : decode cX11_addInt 36 = .ok (.return_, 1) := by decide +kernel
theorem dX11_feed_0 : decode cX11_feed 0 = .ok (.aload_n 0, 1) := by decide +kernel
theorem dX11_feed_1 : decode cX11_feed 1 = .ok (.aload_n 0, 1) := by decide +kernel
theorem dX11_feed_2 : decode cX11_feed 2 = .ok (.getfield 57, 3) := by decide +kernel
theorem dX11_feed_5 : decode cX11_feed 5 = .ok (.bipush 20, 2) := by decide +kernel
theorem dX11_feed_7 : decode cX11_feed 7 = .ok (.iadd, 1) := by decide +kernel
theorem dX11_feed_8 : decode cX11_feed 8 = .ok (.sipush 4096, 3) := by decide +kernel
theorem dX11_feed_11 : decode cX11_feed 11 = .ok (.if_icmp .le 7, 3) := by decide +kernel
theorem dX11_feed_14 : decode cX11_feed 14 = .ok (.iconst 1, 1) := by decide +kernel
theorem dX11_feed_15 : decode cX11_feed 15 = .ok (.goto 4, 3) := by decide +kernel
theorem dX11_feed_18 : decode cX11_feed 18 = .ok (.iconst 0, 1) := by decide +kernel
theorem dX11_feed_19 : decode cX11_feed 19 = .ok (.iconst 0, 1) := by decide +kernel
theorem dX11_feed_20 : decode cX11_feed 20 = .ok (.invokevirtual 60, 3) := by decide +kernel
theorem dX11_feed_23 : decode cX11_feed 23 = .ok (.ifCond .eq 5, 3) := by decide +kernel
theorem dX11_feed_26 : decode cX11_feed 26 = .ok (.iconst 0, 1) := by decide +kernel
theorem dX11_feed_27 : decode cX11_feed 27 = .ok (.ireturn, 1) := by decide +kernel
theorem dX11_feed_28 : decode cX11_feed 28 = .ok (.aload_n 0, 1) := by decide +kernel
theorem dX11_feed_29 : decode cX11_feed 29 = .ok (.iload_n 1, 1) := by decide +kernel
theorem dX11_feed_30 : decode cX11_feed 30 = .ok (.invokevirtual 64, 3) := by decide +kernel
theorem dX11_feed_33 : decode cX11_feed 33 = .ok (.aload_n 0, 1) := by decide +kernel
theorem dX11_feed_34 : decode cX11_feed 34 = .ok (.iload_n 2, 1) := by decide +kernel
theorem dX11_feed_35 : decode cX11_feed 35 = .ok (.invokevirtual 64, 3) := by decide +kernel
theorem dX11_feed_38 : decode cX11_feed 38 = .ok (.aload_n 0, 1) := by decide +kernel
theorem dX11_feed_39 : decode cX11_feed 39 = .ok (.iload_n 3, 1) := by decide +kernel
theorem dX11_feed_40 : decode cX11_feed 40 = .ok (.invokevirtual 64, 3) := by decide +kernel
theorem dX11_feed_43 : decode cX11_feed 43 = .ok (.aload_n 0, 1) := by decide +kernel
theorem dX11_feed_44 : decode cX11_feed 44 = .ok (.iload 4, 2) := by decide +kernel
theorem dX11_feed_46 : decode cX11_feed 46 = .ok (.invokevirtual 64, 3) := by decide +kernel
theorem dX11_feed_49 : decode cX11_feed 49 = .ok (.aload_n 0, 1) := by decide +kernel
theorem dX11_feed_50 : decode cX11_feed 50 = .ok (.iload 5, 2) := by decide +kernel
theorem dX11_feed_52 : decode cX11_feed 52 = .ok (.invokevirtual 64, 3) := by decide +kernel
theorem dX11_feed_55 : decode cX11_feed 55 = .ok (.aload_n 0, 1) := by decide +kernel
theorem dX11_feed_56 : decode cX11_feed 56 = .ok (.getfield 57, 3) := by decide +kernel
theorem dX11_feed_59 : decode cX11_feed 59 = .ok (.ireturn, 1) := by decide +kernel
theorem dX11_end_0 : decode cX11_end 0 = .ok (.aload_n 0, 1) := by decide +kernel
theorem dX11_end_1 : decode cX11_end 1 = .ok (.iload_n 1, 1) := by decide +kernel
theorem dX11_end_2 : decode cX11_end 2 = .ok (.iconst 0, 1) := by decide +kernel
theorem dX11_end_3 : decode cX11_end 3 = .ok (.aload_n 0, 1) := by decide +kernel
theorem dX11_end_4 : decode cX11_end 4 = .ok (.getfield 57, 3) := by decide +kernel
theorem dX11_end_7 : decode cX11_end 7 = .ok (.invokestatic 68, 3) := by decide +kernel
theorem dX11_end_10 : decode cX11_end 10 = .ok (.ifCond .ne 7, 3) := by decide +kernel
theorem dX11_end_13 : decode cX11_end 13 = .ok (.iconst 1, 1) := by decide +kernel
theorem dX11_end_14 : decode cX11_end 14 = .ok (.goto 4, 3) := by decide +kernel
theorem dX11_end_17 : decode cX11_end 17 = .ok (.iconst 0, 1) := by decide +kernel
theorem dX11_end_18 : decode cX11_end 18 = .ok (.iconst 0, 1) := by decide +kernel
theorem dX11_end_19 : decode cX11_end 19 = .ok (.invokevirtual 60, 3) := by decide +kernel
theorem dX11_end_22 : decode cX11_end 22 = .ok (.ifCond .ne 8, 3) := by decide +kernel
theorem dX11_end_25 : decode cX11_end 25 = .ok (.aload_n 0, 1) := by decide +kernel
theorem dX11_end_26 : decode cX11_end 26 = .ok (.iload_n 1, 1) := by decide +kernel
theorem dX11_end_27 : decode cX11_end 27 = .ok (.putfield 57, 3) := by decide +kernel
theorem dX11_end_30 : decode cX11_end 30 = .ok (.return_, 1) := by decide +kernel
theorem dX11_isPlace_0 : decode cX11_isPlace 0 = .ok (.iload_n 0, 1) := by decide +kernel
theorem dX11_isPlace_1 : decode cX11_isPlace 1 = .ok (.iconst 0, 1) := by decide +kernel
theorem dX11_isPlace_2 : decode cX11_isPlace 2 = .ok (.bipush 7, 2) := by decide +kernel
theorem dX11_isPlace_4 : decode cX11_isPlace 4 = .ok (.invokestatic 68, 3) := by decide +kernel
theorem dX11_isPlace_7 : decode cX11_isPlace 7 = .ok (.ireturn, 1) := by decide +kernel
theorem dX11_varintSize_0 : decode cX11_varintSize 0 = .ok (.lload_n 0, 1) := by decide +kernel
theorem dX11_varintSize_1 : decode cX11_varintSize 1 = .ok (.iconst 1, 1) := by decide +kernel
theorem dX11_varintSize_2 : decode cX11_varintSize 2 = .ok (.lshl, 1) := by decide +kernel
theorem dX11_varintSize_3 : decode cX11_varintSize 3 = .ok (.lload_n 0, 1) := by decide +kernel
theorem dX11_varintSize_4 : decode cX11_varintSize 4 = .ok (.bipush 63, 2) := by decide +kernel
theorem dX11_varintSize_6 : decode cX11_varintSize 6 = .ok (.lshr, 1) := by decide +kernel
theorem dX11_varintSize_7 : decode cX11_varintSize 7 = .ok (.lxor, 1) := by decide +kernel
theorem dX11_varintSize_8 : decode cX11_varintSize 8 = .ok (.lstore_n 2, 1) := by decide +kernel
theorem dX11_varintSize_9 : decode cX11_varintSize 9 = .ok (.iconst 1, 1) := by decide +kernel
theorem dX11_varintSize_10 : decode cX11_varintSize 10 = .ok (.istore 4, 2) := by decide +kernel
theorem dX11_varintSize_12 : decode cX11_varintSize 12 = .ok (.lload_n 2, 1) := by decide +kernel
theorem dX11_varintSize_13 : decode cX11_varintSize 13 = .ok (.bipush 7, 2) := by decide +kernel
theorem dX11_varintSize_15 : decode cX11_varintSize 15 = .ok (.lushr, 1) := by decide +kernel
theorem dX11_varintSize_16 : decode cX11_varintSize 16 = .ok (.lconst 0, 1) := by decide +kernel
theorem dX11_varintSize_17 : decode cX11_varintSize 17 = .ok (.lcmp, 1) := by decide +kernel
theorem dX11_varintSize_18 : decode cX11_varintSize 18 = .ok (.ifCond .eq 14, 3) := by decide +kernel
theorem dX11_varintSize_21 : decode cX11_varintSize 21 = .ok (.lload_n 2, 1) := by decide +kernel
theorem dX11_varintSize_22 : decode cX11_varintSize 22 = .ok (.bipush 7, 2) := by decide +kernel
theorem dX11_varintSize_24 : decode cX11_varintSize 24 = .ok (.lushr, 1) := by decide +kernel
theorem dX11_varintSize_25 : decode cX11_varintSize 25 = .ok (.lstore_n 2, 1) := by decide +kernel
theorem dX11_varintSize_26 : decode cX11_varintSize 26 = .ok (.iinc 4 1, 3) := by decide +kernel
theorem dX11_varintSize_29 : decode cX11_varintSize 29 = .ok (.goto (-17), 3) := by decide +kernel
theorem dX11_varintSize_32 : decode cX11_varintSize 32 = .ok (.iload 4, 2) := by decide +kernel
theorem dX11_varintSize_34 : decode cX11_varintSize 34 = .ok (.ireturn, 1) := by decide +kernel
theorem dX11_read_0 : decode cX11_read 0 = .ok (.aload_n 1, 1) := by decide +kernel
theorem dX11_read_1 : decode cX11_read 1 = .ok (.aload_n 0, 1) := by decide +kernel
theorem dX11_read_2 : decode cX11_read 2 = .ok (.getfield 28, 3) := by decide +kernel
theorem dX11_read_5 : decode cX11_read 5 = .ok (.sipush 4096, 3) := by decide +kernel
theorem dX11_read_8 : decode cX11_read 8 = .ok (.iload_n 2, 1) := by decide +kernel
theorem dX11_read_9 : decode cX11_read 9 = .ok (.imul, 1) := by decide +kernel
theorem dX11_read_10 : decode cX11_read 10 = .ok (.aload_n 0, 1) := by decide +kernel
theorem dX11_read_11 : decode cX11_read 11 = .ok (.getfield 31, 3) := by decide +kernel
theorem dX11_read_14 : decode cX11_read 14 = .ok (.iload_n 2, 1) := by decide +kernel
theorem dX11_read_15 : decode cX11_read 15 = .ok (.iaload, 1) := by decide +kernel
theorem dX11_read_16 : decode cX11_read 16 = .ok (.invokevirtual 72, 3) := by decide +kernel
theorem dX11_read_19 : decode cX11_read 19 = .ok (.pop, 1) := by decide +kernel
theorem dX11_read_20 : decode cX11_read 20 = .ok (.return_, 1) := by decide +kernel
theorem dX11_schema_0 : decode cX11_schema 0 = .ok (.aload_n 0, 1) := by decide +kernel
theorem dX11_schema_1 : decode cX11_schema 1 = .ok (.iload_n 1, 1) := by decide +kernel
theorem dX11_schema_2 : decode cX11_schema 2 = .ok (.invokestatic 76, 3) := by decide +kernel
theorem dX11_schema_5 : decode cX11_schema 5 = .ok (.ifCond .ne 7, 3) := by decide +kernel
theorem dX11_schema_8 : decode cX11_schema 8 = .ok (.iconst 1, 1) := by decide +kernel
theorem dX11_schema_9 : decode cX11_schema 9 = .ok (.goto 4, 3) := by decide +kernel
theorem dX11_schema_12 : decode cX11_schema 12 = .ok (.iconst 0, 1) := by decide +kernel
theorem dX11_schema_13 : decode cX11_schema 13 = .ok (.iconst 0, 1) := by decide +kernel
theorem dX11_schema_14 : decode cX11_schema 14 = .ok (.invokevirtual 60, 3) := by decide +kernel
theorem dX11_schema_17 : decode cX11_schema 17 = .ok (.ifCond .eq 5, 3) := by decide +kernel
theorem dX11_schema_20 : decode cX11_schema 20 = .ok (.iconst 0, 1) := by decide +kernel
theorem dX11_schema_21 : decode cX11_schema 21 = .ok (.ireturn, 1) := by decide +kernel
theorem dX11_schema_22 : decode cX11_schema 22 = .ok (.aload_n 0, 1) := by decide +kernel
theorem dX11_schema_23 : decode cX11_schema 23 = .ok (.getfield 20, 3) := by decide +kernel
theorem dX11_schema_26 : decode cX11_schema 26 = .ok (.aload_n 0, 1) := by decide +kernel
theorem dX11_schema_27 : decode cX11_schema 27 = .ok (.getfield 7, 3) := by decide +kernel
theorem dX11_schema_30 : decode cX11_schema 30 = .ok (.iconst 0, 1) := by decide +kernel
theorem dX11_schema_31 : decode cX11_schema 31 = .ok (.aload_n 0, 1) := by decide +kernel
theorem dX11_schema_32 : decode cX11_schema 32 = .ok (.getfield 57, 3) := by decide +kernel
theorem dX11_schema_35 : decode cX11_schema 35 = .ok (.invokevirtual 72, 3) := by decide +kernel
theorem dX11_schema_38 : decode cX11_schema 38 = .ok (.istore_n 2, 1) := by decide +kernel
theorem dX11_schema_39 : decode cX11_schema 39 = .ok (.aload_n 0, 1) := by decide +kernel
theorem dX11_schema_40 : decode cX11_schema 40 = .ok (.iload_n 2, 1) := by decide +kernel
theorem dX11_schema_41 : decode cX11_schema 41 = .ok (.ifCond .le 13, 3) := by decide +kernel
theorem dX11_schema_44 : decode cX11_schema 44 = .ok (.aload_n 0, 1) := by decide +kernel
theorem dX11_schema_45 : decode cX11_schema 45 = .ok (.getfield 20, 3) := by decide +kernel
theorem dX11_schema_48 : decode cX11_schema 48 = .ok (.getfield 80, 3) := by decide +kernel
theorem dX11_schema_51 : decode cX11_schema 51 = .ok (.goto 4, 3) := by decide +kernel
theorem dX11_schema_54 : decode cX11_schema 54 = .ok (.iconst (-1), 1) := by decide +kernel
theorem dX11_schema_55 : decode cX11_schema 55 = .ok (.putfield 13, 3) := by decide +kernel
theorem dX11_schema_58 : decode cX11_schema 58 = .ok (.iload_n 2, 1) := by decide +kernel
theorem dX11_schema_59 : decode cX11_schema 59 = .ok (.ifCond .le 5, 3) := by decide +kernel
theorem dX11_schema_62 : decode cX11_schema 62 = .ok (.iload_n 2, 1) := by decide +kernel
theorem dX11_schema_63 : decode cX11_schema 63 = .ok (.ireturn, 1) := by decide +kernel
theorem dX11_schema_64 : decode cX11_schema 64 = .ok (.iconst 0, 1) := by decide +kernel
theorem dX11_schema_65 : decode cX11_schema 65 = .ok (.istore_n 3, 1) := by decide +kernel
theorem dX11_schema_66 : decode cX11_schema 66 = .ok (.iload_n 3, 1) := by decide +kernel
theorem dX11_schema_67 : decode cX11_schema 67 = .ok (.aload_n 0, 1) := by decide +kernel
theorem dX11_schema_68 : decode cX11_schema 68 = .ok (.getfield 57, 3) := by decide +kernel
theorem dX11_schema_71 : decode cX11_schema 71 = .ok (.if_icmp .ge 27, 3) := by decide +kernel
theorem dX11_schema_74 : decode cX11_schema 74 = .ok (.aload_n 0, 1) := by decide +kernel
theorem dX11_schema_75 : decode cX11_schema 75 = .ok (.getfield 28, 3) := by decide +kernel
theorem dX11_schema_78 : decode cX11_schema 78 = .ok (.sipush 4096, 3) := by decide +kernel
theorem dX11_schema_81 : decode cX11_schema 81 = .ok (.iload_n 1, 1) := by decide +kernel
theorem dX11_schema_82 : decode cX11_schema 82 = .ok (.imul, 1) := by decide +kernel
theorem dX11_schema_83 : decode cX11_schema 83 = .ok (.iload_n 3, 1) := by decide +kernel
theorem dX11_schema_84 : decode cX11_schema 84 = .ok (.iadd, 1) := by decide +kernel
theorem dX11_schema_85 : decode cX11_schema 85 = .ok (.aload_n 0, 1) := by decide +kernel
theorem dX11_schema_86 : decode cX11_schema 86 = .ok (.getfield 7, 3) := by decide +kernel
theorem dX11_schema_89 : decode cX11_schema 89 = .ok (.iload_n 3, 1) := by decide +kernel
theorem dX11_schema_90 : decode cX11_schema 90 = .ok (.baload, 1) := by decide +kernel
theorem dX11_schema_91 : decode cX11_schema 91 = .ok (.bastore, 1) := by decide +kernel
theorem dX11_schema_92 : decode cX11_schema 92 = .ok (.iinc 3 1, 3) := by decide +kernel
theorem dX11_schema_95 : decode cX11_schema 95 = .ok (.goto (-29), 3) := by decide +kernel
theorem dX11_schema_98 : decode cX11_schema 98 = .ok (.aload_n 0, 1) := by decide +kernel
theorem dX11_schema_99 : decode cX11_schema 99 = .ok (.getfield 31, 3) := by decide +kernel
theorem dX11_schema_102 : decode cX11_schema 102 = .ok (.iload_n 1, 1) := by decide +kernel
theorem dX11_schema_103 : decode cX11_schema 103 = .ok (.aload_n 0, 1) := by decide +kernel
theorem dX11_schema_104 : decode cX11_schema 104 = .ok (.getfield 57, 3) := by decide +kernel
theorem dX11_schema_107 : decode cX11_schema 107 = .ok (.iastore, 1) := by decide +kernel
theorem dX11_schema_108 : decode cX11_schema 108 = .ok (.aload_n 0, 1) := by decide +kernel
theorem dX11_schema_109 : decode cX11_schema 109 = .ok (.iconst 0, 1) := by decide +kernel
theorem dX11_schema_110 : decode cX11_schema 110 = .ok (.putfield 57, 3) := by decide +kernel
theorem dX11_schema_113 : decode cX11_schema 113 = .ok (.aload_n 0, 1) := by decide +kernel
theorem dX11_schema_114 : decode cX11_schema 114 = .ok (.getfield 38, 3) := by decide +kernel
theorem dX11_schema_117 : decode cX11_schema 117 = .ok (.iload_n 1, 1) := by decide +kernel
theorem dX11_schema_118 : decode cX11_schema 118 = .ok (.if_icmp .ne 18, 3) := by decide +kernel
theorem dX11_schema_121 : decode cX11_schema 121 = .ok (.aload_n 0, 1) := by decide +kernel
theorem dX11_schema_122 : decode cX11_schema 122 = .ok (.iconst (-1), 1) := by decide +kernel
theorem dX11_schema_123 : decode cX11_schema 123 = .ok (.putfield 38, 3) := by decide +kernel
theorem dX11_schema_126 : decode cX11_schema 126 = .ok (.aload_n 0, 1) := by decide +kernel
theorem dX11_schema_127 : decode cX11_schema 127 = .ok (.iconst 0, 1) := by decide +kernel
theorem dX11_schema_128 : decode cX11_schema 128 = .ok (.putfield 81, 3) := by decide +kernel
theorem dX11_schema_131 : decode cX11_schema 131 = .ok (.aload_n 0, 1) := by decide +kernel
theorem dX11_schema_132 : decode cX11_schema 132 = .ok (.iconst 0, 1) := by decide +kernel
theorem dX11_schema_133 : decode cX11_schema 133 = .ok (.putfield 84, 3) := by decide +kernel
theorem dX11_schema_136 : decode cX11_schema 136 = .ok (.iconst 0, 1) := by decide +kernel
theorem dX11_schema_137 : decode cX11_schema 137 = .ok (.ireturn, 1) := by decide +kernel
theorem dX11_failBytes_0 : decode cX11_failBytes 0 = .ok (.aload_n 0, 1) := by decide +kernel
theorem dX11_failBytes_1 : decode cX11_failBytes 1 = .ok (.iload_n 1, 1) := by decide +kernel
theorem dX11_failBytes_2 : decode cX11_failBytes 2 = .ok (.putfield 87, 3) := by decide +kernel
theorem dX11_failBytes_5 : decode cX11_failBytes 5 = .ok (.aload_n 0, 1) := by decide +kernel
theorem dX11_failBytes_6 : decode cX11_failBytes 6 = .ok (.iload_n 2, 1) := by decide +kernel
theorem dX11_failBytes_7 : decode cX11_failBytes 7 = .ok (.putfield 90, 3) := by decide +kernel
theorem dX11_failBytes_10 : decode cX11_failBytes 10 = .ok (.new 93, 3) := by decide +kernel
theorem dX11_failBytes_13 : decode cX11_failBytes 13 = .ok (.dup, 1) := by decide +kernel
theorem dX11_failBytes_14 : decode cX11_failBytes 14 = .ok (.ldc 95, 2) := by decide +kernel
theorem dX11_failBytes_16 : decode cX11_failBytes 16 = .ok (.invokespecial 96, 3) := by decide +kernel
theorem dX11_failBytes_19 : decode cX11_failBytes 19 = .ok (.athrow, 1) := by decide +kernel
theorem dX11_byteHere_0 : decode cX11_byteHere 0 = .ok (.aload_n 0, 1) := by decide +kernel
theorem dX11_byteHere_1 : decode cX11_byteHere 1 = .ok (.getfield 99, 3) := by decide +kernel
theorem dX11_byteHere_4 : decode cX11_byteHere 4 = .ok (.aload_n 0, 1) := by decide +kernel
theorem dX11_byteHere_5 : decode cX11_byteHere 5 = .ok (.getfield 57, 3) := by decide +kernel
theorem dX11_byteHere_8 : decode cX11_byteHere 8 = .ok (.if_icmp .lt 12, 3) := by decide +kernel
theorem dX11_byteHere_11 : decode cX11_byteHere 11 = .ok (.aload_n 0, 1) := by decide +kernel
theorem dX11_byteHere_12 : decode cX11_byteHere 12 = .ok (.iconst 1, 1) := by decide +kernel
theorem dX11_byteHere_13 : decode cX11_byteHere 13 = .ok (.aload_n 0, 1) := by decide +kernel
theorem dX11_byteHere_14 : decode cX11_byteHere 14 = .ok (.getfield 57, 3) := by decide +kernel
theorem dX11_byteHere_17 : decode cX11_byteHere 17 = .ok (.invokevirtual 102, 3) := by decide +kernel
theorem dX11_byteHere_20 : decode cX11_byteHere 20 = .ok (.aload_n 0, 1) := by decide +kernel
theorem dX11_byteHere_21 : decode cX11_byteHere 21 = .ok (.dup, 1) := by decide +kernel
theorem dX11_byteHere_22 : decode cX11_byteHere 22 = .ok (.getfield 99, 3) := by decide +kernel
theorem dX11_byteHere_25 : decode cX11_byteHere 25 = .ok (.iconst 1, 1) := by decide +kernel
theorem dX11_byteHere_26 : decode cX11_byteHere 26 = .ok (.iadd, 1) := by decide +kernel
theorem dX11_byteHere_27 : decode cX11_byteHere 27 = .ok (.putfield 99, 3) := by decide +kernel
theorem dX11_byteHere_30 : decode cX11_byteHere 30 = .ok (.aload_n 0, 1) := by decide +kernel
theorem dX11_byteHere_31 : decode cX11_byteHere 31 = .ok (.getfield 7, 3) := by decide +kernel
theorem dX11_byteHere_34 : decode cX11_byteHere 34 = .ok (.aload_n 0, 1) := by decide +kernel
theorem dX11_byteHere_35 : decode cX11_byteHere 35 = .ok (.getfield 99, 3) := by decide +kernel
theorem dX11_byteHere_38 : decode cX11_byteHere 38 = .ok (.iconst 1, 1) := by decide +kernel
theorem dX11_byteHere_39 : decode cX11_byteHere 39 = .ok (.isub, 1) := by decide +kernel
theorem dX11_byteHere_40 : decode cX11_byteHere 40 = .ok (.baload, 1) := by decide +kernel
theorem dX11_byteHere_41 : decode cX11_byteHere 41 = .ok (.sipush 255, 3) := by decide +kernel
theorem dX11_byteHere_44 : decode cX11_byteHere 44 = .ok (.iand, 1) := by decide +kernel
theorem dX11_byteHere_45 : decode cX11_byteHere 45 = .ok (.ireturn, 1) := by decide +kernel
theorem dX11_varint_0 : decode cX11_varint 0 = .ok (.aload_n 0, 1) := by decide +kernel
theorem dX11_varint_1 : decode cX11_varint 1 = .ok (.getfield 99, 3) := by decide +kernel
theorem dX11_varint_4 : decode cX11_varint 4 = .ok (.istore_n 1, 1) := by decide +kernel
theorem dX11_varint_5 : decode cX11_varint 5 = .ok (.lconst 0, 1) := by decide +kernel
theorem dX11_varint_6 : decode cX11_varint 6 = .ok (.lstore_n 2, 1) := by decide +kernel
theorem dX11_varint_7 : decode cX11_varint 7 = .ok (.iconst 0, 1) := by decide +kernel
theorem dX11_varint_8 : decode cX11_varint 8 = .ok (.istore 4, 2) := by decide +kernel
theorem dX11_varint_10 : decode cX11_varint 10 = .ok (.iload 4, 2) := by decide +kernel
theorem dX11_varint_12 : decode cX11_varint 12 = .ok (.bipush 10, 2) := by decide +kernel
theorem dX11_varint_14 : decode cX11_varint 14 = .ok (.if_icmp .ge 66, 3) := by decide +kernel
theorem dX11_varint_17 : decode cX11_varint 17 = .ok (.aload_n 0, 1) := by decide +kernel
theorem dX11_varint_18 : decode cX11_varint 18 = .ok (.invokevirtual 106, 3) := by decide +kernel
theorem dX11_varint_21 : decode cX11_varint 21 = .ok (.istore 5, 2) := by decide +kernel
theorem dX11_varint_23 : decode cX11_varint 23 = .ok (.iload 4, 2) := by decide +kernel
theorem dX11_varint_25 : decode cX11_varint 25 = .ok (.bipush 9, 2) := by decide +kernel
theorem dX11_varint_27 : decode cX11_varint 27 = .ok (.if_icmp .ne 15, 3) := by decide +kernel
theorem dX11_varint_30 : decode cX11_varint 30 = .ok (.iload 5, 2) := by decide +kernel
theorem dX11_varint_32 : decode cX11_varint 32 = .ok (.iconst 1, 1) := by decide +kernel
theorem dX11_varint_33 : decode cX11_varint 33 = .ok (.if_icmp .le 9, 3) := by decide +kernel
theorem dX11_varint_36 : decode cX11_varint 36 = .ok (.aload_n 0, 1) := by decide +kernel
theorem dX11_varint_37 : decode cX11_varint 37 = .ok (.iconst 2, 1) := by decide +kernel
theorem dX11_varint_38 : decode cX11_varint 38 = .ok (.iload_n 1, 1) := by decide +kernel
theorem dX11_varint_39 : decode cX11_varint 39 = .ok (.invokevirtual 102, 3) := by decide +kernel
theorem dX11_varint_42 : decode cX11_varint 42 = .ok (.lload_n 2, 1) := by decide +kernel
theorem dX11_varint_43 : decode cX11_varint 43 = .ok (.iload 5, 2) := by decide +kernel
theorem dX11_varint_45 : decode cX11_varint 45 = .ok (.bipush 127, 2) := by decide +kernel
theorem dX11_varint_47 : decode cX11_varint 47 = .ok (.iand, 1) := by decide +kernel
theorem dX11_varint_48 : decode cX11_varint 48 = .ok (.i2l, 1) := by decide +kernel
theorem dX11_varint_49 : decode cX11_varint 49 = .ok (.bipush 7, 2) := by decide +kernel
theorem dX11_varint_51 : decode cX11_varint 51 = .ok (.iload 4, 2) := by decide +kernel
theorem dX11_varint_53 : decode cX11_varint 53 = .ok (.imul, 1) := by decide +kernel
theorem dX11_varint_54 : decode cX11_varint 54 = .ok (.lshl, 1) := by decide +kernel
theorem dX11_varint_55 : decode cX11_varint 55 = .ok (.lor, 1) := by decide +kernel
theorem dX11_varint_56 : decode cX11_varint 56 = .ok (.lstore_n 2, 1) := by decide +kernel
theorem dX11_varint_57 : decode cX11_varint 57 = .ok (.iload 5, 2) := by decide +kernel
theorem dX11_varint_59 : decode cX11_varint 59 = .ok (.sipush 128, 3) := by decide +kernel
theorem dX11_varint_62 : decode cX11_varint 62 = .ok (.if_icmp .ge 12, 3) := by decide +kernel
theorem dX11_varint_65 : decode cX11_varint 65 = .ok (.lload_n 2, 1) := by decide +kernel
theorem dX11_varint_66 : decode cX11_varint 66 = .ok (.iconst 1, 1) := by decide +kernel
theorem dX11_varint_67 : decode cX11_varint 67 = .ok (.lushr, 1) := by decide +kernel
theorem dX11_varint_68 : decode cX11_varint 68 = .ok (.lload_n 2, 1) := by decide +kernel
theorem dX11_varint_69 : decode cX11_varint 69 = .ok (.lconst 1, 1) := by decide +kernel
theorem dX11_varint_70 : decode cX11_varint 70 = .ok (.land, 1) := by decide +kernel
theorem dX11_varint_71 : decode cX11_varint 71 = .ok (.lneg, 1) := by decide +kernel
theorem dX11_varint_72 : decode cX11_varint 72 = .ok (.lxor, 1) := by decide +kernel
theorem dX11_varint_73 : decode cX11_varint 73 = .ok (.lreturn, 1) := by decide +kernel
theorem dX11_varint_74 : decode cX11_varint 74 = .ok (.iinc 4 1, 3) := by decide +kernel
theorem dX11_varint_77 : decode cX11_varint 77 = .ok (.goto (-67), 3) := by decide +kernel
theorem dX11_varint_80 : decode cX11_varint 80 = .ok (.lconst 0, 1) := by decide +kernel
theorem dX11_varint_81 : decode cX11_varint 81 = .ok (.lreturn, 1) := by decide +kernel
theorem dX11_passBytes_0 : decode cX11_passBytes 0 = .ok (.lload_n 1, 1) := by decide +kernel
theorem dX11_passBytes_1 : decode cX11_passBytes 1 = .ok (.aload_n 0, 1) := by decide +kernel
theorem dX11_passBytes_2 : decode cX11_passBytes 2 = .ok (.getfield 57, 3) := by decide +kernel
theorem dX11_passBytes_5 : decode cX11_passBytes 5 = .ok (.aload_n 0, 1) := by decide +kernel
theorem dX11_passBytes_6 : decode cX11_passBytes 6 = .ok (.getfield 99, 3) := by decide +kernel
theorem dX11_passBytes_9 : decode cX11_passBytes 9 = .ok (.isub, 1) := by decide +kernel
theorem dX11_passBytes_10 : decode cX11_passBytes 10 = .ok (.i2l, 1) := by decide +kernel
theorem dX11_passBytes_11 : decode cX11_passBytes 11 = .ok (.lcmp, 1) := by decide +kernel
theorem dX11_passBytes_12 : decode cX11_passBytes 12 = .ok (.ifCond .le 12, 3) := by decide +kernel
theorem dX11_passBytes_15 : decode cX11_passBytes 15 = .ok (.aload_n 0, 1) := by decide +kernel
theorem dX11_passBytes_16 : decode cX11_passBytes 16 = .ok (.iconst 1, 1) := by decide +kernel
theorem dX11_passBytes_17 : decode cX11_passBytes 17 = .ok (.aload_n 0, 1) := by decide +kernel
theorem dX11_passBytes_18 : decode cX11_passBytes 18 = .ok (.getfield 57, 3) := by decide +kernel
theorem dX11_passBytes_21 : decode cX11_passBytes 21 = .ok (.invokevirtual 102, 3) := by decide +kernel
theorem dX11_passBytes_24 : decode cX11_passBytes 24 = .ok (.aload_n 0, 1) := by decide +kernel
theorem dX11_passBytes_25 : decode cX11_passBytes 25 = .ok (.aload_n 0, 1) := by decide +kernel
theorem dX11_passBytes_26 : decode cX11_passBytes 26 = .ok (.getfield 99, 3) := by decide +kernel
theorem dX11_passBytes_29 : decode cX11_passBytes 29 = .ok (.lload_n 1, 1) := by decide +kernel
theorem dX11_passBytes_30 : decode cX11_passBytes 30 = .ok (.l2i, 1) := by decide +kernel
theorem dX11_passBytes_31 : decode cX11_passBytes 31 = .ok (.iadd, 1) := by decide +kernel
theorem dX11_passBytes_32 : decode cX11_passBytes 32 = .ok (.putfield 99, 3) := by decide +kernel
theorem dX11_passBytes_35 : decode cX11_passBytes 35 = .ok (.return_, 1) := by decide +kernel
theorem dX11_putVarint_0 : decode cX11_putVarint 0 = .ok (.lload_n 1, 1) := by decide +kernel
theorem dX11_putVarint_1 : decode cX11_putVarint 1 = .ok (.iconst 1, 1) := by decide +kernel
theorem dX11_putVarint_2 : decode cX11_putVarint 2 = .ok (.lshl, 1) := by decide +kernel
theorem dX11_putVarint_3 : decode cX11_putVarint 3 = .ok (.lload_n 1, 1) := by decide +kernel
theorem dX11_putVarint_4 : decode cX11_putVarint 4 = .ok (.bipush 63, 2) := by decide +kernel
theorem dX11_putVarint_6 : decode cX11_putVarint 6 = .ok (.lshr, 1) := by decide +kernel
theorem dX11_putVarint_7 : decode cX11_putVarint 7 = .ok (.lxor, 1) := by decide +kernel
theorem dX11_putVarint_8 : decode cX11_putVarint 8 = .ok (.lstore_n 3, 1) := by decide +kernel
theorem dX11_putVarint_9 : decode cX11_putVarint 9 = .ok (.lload_n 3, 1) := by decide +kernel
theorem dX11_putVarint_10 : decode cX11_putVarint 10 = .ok (.bipush 7, 2) := by decide +kernel
theorem dX11_putVarint_12 : decode cX11_putVarint 12 = .ok (.lushr, 1) := by decide +kernel
theorem dX11_putVarint_13 : decode cX11_putVarint 13 = .ok (.lconst 0, 1) := by decide +kernel
theorem dX11_putVarint_14 : decode cX11_putVarint 14 = .ok (.lcmp, 1) := by decide +kernel
theorem dX11_putVarint_15 : decode cX11_putVarint 15 = .ok (.ifCond .eq 25, 3) := by decide +kernel
theorem dX11_putVarint_18 : decode cX11_putVarint 18 = .ok (.aload_n 0, 1) := by decide +kernel
theorem dX11_putVarint_19 : decode cX11_putVarint 19 = .ok (.lload_n 3, 1) := by decide +kernel
theorem dX11_putVarint_20 : decode cX11_putVarint 20 = .ok (.ldc2_w 110, 3) := by decide +kernel
theorem dX11_putVarint_23 : decode cX11_putVarint 23 = .ok (.land, 1) := by decide +kernel
theorem dX11_putVarint_24 : decode cX11_putVarint 24 = .ok (.l2i, 1) := by decide +kernel
theorem dX11_putVarint_25 : decode cX11_putVarint 25 = .ok (.sipush 128, 3) := by decide +kernel
theorem dX11_putVarint_28 : decode cX11_putVarint 28 = .ok (.ior, 1) := by decide +kernel
theorem dX11_putVarint_29 : decode cX11_putVarint 29 = .ok (.invokevirtual 112, 3) := by decide +kernel
theorem dX11_putVarint_32 : decode cX11_putVarint 32 = .ok (.lload_n 3, 1) := by decide +kernel
theorem dX11_putVarint_33 : decode cX11_putVarint 33 = .ok (.bipush 7, 2) := by decide +kernel
theorem dX11_putVarint_35 : decode cX11_putVarint 35 = .ok (.lushr, 1) := by decide +kernel
theorem dX11_putVarint_36 : decode cX11_putVarint 36 = .ok (.lstore_n 3, 1) := by decide +kernel
theorem dX11_putVarint_37 : decode cX11_putVarint 37 = .ok (.goto (-28), 3) := by decide +kernel
theorem dX11_putVarint_40 : decode cX11_putVarint 40 = .ok (.aload_n 0, 1) := by decide +kernel
theorem dX11_putVarint_41 : decode cX11_putVarint 41 = .ok (.lload_n 3, 1) := by decide +kernel
theorem dX11_putVarint_42 : decode cX11_putVarint 42 = .ok (.l2i, 1) := by decide +kernel
theorem dX11_putVarint_43 : decode cX11_putVarint 43 = .ok (.invokevirtual 112, 3) := by decide +kernel
theorem dX11_putVarint_46 : decode cX11_putVarint 46 = .ok (.return_, 1) := by decide +kernel
theorem dX11_putByte_0 : decode cX11_putByte 0 = .ok (.aload_n 0, 1) := by decide +kernel
theorem dX11_putByte_1 : decode cX11_putByte 1 = .ok (.getfield 115, 3) := by decide +kernel
theorem dX11_putByte_4 : decode cX11_putByte 4 = .ok (.sipush 4200, 3) := by decide +kernel
theorem dX11_putByte_7 : decode cX11_putByte 7 = .ok (.if_icmp .ge 14, 3) := by decide +kernel
theorem dX11_putByte_10 : decode cX11_putByte 10 = .ok (.aload_n 0, 1) := by decide +kernel
theorem dX11_putByte_11 : decode cX11_putByte 11 = .ok (.getfield 44, 3) := by decide +kernel
theorem dX11_putByte_14 : decode cX11_putByte 14 = .ok (.aload_n 0, 1) := by decide +kernel
theorem dX11_putByte_15 : decode cX11_putByte 15 = .ok (.getfield 115, 3) := by decide +kernel
theorem dX11_putByte_18 : decode cX11_putByte 18 = .ok (.iload_n 1, 1) := by decide +kernel
theorem dX11_putByte_19 : decode cX11_putByte 19 = .ok (.i2b, 1) := by decide +kernel
theorem dX11_putByte_20 : decode cX11_putByte 20 = .ok (.bastore, 1) := by decide +kernel
theorem dX11_putByte_21 : decode cX11_putByte 21 = .ok (.aload_n 0, 1) := by decide +kernel
theorem dX11_putByte_22 : decode cX11_putByte 22 = .ok (.dup, 1) := by decide +kernel
theorem dX11_putByte_23 : decode cX11_putByte 23 = .ok (.getfield 115, 3) := by decide +kernel
theorem dX11_putByte_26 : decode cX11_putByte 26 = .ok (.iconst 1, 1) := by decide +kernel
theorem dX11_putByte_27 : decode cX11_putByte 27 = .ok (.iadd, 1) := by decide +kernel
theorem dX11_putByte_28 : decode cX11_putByte 28 = .ok (.putfield 115, 3) := by decide +kernel
theorem dX11_putByte_31 : decode cX11_putByte 31 = .ok (.return_, 1) := by decide +kernel
theorem dX11_string_0 : decode cX11_string 0 = .ok (.aload_n 0, 1) := by decide +kernel
theorem dX11_string_1 : decode cX11_string 1 = .ok (.getfield 99, 3) := by decide +kernel
theorem dX11_string_4 : decode cX11_string 4 = .ok (.istore_n 2, 1) := by decide +kernel
theorem dX11_string_5 : decode cX11_string 5 = .ok (.aload_n 0, 1) := by decide +kernel
theorem dX11_string_6 : decode cX11_string 6 = .ok (.invokevirtual 118, 3) := by decide +kernel
theorem dX11_string_9 : decode cX11_string 9 = .ok (.lstore_n 3, 1) := by decide +kernel
theorem dX11_string_10 : decode cX11_string 10 = .ok (.lload_n 3, 1) := by decide +kernel
theorem dX11_string_11 : decode cX11_string 11 = .ok (.lconst 0, 1) := by decide +kernel
theorem dX11_string_12 : decode cX11_string 12 = .ok (.lcmp, 1) := by decide +kernel
theorem dX11_string_13 : decode cX11_string 13 = .ok (.ifCond .ge 10, 3) := by decide +kernel
theorem dX11_string_16 : decode cX11_string 16 = .ok (.aload_n 0, 1) := by decide +kernel
theorem dX11_string_17 : decode cX11_string 17 = .ok (.bipush 6, 2) := by decide +kernel
theorem dX11_string_19 : decode cX11_string 19 = .ok (.iload_n 2, 1) := by decide +kernel
theorem dX11_string_20 : decode cX11_string 20 = .ok (.invokevirtual 102, 3) := by decide +kernel
theorem dX11_string_23 : decode cX11_string 23 = .ok (.aload_n 0, 1) := by decide +kernel
theorem dX11_string_24 : decode cX11_string 24 = .ok (.getfield 99, 3) := by decide +kernel
theorem dX11_string_27 : decode cX11_string 27 = .ok (.istore 5, 2) := by decide +kernel
theorem dX11_string_29 : decode cX11_string 29 = .ok (.aload_n 0, 1) := by decide +kernel
theorem dX11_string_30 : decode cX11_string 30 = .ok (.lload_n 3, 1) := by decide +kernel
theorem dX11_string_31 : decode cX11_string 31 = .ok (.invokevirtual 122, 3) := by decide +kernel
theorem dX11_string_34 : decode cX11_string 34 = .ok (.iload_n 1, 1) := by decide +kernel
theorem dX11_string_35 : decode cX11_string 35 = .ok (.ifCond .eq 38, 3) := by decide +kernel
theorem dX11_string_38 : decode cX11_string 38 = .ok (.aload_n 0, 1) := by decide +kernel
theorem dX11_string_39 : decode cX11_string 39 = .ok (.lload_n 3, 1) := by decide +kernel
theorem dX11_string_40 : decode cX11_string 40 = .ok (.invokevirtual 126, 3) := by decide +kernel
theorem dX11_string_43 : decode cX11_string 43 = .ok (.iload 5, 2) := by decide +kernel
theorem dX11_string_45 : decode cX11_string 45 = .ok (.istore 6, 2) := by decide +kernel
theorem dX11_string_47 : decode cX11_string 47 = .ok (.iload 6, 2) := by decide +kernel
theorem dX11_string_49 : decode cX11_string 49 = .ok (.aload_n 0, 1) := by decide +kernel
theorem dX11_string_50 : decode cX11_string 50 = .ok (.getfield 99, 3) := by decide +kernel
theorem dX11_string_53 : decode cX11_string 53 = .ok (.if_icmp .ge 20, 3) := by decide +kernel
theorem dX11_string_56 : decode cX11_string 56 = .ok (.aload_n 0, 1) := by decide +kernel
theorem dX11_string_57 : decode cX11_string 57 = .ok (.aload_n 0, 1) := by decide +kernel
theorem dX11_string_58 : decode cX11_string 58 = .ok (.getfield 7, 3) := by decide +kernel
theorem dX11_string_61 : decode cX11_string 61 = .ok (.iload 6, 2) := by decide +kernel
theorem dX11_string_63 : decode cX11_string 63 = .ok (.baload, 1) := by decide +kernel
theorem dX11_string_64 : decode cX11_string 64 = .ok (.invokevirtual 112, 3) := by decide +kernel
theorem dX11_string_67 : decode cX11_string 67 = .ok (.iinc 6 1, 3) := by decide +kernel
theorem dX11_string_70 : decode cX11_string 70 = .ok (.goto (-23), 3) := by decide +kernel
theorem dX11_string_73 : decode cX11_string 73 = .ok (.return_, 1) := by decide +kernel
theorem dX11_datum_0 : decode cX11_datum 0 = .ok (.aload_n 0, 1) := by decide +kernel
theorem dX11_datum_1 : decode cX11_datum 1 = .ok (.getfield 99, 3) := by decide +kernel
theorem dX11_datum_4 : decode cX11_datum 4 = .ok (.istore 5, 2) := by decide +kernel
theorem dX11_datum_6 : decode cX11_datum 6 = .ok (.iload_n 3, 1) := by decide +kernel
theorem dX11_datum_7 : decode cX11_datum 7 = .ok (.bipush 31, 2) := by decide +kernel
theorem dX11_datum_9 : decode cX11_datum 9 = .ok (.if_icmp .le 11, 3) := by decide +kernel
theorem dX11_datum_12 : decode cX11_datum 12 = .ok (.aload_n 0, 1) := by decide +kernel
theorem dX11_datum_13 : decode cX11_datum 13 = .ok (.bipush 7, 2) := by decide +kernel
theorem dX11_datum_15 : decode cX11_datum 15 = .ok (.iload 5, 2) := by decide +kernel
theorem dX11_datum_17 : decode cX11_datum 17 = .ok (.invokevirtual 102, 3) := by decide +kernel
theorem dX11_datum_20 : decode cX11_datum 20 = .ok (.aload_n 0, 1) := by decide +kernel
theorem dX11_datum_21 : decode cX11_datum 21 = .ok (.getfield 129, 3) := by decide +kernel
theorem dX11_datum_24 : decode cX11_datum 24 = .ok (.sipush 4000, 3) := by decide +kernel
theorem dX11_datum_27 : decode cX11_datum 27 = .ok (.if_icmp .ne 11, 3) := by decide +kernel
theorem dX11_datum_30 : decode cX11_datum 30 = .ok (.aload_n 0, 1) := by decide +kernel
theorem dX11_datum_31 : decode cX11_datum 31 = .ok (.bipush 8, 2) := by decide +kernel
theorem dX11_datum_33 : decode cX11_datum 33 = .ok (.iload 5, 2) := by decide +kernel
theorem dX11_datum_35 : decode cX11_datum 35 = .ok (.invokevirtual 102, 3) := by decide +kernel
theorem dX11_datum_38 : decode cX11_datum 38 = .ok (.aload_n 0, 1) := by decide +kernel
theorem dX11_datum_39 : decode cX11_datum 39 = .ok (.dup, 1) := by decide +kernel
theorem dX11_datum_40 : decode cX11_datum 40 = .ok (.getfield 129, 3) := by decide +kernel
theorem dX11_datum_43 : decode cX11_datum 43 = .ok (.iconst 1, 1) := by decide +kernel
theorem dX11_datum_44 : decode cX11_datum 44 = .ok (.iadd, 1) := by decide +kernel
theorem dX11_datum_45 : decode cX11_datum 45 = .ok (.putfield 129, 3) := by decide +kernel
theorem dX11_datum_48 : decode cX11_datum 48 = .ok (.aload_n 1, 1) := by decide +kernel
theorem dX11_datum_49 : decode cX11_datum 49 = .ok (.getfield 132, 3) := by decide +kernel
theorem dX11_datum_52 : decode cX11_datum 52 = .ok (.iload_n 2, 1) := by decide +kernel
theorem dX11_datum_53 : decode cX11_datum 53 = .ok (.iaload, 1) := by decide +kernel
theorem dX11_datum_54 : decode cX11_datum 54 = .ok (.tableswitch 359 0 11 #[62, 65, 95, 95, 142, 142, 359, 359, 244, 151, 197, 314], 62) := by decide +kernel
theorem dX11_datum_116 : decode cX11_datum 116 = .ok (.goto 306, 3) := by decide +kernel
theorem dX11_datum_119 : decode cX11_datum 119 = .ok (.aload_n 0, 1) := by decide +kernel
theorem dX11_datum_120 : decode cX11_datum 120 = .ok (.invokevirtual 106, 3) := by decide +kernel
theorem dX11_datum_123 : decode cX11_datum 123 = .ok (.istore 6, 2) := by decide +kernel
theorem dX11_datum_125 : decode cX11_datum 125 = .ok (.iload 6, 2) := by decide +kernel
theorem dX11_datum_127 : decode cX11_datum 127 = .ok (.iconst 1, 1) := by decide +kernel
theorem dX11_datum_128 : decode cX11_datum 128 = .ok (.if_icmp .le 10, 3) := by decide +kernel
theorem dX11_datum_131 : decode cX11_datum 131 = .ok (.aload_n 0, 1) := by decide +kernel
theorem dX11_datum_132 : decode cX11_datum 132 = .ok (.iconst 3, 1) := by decide +kernel
theorem dX11_datum_133 : decode cX11_datum 133 = .ok (.iload 5, 2) := by decide +kernel
theorem dX11_datum_135 : decode cX11_datum 135 = .ok (.invokevirtual 102, 3) := by decide +kernel
theorem dX11_datum_138 : decode cX11_datum 138 = .ok (.aload_n 0, 1) := by decide +kernel
theorem dX11_datum_139 : decode cX11_datum 139 = .ok (.iload 6, 2) := by decide +kernel
theorem dX11_datum_141 : decode cX11_datum 141 = .ok (.iload 4, 2) := by decide +kernel
theorem dX11_datum_143 : decode cX11_datum 143 = .ok (.invokevirtual 135, 3) := by decide +kernel
theorem dX11_datum_146 : decode cX11_datum 146 = .ok (.goto 276, 3) := by decide +kernel
theorem dX11_datum_149 : decode cX11_datum 149 = .ok (.aload_n 0, 1) := by decide +kernel
theorem dX11_datum_150 : decode cX11_datum 150 = .ok (.invokevirtual 118, 3) := by decide +kernel
theorem dX11_datum_153 : decode cX11_datum 153 = .ok (.lstore 7, 2) := by decide +kernel
theorem dX11_datum_155 : decode cX11_datum 155 = .ok (.aload_n 1, 1) := by decide +kernel
theorem dX11_datum_156 : decode cX11_datum 156 = .ok (.getfield 132, 3) := by decide +kernel
theorem dX11_datum_159 : decode cX11_datum 159 = .ok (.iload_n 2, 1) := by decide +kernel
theorem dX11_datum_160 : decode cX11_datum 160 = .ok (.iaload, 1) := by decide +kernel
theorem dX11_datum_161 : decode cX11_datum 161 = .ok (.iconst 2, 1) := by decide +kernel
theorem dX11_datum_162 : decode cX11_datum 162 = .ok (.if_icmp .ne 20, 3) := by decide +kernel
theorem dX11_datum_165 : decode cX11_datum 165 = .ok (.lload 7, 2) := by decide +kernel
theorem dX11_datum_167 : decode cX11_datum 167 = .ok (.lload 7, 2) := by decide +kernel
theorem dX11_datum_169 : decode cX11_datum 169 = .ok (.l2i, 1) := by decide +kernel
theorem dX11_datum_170 : decode cX11_datum 170 = .ok (.i2l, 1) := by decide +kernel
theorem dX11_datum_171 : decode cX11_datum 171 = .ok (.lcmp, 1) := by decide +kernel
theorem dX11_datum_172 : decode cX11_datum 172 = .ok (.ifCond .eq 10, 3) := by decide +kernel
theorem dX11_datum_175 : decode cX11_datum 175 = .ok (.aload_n 0, 1) := by decide +kernel
theorem dX11_datum_176 : decode cX11_datum 176 = .ok (.iconst 2, 1) := by decide +kernel
theorem dX11_datum_177 : decode cX11_datum 177 = .ok (.iload 5, 2) := by decide +kernel
theorem dX11_datum_179 : decode cX11_datum 179 = .ok (.invokevirtual 102, 3) := by decide +kernel
theorem dX11_datum_182 : decode cX11_datum 182 = .ok (.iload 4, 2) := by decide +kernel
theorem dX11_datum_184 : decode cX11_datum 184 = .ok (.ifCond .eq 238, 3) := by decide +kernel
theorem dX11_datum_187 : decode cX11_datum 187 = .ok (.aload_n 0, 1) := by decide +kernel
theorem dX11_datum_188 : decode cX11_datum 188 = .ok (.lload 7, 2) := by decide +kernel
theorem dX11_datum_190 : decode cX11_datum 190 = .ok (.invokevirtual 126, 3) := by decide +kernel
theorem dX11_datum_193 : decode cX11_datum 193 = .ok (.goto 229, 3) := by decide +kernel
theorem dX11_datum_196 : decode cX11_datum 196 = .ok (.aload_n 0, 1) := by decide +kernel
theorem dX11_datum_197 : decode cX11_datum 197 = .ok (.iload 4, 2) := by decide +kernel
theorem dX11_datum_199 : decode cX11_datum 199 = .ok (.invokevirtual 139, 3) := by decide +kernel
theorem dX11_datum_202 : decode cX11_datum 202 = .ok (.goto 220, 3) := by decide +kernel
theorem dX11_datum_205 : decode cX11_datum 205 = .ok (.aload_n 0, 1) := by decide +kernel
theorem dX11_datum_206 : decode cX11_datum 206 = .ok (.aload_n 1, 1) := by decide +kernel
theorem dX11_datum_207 : decode cX11_datum 207 = .ok (.getfield 143, 3) := by decide +kernel
theorem dX11_datum_210 : decode cX11_datum 210 = .ok (.iload_n 2, 1) := by decide +kernel
theorem dX11_datum_211 : decode cX11_datum 211 = .ok (.iaload, 1) := by decide +kernel
theorem dX11_datum_212 : decode cX11_datum 212 = .ok (.i2l, 1) := by decide +kernel
theorem dX11_datum_213 : decode cX11_datum 213 = .ok (.invokevirtual 122, 3) := by decide +kernel
theorem dX11_datum_216 : decode cX11_datum 216 = .ok (.iload 5, 2) := by decide +kernel
theorem dX11_datum_218 : decode cX11_datum 218 = .ok (.istore 9, 2) := by decide +kernel
theorem dX11_datum_220 : decode cX11_datum 220 = .ok (.iload 9, 2) := by decide +kernel
theorem dX11_datum_222 : decode cX11_datum 222 = .ok (.aload_n 0, 1) := by decide +kernel
theorem dX11_datum_223 : decode cX11_datum 223 = .ok (.getfield 99, 3) := by decide +kernel
theorem dX11_datum_226 : decode cX11_datum 226 = .ok (.if_icmp .ge 22, 3) := by decide +kernel
theorem dX11_datum_229 : decode cX11_datum 229 = .ok (.aload_n 0, 1) := by decide +kernel
theorem dX11_datum_230 : decode cX11_datum 230 = .ok (.aload_n 0, 1) := by decide +kernel
theorem dX11_datum_231 : decode cX11_datum 231 = .ok (.getfield 7, 3) := by decide +kernel
theorem dX11_datum_234 : decode cX11_datum 234 = .ok (.iload 9, 2) := by decide +kernel
theorem dX11_datum_236 : decode cX11_datum 236 = .ok (.baload, 1) := by decide +kernel
theorem dX11_datum_237 : decode cX11_datum 237 = .ok (.iload 4, 2) := by decide +kernel
theorem dX11_datum_239 : decode cX11_datum 239 = .ok (.invokevirtual 135, 3) := by decide +kernel
theorem dX11_datum_242 : decode cX11_datum 242 = .ok (.iinc 9 1, 3) := by decide +kernel
theorem dX11_datum_245 : decode cX11_datum 245 = .ok (.goto (-25), 3) := by decide +kernel
theorem dX11_datum_248 : decode cX11_datum 248 = .ok (.goto 174, 3) := by decide +kernel
theorem dX11_datum_251 : decode cX11_datum 251 = .ok (.aload_n 0, 1) := by decide +kernel
theorem dX11_datum_252 : decode cX11_datum 252 = .ok (.invokevirtual 118, 3) := by decide +kernel
theorem dX11_datum_255 : decode cX11_datum 255 = .ok (.lstore 9, 2) := by decide +kernel
theorem dX11_datum_257 : decode cX11_datum 257 = .ok (.lload 9, 2) := by decide +kernel
theorem dX11_datum_259 : decode cX11_datum 259 = .ok (.lconst 0, 1) := by decide +kernel
theorem dX11_datum_260 : decode cX11_datum 260 = .ok (.lcmp, 1) := by decide +kernel
theorem dX11_datum_261 : decode cX11_datum 261 = .ok (.ifCond .lt 16, 3) := by decide +kernel
theorem dX11_datum_264 : decode cX11_datum 264 = .ok (.lload 9, 2) := by decide +kernel
theorem dX11_datum_266 : decode cX11_datum 266 = .ok (.aload_n 1, 1) := by decide +kernel
theorem dX11_datum_267 : decode cX11_datum 267 = .ok (.getfield 146, 3) := by decide +kernel
theorem dX11_datum_270 : decode cX11_datum 270 = .ok (.iload_n 2, 1) := by decide +kernel
theorem dX11_datum_271 : decode cX11_datum 271 = .ok (.iaload, 1) := by decide +kernel
theorem dX11_datum_272 : decode cX11_datum 272 = .ok (.i2l, 1) := by decide +kernel
theorem dX11_datum_273 : decode cX11_datum 273 = .ok (.lcmp, 1) := by decide +kernel
theorem dX11_datum_274 : decode cX11_datum 274 = .ok (.ifCond .lt 10, 3) := by decide +kernel
theorem dX11_datum_277 : decode cX11_datum 277 = .ok (.aload_n 0, 1) := by decide +kernel
theorem dX11_datum_278 : decode cX11_datum 278 = .ok (.iconst 5, 1) := by decide +kernel
theorem dX11_datum_279 : decode cX11_datum 279 = .ok (.iload 5, 2) := by decide +kernel
theorem dX11_datum_281 : decode cX11_datum 281 = .ok (.invokevirtual 102, 3) := by decide +kernel
theorem dX11_datum_284 : decode cX11_datum 284 = .ok (.iload 4, 2) := by decide +kernel
theorem dX11_datum_286 : decode cX11_datum 286 = .ok (.ifCond .eq 136, 3) := by decide +kernel
theorem dX11_datum_289 : decode cX11_datum 289 = .ok (.aload_n 0, 1) := by decide +kernel
theorem dX11_datum_290 : decode cX11_datum 290 = .ok (.lload 9, 2) := by decide +kernel
theorem dX11_datum_292 : decode cX11_datum 292 = .ok (.invokevirtual 126, 3) := by decide +kernel
theorem dX11_datum_295 : decode cX11_datum 295 = .ok (.goto 127, 3) := by decide +kernel
theorem dX11_datum_298 : decode cX11_datum 298 = .ok (.aload_n 0, 1) := by decide +kernel
theorem dX11_datum_299 : decode cX11_datum 299 = .ok (.invokevirtual 118, 3) := by decide +kernel
theorem dX11_datum_302 : decode cX11_datum 302 = .ok (.lstore 11, 2) := by decide +kernel
theorem dX11_datum_304 : decode cX11_datum 304 = .ok (.lload 11, 2) := by decide +kernel
theorem dX11_datum_306 : decode cX11_datum 306 = .ok (.lconst 0, 1) := by decide +kernel
theorem dX11_datum_307 : decode cX11_datum 307 = .ok (.lcmp, 1) := by decide +kernel
theorem dX11_datum_308 : decode cX11_datum 308 = .ok (.ifCond .lt 16, 3) := by decide +kernel
theorem dX11_datum_311 : decode cX11_datum 311 = .ok (.lload 11, 2) := by decide +kernel
theorem dX11_datum_313 : decode cX11_datum 313 = .ok (.aload_n 1, 1) := by decide +kernel
theorem dX11_datum_314 : decode cX11_datum 314 = .ok (.getfield 146, 3) := by decide +kernel
theorem dX11_datum_317 : decode cX11_datum 317 = .ok (.iload_n 2, 1) := by decide +kernel
theorem dX11_datum_318 : decode cX11_datum 318 = .ok (.iaload, 1) := by decide +kernel
theorem dX11_datum_319 : decode cX11_datum 319 = .ok (.i2l, 1) := by decide +kernel
theorem dX11_datum_320 : decode cX11_datum 320 = .ok (.lcmp, 1) := by decide +kernel
theorem dX11_datum_321 : decode cX11_datum 321 = .ok (.ifCond .lt 10, 3) := by decide +kernel
theorem dX11_datum_324 : decode cX11_datum 324 = .ok (.aload_n 0, 1) := by decide +kernel
theorem dX11_datum_325 : decode cX11_datum 325 = .ok (.iconst 4, 1) := by decide +kernel
theorem dX11_datum_326 : decode cX11_datum 326 = .ok (.iload 5, 2) := by decide +kernel
theorem dX11_datum_328 : decode cX11_datum 328 = .ok (.invokevirtual 102, 3) := by decide +kernel
theorem dX11_datum_331 : decode cX11_datum 331 = .ok (.iload 4, 2) := by decide +kernel
theorem dX11_datum_333 : decode cX11_datum 333 = .ok (.ifCond .eq 9, 3) := by decide +kernel
theorem dX11_datum_336 : decode cX11_datum 336 = .ok (.aload_n 0, 1) := by decide +kernel
theorem dX11_datum_337 : decode cX11_datum 337 = .ok (.lload 11, 2) := by decide +kernel
theorem dX11_datum_339 : decode cX11_datum 339 = .ok (.invokevirtual 126, 3) := by decide +kernel
theorem dX11_datum_342 : decode cX11_datum 342 = .ok (.aload_n 0, 1) := by decide +kernel
theorem dX11_datum_343 : decode cX11_datum 343 = .ok (.aload_n 1, 1) := by decide +kernel
theorem dX11_datum_344 : decode cX11_datum 344 = .ok (.aload_n 1, 1) := by decide +kernel
theorem dX11_datum_345 : decode cX11_datum 345 = .ok (.getfield 149, 3) := by decide +kernel
theorem dX11_datum_348 : decode cX11_datum 348 = .ok (.aload_n 1, 1) := by decide +kernel
theorem dX11_datum_349 : decode cX11_datum 349 = .ok (.iload_n 2, 1) := by decide +kernel
theorem dX11_datum_350 : decode cX11_datum 350 = .ok (.lload 11, 2) := by decide +kernel
theorem dX11_datum_352 : decode cX11_datum 352 = .ok (.l2i, 1) := by decide +kernel
theorem dX11_datum_353 : decode cX11_datum 353 = .ok (.invokevirtual 152, 3) := by decide +kernel
theorem dX11_datum_356 : decode cX11_datum 356 = .ok (.iaload, 1) := by decide +kernel
theorem dX11_datum_357 : decode cX11_datum 357 = .ok (.iload_n 3, 1) := by decide +kernel
theorem dX11_datum_358 : decode cX11_datum 358 = .ok (.iconst 1, 1) := by decide +kernel
theorem dX11_datum_359 : decode cX11_datum 359 = .ok (.iadd, 1) := by decide +kernel
theorem dX11_datum_360 : decode cX11_datum 360 = .ok (.iload 4, 2) := by decide +kernel
theorem dX11_datum_362 : decode cX11_datum 362 = .ok (.invokevirtual 156, 3) := by decide +kernel
theorem dX11_datum_365 : decode cX11_datum 365 = .ok (.goto 57, 3) := by decide +kernel
theorem dX11_datum_368 : decode cX11_datum 368 = .ok (.aload_n 1, 1) := by decide +kernel
theorem dX11_datum_369 : decode cX11_datum 369 = .ok (.getfield 160, 3) := by decide +kernel
theorem dX11_datum_372 : decode cX11_datum 372 = .ok (.iload_n 2, 1) := by decide +kernel
theorem dX11_datum_373 : decode cX11_datum 373 = .ok (.iaload, 1) := by decide +kernel
theorem dX11_datum_374 : decode cX11_datum 374 = .ok (.istore 13, 2) := by decide +kernel
theorem dX11_datum_376 : decode cX11_datum 376 = .ok (.iload 13, 2) := by decide +kernel
theorem dX11_datum_378 : decode cX11_datum 378 = .ok (.ifCond .lt 32, 3) := by decide +kernel
theorem dX11_datum_381 : decode cX11_datum 381 = .ok (.aload_n 0, 1) := by decide +kernel
theorem dX11_datum_382 : decode cX11_datum 382 = .ok (.aload_n 1, 1) := by decide +kernel
theorem dX11_datum_383 : decode cX11_datum 383 = .ok (.aload_n 1, 1) := by decide +kernel
theorem dX11_datum_384 : decode cX11_datum 384 = .ok (.getfield 149, 3) := by decide +kernel
theorem dX11_datum_387 : decode cX11_datum 387 = .ok (.iload 13, 2) := by decide +kernel
theorem dX11_datum_389 : decode cX11_datum 389 = .ok (.iaload, 1) := by decide +kernel
theorem dX11_datum_390 : decode cX11_datum 390 = .ok (.iload_n 3, 1) := by decide +kernel
theorem dX11_datum_391 : decode cX11_datum 391 = .ok (.iconst 1, 1) := by decide +kernel
theorem dX11_datum_392 : decode cX11_datum 392 = .ok (.iadd, 1) := by decide +kernel
theorem dX11_datum_393 : decode cX11_datum 393 = .ok (.iload 4, 2) := by decide +kernel
theorem dX11_datum_395 : decode cX11_datum 395 = .ok (.invokevirtual 156, 3) := by decide +kernel
theorem dX11_datum_398 : decode cX11_datum 398 = .ok (.aload_n 1, 1) := by decide +kernel
theorem dX11_datum_399 : decode cX11_datum 399 = .ok (.getfield 163, 3) := by decide +kernel
theorem dX11_datum_402 : decode cX11_datum 402 = .ok (.iload 13, 2) := by decide +kernel
theorem dX11_datum_404 : decode cX11_datum 404 = .ok (.iaload, 1) := by decide +kernel
theorem dX11_datum_405 : decode cX11_datum 405 = .ok (.istore 13, 2) := by decide +kernel
theorem dX11_datum_407 : decode cX11_datum 407 = .ok (.goto (-31), 3) := by decide +kernel
theorem dX11_datum_410 : decode cX11_datum 410 = .ok (.goto 12, 3) := by decide +kernel
theorem dX11_datum_413 : decode cX11_datum 413 = .ok (.aload_n 0, 1) := by decide +kernel
theorem dX11_datum_414 : decode cX11_datum 414 = .ok (.aload_n 1, 1) := by decide +kernel
theorem dX11_datum_415 : decode cX11_datum 415 = .ok (.iload_n 2, 1) := by decide +kernel
theorem dX11_datum_416 : decode cX11_datum 416 = .ok (.iload_n 3, 1) := by decide +kernel
theorem dX11_datum_417 : decode cX11_datum 417 = .ok (.iload 4, 2) := by decide +kernel
theorem dX11_datum_419 : decode cX11_datum 419 = .ok (.invokevirtual 166, 3) := by decide +kernel
theorem dX11_datum_422 : decode cX11_datum 422 = .ok (.return_, 1) := by decide +kernel
theorem dX11_put_0 : decode cX11_put 0 = .ok (.iload_n 2, 1) := by decide +kernel
theorem dX11_put_1 : decode cX11_put 1 = .ok (.ifCond .eq 8, 3) := by decide +kernel
theorem dX11_put_4 : decode cX11_put 4 = .ok (.aload_n 0, 1) := by decide +kernel
theorem dX11_put_5 : decode cX11_put 5 = .ok (.iload_n 1, 1) := by decide +kernel
theorem dX11_put_6 : decode cX11_put 6 = .ok (.invokevirtual 112, 3) := by decide +kernel
theorem dX11_put_9 : decode cX11_put 9 = .ok (.return_, 1) := by decide +kernel
theorem dX11_blocks_0 : decode cX11_blocks 0 = .ok (.aload_n 0, 1) := by decide +kernel
theorem dX11_blocks_1 : decode cX11_blocks 1 = .ok (.getfield 115, 3) := by decide +kernel
theorem dX11_blocks_4 : decode cX11_blocks 4 = .ok (.istore 5, 2) := by decide +kernel
theorem dX11_blocks_6 : decode cX11_blocks 6 = .ok (.iconst 0, 1) := by decide +kernel
theorem dX11_blocks_7 : decode cX11_blocks 7 = .ok (.istore 6, 2) := by decide +kernel
theorem dX11_blocks_9 : decode cX11_blocks 9 = .ok (.iconst 1, 1) := by decide +kernel
theorem dX11_blocks_10 : decode cX11_blocks 10 = .ok (.istore 7, 2) := by decide +kernel
theorem dX11_blocks_12 : decode cX11_blocks 12 = .ok (.iload 7, 2) := by decide +kernel
theorem dX11_blocks_14 : decode cX11_blocks 14 = .ok (.ifCond .eq 224, 3) := by decide +kernel
theorem dX11_blocks_17 : decode cX11_blocks 17 = .ok (.aload_n 0, 1) := by decide +kernel
theorem dX11_blocks_18 : decode cX11_blocks 18 = .ok (.getfield 99, 3) := by decide +kernel
theorem dX11_blocks_21 : decode cX11_blocks 21 = .ok (.istore 8, 2) := by decide +kernel
theorem dX11_blocks_23 : decode cX11_blocks 23 = .ok (.aload_n 0, 1) := by decide +kernel
theorem dX11_blocks_24 : decode cX11_blocks 24 = .ok (.invokevirtual 118, 3) := by decide +kernel
theorem dX11_blocks_27 : decode cX11_blocks 27 = .ok (.lstore 9, 2) := by decide +kernel
theorem dX11_blocks_29 : decode cX11_blocks 29 = .ok (.lload 9, 2) := by decide +kernel
theorem dX11_blocks_31 : decode cX11_blocks 31 = .ok (.lconst 0, 1) := by decide +kernel
theorem dX11_blocks_32 : decode cX11_blocks 32 = .ok (.lcmp, 1) := by decide +kernel
theorem dX11_blocks_33 : decode cX11_blocks 33 = .ok (.ifCond .eq 7, 3) := by decide +kernel
theorem dX11_blocks_36 : decode cX11_blocks 36 = .ok (.iconst 1, 1) := by decide +kernel
theorem dX11_blocks_37 : decode cX11_blocks 37 = .ok (.goto 4, 3) := by decide +kernel
theorem dX11_blocks_40 : decode cX11_blocks 40 = .ok (.iconst 0, 1) := by decide +kernel
theorem dX11_blocks_41 : decode cX11_blocks 41 = .ok (.istore 7, 2) := by decide +kernel
theorem dX11_blocks_43 : decode cX11_blocks 43 = .ok (.iload 7, 2) := by decide +kernel
theorem dX11_blocks_45 : decode cX11_blocks 45 = .ok (.ifCond .eq 190, 3) := by decide +kernel
theorem dX11_blocks_48 : decode cX11_blocks 48 = .ok (.lload 9, 2) := by decide +kernel
theorem dX11_blocks_50 : decode cX11_blocks 50 = .ok (.ldc2_w 171, 3) := by decide +kernel
theorem dX11_blocks_53 : decode cX11_blocks 53 = .ok (.lcmp, 1) := by decide +kernel
theorem dX11_blocks_54 : decode cX11_blocks 54 = .ok (.ifCond .eq 31, 3) := by decide +kernel
theorem dX11_blocks_57 : decode cX11_blocks 57 = .ok (.lload 9, 2) := by decide +kernel
theorem dX11_blocks_59 : decode cX11_blocks 59 = .ok (.lconst 0, 1) := by decide +kernel
theorem dX11_blocks_60 : decode cX11_blocks 60 = .ok (.lcmp, 1) := by decide +kernel
theorem dX11_blocks_61 : decode cX11_blocks 61 = .ok (.ifCond .ge 9, 3) := by decide +kernel
theorem dX11_blocks_64 : decode cX11_blocks 64 = .ok (.lload 9, 2) := by decide +kernel
theorem dX11_blocks_66 : decode cX11_blocks 66 = .ok (.lneg, 1) := by decide +kernel
theorem dX11_blocks_67 : decode cX11_blocks 67 = .ok (.goto 5, 3) := by decide +kernel
theorem dX11_blocks_70 : decode cX11_blocks 70 = .ok (.lload 9, 2) := by decide +kernel
theorem dX11_blocks_72 : decode cX11_blocks 72 = .ok (.ldc2_w 173, 3) := by decide +kernel
theorem dX11_blocks_75 : decode cX11_blocks 75 = .ok (.aload_n 0, 1) := by decide +kernel
theorem dX11_blocks_76 : decode cX11_blocks 76 = .ok (.getfield 175, 3) := by decide +kernel
theorem dX11_blocks_79 : decode cX11_blocks 79 = .ok (.i2l, 1) := by decide +kernel
theorem dX11_blocks_80 : decode cX11_blocks 80 = .ok (.lsub, 1) := by decide +kernel
theorem dX11_blocks_81 : decode cX11_blocks 81 = .ok (.lcmp, 1) := by decide +kernel
theorem dX11_blocks_82 : decode cX11_blocks 82 = .ok (.ifCond .le 7, 3) := by decide +kernel
theorem dX11_blocks_85 : decode cX11_blocks 85 = .ok (.iconst 1, 1) := by decide +kernel
theorem dX11_blocks_86 : decode cX11_blocks 86 = .ok (.goto 4, 3) := by decide +kernel
theorem dX11_blocks_89 : decode cX11_blocks 89 = .ok (.iconst 0, 1) := by decide +kernel
theorem dX11_blocks_90 : decode cX11_blocks 90 = .ok (.istore 11, 2) := by decide +kernel
theorem dX11_blocks_92 : decode cX11_blocks 92 = .ok (.iload 11, 2) := by decide +kernel
theorem dX11_blocks_94 : decode cX11_blocks 94 = .ok (.ifCond .eq 11, 3) := by decide +kernel
theorem dX11_blocks_97 : decode cX11_blocks 97 = .ok (.aload_n 0, 1) := by decide +kernel
theorem dX11_blocks_98 : decode cX11_blocks 98 = .ok (.bipush 6, 2) := by decide +kernel
theorem dX11_blocks_100 : decode cX11_blocks 100 = .ok (.iload 8, 2) := by decide +kernel
theorem dX11_blocks_102 : decode cX11_blocks 102 = .ok (.invokevirtual 102, 3) := by decide +kernel
theorem dX11_blocks_105 : decode cX11_blocks 105 = .ok (.lload 9, 2) := by decide +kernel
theorem dX11_blocks_107 : decode cX11_blocks 107 = .ok (.lconst 0, 1) := by decide +kernel
theorem dX11_blocks_108 : decode cX11_blocks 108 = .ok (.lcmp, 1) := by decide +kernel
theorem dX11_blocks_109 : decode cX11_blocks 109 = .ok (.ifCond .ge 7, 3) := by decide +kernel
theorem dX11_blocks_112 : decode cX11_blocks 112 = .ok (.iconst 1, 1) := by decide +kernel
theorem dX11_blocks_113 : decode cX11_blocks 113 = .ok (.goto 4, 3) := by decide +kernel
theorem dX11_blocks_116 : decode cX11_blocks 116 = .ok (.iconst 0, 1) := by decide +kernel
theorem dX11_blocks_117 : decode cX11_blocks 117 = .ok (.istore 12, 2) := by decide +kernel
theorem dX11_blocks_119 : decode cX11_blocks 119 = .ok (.aload_n 0, 1) := by decide +kernel
theorem dX11_blocks_120 : decode cX11_blocks 120 = .ok (.getfield 99, 3) := by decide +kernel
theorem dX11_blocks_123 : decode cX11_blocks 123 = .ok (.istore 13, 2) := by decide +kernel
theorem dX11_blocks_125 : decode cX11_blocks 125 = .ok (.iload 12, 2) := by decide +kernel
theorem dX11_blocks_127 : decode cX11_blocks 127 = .ok (.ifCond .eq 10, 3) := by decide +kernel
theorem dX11_blocks_130 : decode cX11_blocks 130 = .ok (.aload_n 0, 1) := by decide +kernel
theorem dX11_blocks_131 : decode cX11_blocks 131 = .ok (.invokevirtual 118, 3) := by decide +kernel
theorem dX11_blocks_134 : decode cX11_blocks 134 = .ok (.goto 4, 3) := by decide +kernel
theorem dX11_blocks_137 : decode cX11_blocks 137 = .ok (.lconst 0, 1) := by decide +kernel
theorem dX11_blocks_138 : decode cX11_blocks 138 = .ok (.lstore 14, 2) := by decide +kernel
theorem dX11_blocks_140 : decode cX11_blocks 140 = .ok (.iload 12, 2) := by decide +kernel
theorem dX11_blocks_142 : decode cX11_blocks 142 = .ok (.ifCond .eq 9, 3) := by decide +kernel
theorem dX11_blocks_145 : decode cX11_blocks 145 = .ok (.lload 9, 2) := by decide +kernel
theorem dX11_blocks_147 : decode cX11_blocks 147 = .ok (.lneg, 1) := by decide +kernel
theorem dX11_blocks_148 : decode cX11_blocks 148 = .ok (.goto 5, 3) := by decide +kernel
theorem dX11_blocks_151 : decode cX11_blocks 151 = .ok (.lload 9, 2) := by decide +kernel
theorem dX11_blocks_153 : decode cX11_blocks 153 = .ok (.lstore 9, 2) := by decide +kernel
theorem dX11_blocks_155 : decode cX11_blocks 155 = .ok (.aload_n 0, 1) := by decide +kernel
theorem dX11_blocks_156 : decode cX11_blocks 156 = .ok (.aload_n 0, 1) := by decide +kernel
theorem dX11_blocks_157 : decode cX11_blocks 157 = .ok (.getfield 175, 3) := by decide +kernel
theorem dX11_blocks_160 : decode cX11_blocks 160 = .ok (.lload 9, 2) := by decide +kernel
theorem dX11_blocks_162 : decode cX11_blocks 162 = .ok (.l2i, 1) := by decide +kernel
theorem dX11_blocks_163 : decode cX11_blocks 163 = .ok (.iadd, 1) := by decide +kernel
theorem dX11_blocks_164 : decode cX11_blocks 164 = .ok (.putfield 175, 3) := by decide +kernel
theorem dX11_blocks_167 : decode cX11_blocks 167 = .ok (.aload_n 0, 1) := by decide +kernel
theorem dX11_blocks_168 : decode cX11_blocks 168 = .ok (.getfield 99, 3) := by decide +kernel
theorem dX11_blocks_171 : decode cX11_blocks 171 = .ok (.istore 16, 2) := by decide +kernel
theorem dX11_blocks_173 : decode cX11_blocks 173 = .ok (.iconst 0, 1) := by decide +kernel
theorem dX11_blocks_174 : decode cX11_blocks 174 = .ok (.istore 17, 2) := by decide +kernel
theorem dX11_blocks_176 : decode cX11_blocks 176 = .ok (.iload 17, 2) := by decide +kernel
theorem dX11_blocks_178 : decode cX11_blocks 178 = .ok (.i2l, 1) := by decide +kernel
theorem dX11_blocks_179 : decode cX11_blocks 179 = .ok (.lload 9, 2) := by decide +kernel
theorem dX11_blocks_181 : decode cX11_blocks 181 = .ok (.lcmp, 1) := by decide +kernel
theorem dX11_blocks_182 : decode cX11_blocks 182 = .ok (.ifCond .ge 18, 3) := by decide +kernel
theorem dX11_blocks_185 : decode cX11_blocks 185 = .ok (.aload_n 0, 1) := by decide +kernel
theorem dX11_blocks_186 : decode cX11_blocks 186 = .ok (.aload_n 1, 1) := by decide +kernel
theorem dX11_blocks_187 : decode cX11_blocks 187 = .ok (.iload_n 2, 1) := by decide +kernel
theorem dX11_blocks_188 : decode cX11_blocks 188 = .ok (.iload_n 3, 1) := by decide +kernel
theorem dX11_blocks_189 : decode cX11_blocks 189 = .ok (.iload 4, 2) := by decide +kernel
theorem dX11_blocks_191 : decode cX11_blocks 191 = .ok (.invokevirtual 178, 3) := by decide +kernel
theorem dX11_blocks_194 : decode cX11_blocks 194 = .ok (.iinc 17 1, 3) := by decide +kernel
theorem dX11_blocks_197 : decode cX11_blocks 197 = .ok (.goto (-21), 3) := by decide +kernel
theorem dX11_blocks_200 : decode cX11_blocks 200 = .ok (.iload 12, 2) := by decide +kernel
theorem dX11_blocks_202 : decode cX11_blocks 202 = .ok (.ifCond .eq 25, 3) := by decide +kernel
theorem dX11_blocks_205 : decode cX11_blocks 205 = .ok (.lload 14, 2) := by decide +kernel
theorem dX11_blocks_207 : decode cX11_blocks 207 = .ok (.aload_n 0, 1) := by decide +kernel
theorem dX11_blocks_208 : decode cX11_blocks 208 = .ok (.getfield 99, 3) := by decide +kernel
theorem dX11_blocks_211 : decode cX11_blocks 211 = .ok (.iload 16, 2) := by decide +kernel
theorem dX11_blocks_213 : decode cX11_blocks 213 = .ok (.isub, 1) := by decide +kernel
theorem dX11_blocks_214 : decode cX11_blocks 214 = .ok (.i2l, 1) := by decide +kernel
theorem dX11_blocks_215 : decode cX11_blocks 215 = .ok (.lcmp, 1) := by decide +kernel
theorem dX11_blocks_216 : decode cX11_blocks 216 = .ok (.ifCond .eq 11, 3) := by decide +kernel
theorem dX11_blocks_219 : decode cX11_blocks 219 = .ok (.aload_n 0, 1) := by decide +kernel
theorem dX11_blocks_220 : decode cX11_blocks 220 = .ok (.bipush 6, 2) := by decide +kernel
theorem dX11_blocks_222 : decode cX11_blocks 222 = .ok (.iload 13, 2) := by decide +kernel
theorem dX11_blocks_224 : decode cX11_blocks 224 = .ok (.invokevirtual 102, 3) := by decide +kernel
theorem dX11_blocks_227 : decode cX11_blocks 227 = .ok (.iload 6, 2) := by decide +kernel
theorem dX11_blocks_229 : decode cX11_blocks 229 = .ok (.lload 9, 2) := by decide +kernel
theorem dX11_blocks_231 : decode cX11_blocks 231 = .ok (.l2i, 1) := by decide +kernel
theorem dX11_blocks_232 : decode cX11_blocks 232 = .ok (.iadd, 1) := by decide +kernel
theorem dX11_blocks_233 : decode cX11_blocks 233 = .ok (.istore 6, 2) := by decide +kernel
theorem dX11_blocks_235 : decode cX11_blocks 235 = .ok (.goto (-223), 3) := by decide +kernel
theorem dX11_blocks_238 : decode cX11_blocks 238 = .ok (.iload 4, 2) := by decide +kernel
theorem dX11_blocks_240 : decode cX11_blocks 240 = .ok (.ifCond .eq 16, 3) := by decide +kernel
theorem dX11_blocks_243 : decode cX11_blocks 243 = .ok (.aload_n 0, 1) := by decide +kernel
theorem dX11_blocks_244 : decode cX11_blocks 244 = .ok (.iload 5, 2) := by decide +kernel
theorem dX11_blocks_246 : decode cX11_blocks 246 = .ok (.iload 6, 2) := by decide +kernel
theorem dX11_blocks_248 : decode cX11_blocks 248 = .ok (.invokevirtual 181, 3) := by decide +kernel
theorem dX11_blocks_251 : decode cX11_blocks 251 = .ok (.aload_n 0, 1) := by decide +kernel
theorem dX11_blocks_252 : decode cX11_blocks 252 = .ok (.lconst 0, 1) := by decide +kernel
theorem dX11_blocks_253 : decode cX11_blocks 253 = .ok (.invokevirtual 126, 3) := by decide +kernel
theorem dX11_blocks_256 : decode cX11_blocks 256 = .ok (.return_, 1) := by decide +kernel
theorem dX11_insert_0 : decode cX11_insert 0 = .ok (.iload_n 2, 1) := by decide +kernel
theorem dX11_insert_1 : decode cX11_insert 1 = .ok (.ifCond .ne 4, 3) := by decide +kernel
theorem dX11_insert_4 : decode cX11_insert 4 = .ok (.return_, 1) := by decide +kernel
theorem dX11_insert_5 : decode cX11_insert 5 = .ok (.iload_n 2, 1) := by decide +kernel
theorem dX11_insert_6 : decode cX11_insert 6 = .ok (.i2l, 1) := by decide +kernel
theorem dX11_insert_7 : decode cX11_insert 7 = .ok (.invokestatic 184, 3) := by decide +kernel
theorem dX11_insert_10 : decode cX11_insert 10 = .ok (.istore_n 3, 1) := by decide +kernel
theorem dX11_insert_11 : decode cX11_insert 11 = .ok (.aload_n 0, 1) := by decide +kernel
theorem dX11_insert_12 : decode cX11_insert 12 = .ok (.getfield 115, 3) := by decide +kernel
theorem dX11_insert_15 : decode cX11_insert 15 = .ok (.iconst 1, 1) := by decide +kernel
theorem dX11_insert_16 : decode cX11_insert 16 = .ok (.isub, 1) := by decide +kernel
theorem dX11_insert_17 : decode cX11_insert 17 = .ok (.istore 4, 2) := by decide +kernel
theorem dX11_insert_19 : decode cX11_insert 19 = .ok (.iload 4, 2) := by decide +kernel
theorem dX11_insert_21 : decode cX11_insert 21 = .ok (.iload_n 1, 1) := by decide +kernel
theorem dX11_insert_22 : decode cX11_insert 22 = .ok (.if_icmp .lt 37, 3) := by decide +kernel
theorem dX11_insert_25 : decode cX11_insert 25 = .ok (.aload_n 0, 1) := by decide +kernel
theorem dX11_insert_26 : decode cX11_insert 26 = .ok (.getfield 115, 3) := by decide +kernel
theorem dX11_insert_29 : decode cX11_insert 29 = .ok (.iload_n 3, 1) := by decide +kernel
theorem dX11_insert_30 : decode cX11_insert 30 = .ok (.iadd, 1) := by decide +kernel
theorem dX11_insert_31 : decode cX11_insert 31 = .ok (.sipush 4200, 3) := by decide +kernel
theorem dX11_insert_34 : decode cX11_insert 34 = .ok (.if_icmp .gt 25, 3) := by decide +kernel
theorem dX11_insert_37 : decode cX11_insert 37 = .ok (.aload_n 0, 1) := by decide +kernel
theorem dX11_insert_38 : decode cX11_insert 38 = .ok (.getfield 44, 3) := by decide +kernel
theorem dX11_insert_41 : decode cX11_insert 41 = .ok (.iload 4, 2) := by decide +kernel
theorem dX11_insert_43 : decode cX11_insert 43 = .ok (.iload_n 3, 1) := by decide +kernel
theorem dX11_insert_44 : decode cX11_insert 44 = .ok (.iadd, 1) := by decide +kernel
theorem dX11_insert_45 : decode cX11_insert 45 = .ok (.aload_n 0, 1) := by decide +kernel
theorem dX11_insert_46 : decode cX11_insert 46 = .ok (.getfield 44, 3) := by decide +kernel
theorem dX11_insert_49 : decode cX11_insert 49 = .ok (.iload 4, 2) := by decide +kernel
theorem dX11_insert_51 : decode cX11_insert 51 = .ok (.baload, 1) := by decide +kernel
theorem dX11_insert_52 : decode cX11_insert 52 = .ok (.bastore, 1) := by decide +kernel
theorem dX11_insert_53 : decode cX11_insert 53 = .ok (.iinc 4 (-1), 3) := by decide +kernel
theorem dX11_insert_56 : decode cX11_insert 56 = .ok (.goto (-37), 3) := by decide +kernel
theorem dX11_insert_59 : decode cX11_insert 59 = .ok (.aload_n 0, 1) := by decide +kernel
theorem dX11_insert_60 : decode cX11_insert 60 = .ok (.getfield 115, 3) := by decide +kernel
theorem dX11_insert_63 : decode cX11_insert 63 = .ok (.istore 4, 2) := by decide +kernel
theorem dX11_insert_65 : decode cX11_insert 65 = .ok (.aload_n 0, 1) := by decide +kernel
theorem dX11_insert_66 : decode cX11_insert 66 = .ok (.iload_n 1, 1) := by decide +kernel
theorem dX11_insert_67 : decode cX11_insert 67 = .ok (.putfield 115, 3) := by decide +kernel
theorem dX11_insert_70 : decode cX11_insert 70 = .ok (.aload_n 0, 1) := by decide +kernel
theorem dX11_insert_71 : decode cX11_insert 71 = .ok (.iload_n 2, 1) := by decide +kernel
theorem dX11_insert_72 : decode cX11_insert 72 = .ok (.i2l, 1) := by decide +kernel
theorem dX11_insert_73 : decode cX11_insert 73 = .ok (.invokevirtual 126, 3) := by decide +kernel
theorem dX11_insert_76 : decode cX11_insert 76 = .ok (.aload_n 0, 1) := by decide +kernel
theorem dX11_insert_77 : decode cX11_insert 77 = .ok (.iload 4, 2) := by decide +kernel
theorem dX11_insert_79 : decode cX11_insert 79 = .ok (.iload_n 3, 1) := by decide +kernel
theorem dX11_insert_80 : decode cX11_insert 80 = .ok (.iadd, 1) := by decide +kernel
theorem dX11_insert_81 : decode cX11_insert 81 = .ok (.putfield 115, 3) := by decide +kernel
theorem dX11_insert_84 : decode cX11_insert 84 = .ok (.return_, 1) := by decide +kernel
theorem dX11_item_0 : decode cX11_item 0 = .ok (.aload_n 1, 1) := by decide +kernel
theorem dX11_item_1 : decode cX11_item 1 = .ok (.getfield 132, 3) := by decide +kernel
theorem dX11_item_4 : decode cX11_item 4 = .ok (.iload_n 2, 1) := by decide +kernel
theorem dX11_item_5 : decode cX11_item 5 = .ok (.iaload, 1) := by decide +kernel
theorem dX11_item_6 : decode cX11_item 6 = .ok (.bipush 7, 2) := by decide +kernel
theorem dX11_item_8 : decode cX11_item 8 = .ok (.if_icmp .ne 9, 3) := by decide +kernel
theorem dX11_item_11 : decode cX11_item 11 = .ok (.aload_n 0, 1) := by decide +kernel
theorem dX11_item_12 : decode cX11_item 12 = .ok (.iload 4, 2) := by decide +kernel
theorem dX11_item_14 : decode cX11_item 14 = .ok (.invokevirtual 139, 3) := by decide +kernel
theorem dX11_item_17 : decode cX11_item 17 = .ok (.aload_n 0, 1) := by decide +kernel
theorem dX11_item_18 : decode cX11_item 18 = .ok (.aload_n 1, 1) := by decide +kernel
theorem dX11_item_19 : decode cX11_item 19 = .ok (.aload_n 1, 1) := by decide +kernel
theorem dX11_item_20 : decode cX11_item 20 = .ok (.getfield 149, 3) := by decide +kernel
theorem dX11_item_23 : decode cX11_item 23 = .ok (.aload_n 1, 1) := by decide +kernel
theorem dX11_item_24 : decode cX11_item 24 = .ok (.getfield 160, 3) := by decide +kernel
theorem dX11_item_27 : decode cX11_item 27 = .ok (.iload_n 2, 1) := by decide +kernel
theorem dX11_item_28 : decode cX11_item 28 = .ok (.iaload, 1) := by decide +kernel
theorem dX11_item_29 : decode cX11_item 29 = .ok (.iaload, 1) := by decide +kernel
theorem dX11_item_30 : decode cX11_item 30 = .ok (.iload_n 3, 1) := by decide +kernel
theorem dX11_item_31 : decode cX11_item 31 = .ok (.iconst 1, 1) := by decide +kernel
theorem dX11_item_32 : decode cX11_item 32 = .ok (.iadd, 1) := by decide +kernel
theorem dX11_item_33 : decode cX11_item 33 = .ok (.iload 4, 2) := by decide +kernel
theorem dX11_item_35 : decode cX11_item 35 = .ok (.invokevirtual 156, 3) := by decide +kernel
theorem dX11_item_38 : decode cX11_item 38 = .ok (.return_, 1) := by decide +kernel
theorem dX11_lookAtRows_0 : decode cX11_lookAtRows 0 = .ok (.aload_n 0, 1) := by decide +kernel
theorem dX11_lookAtRows_1 : decode cX11_lookAtRows 1 = .ok (.iconst 0, 1) := by decide +kernel
theorem dX11_lookAtRows_2 : decode cX11_lookAtRows 2 = .ok (.putfield 99, 3) := by decide +kernel
theorem dX11_lookAtRows_5 : decode cX11_lookAtRows 5 = .ok (.aload_n 0, 1) := by decide +kernel
theorem dX11_lookAtRows_6 : decode cX11_lookAtRows 6 = .ok (.iconst 0, 1) := by decide +kernel
theorem dX11_lookAtRows_7 : decode cX11_lookAtRows 7 = .ok (.putfield 115, 3) := by decide +kernel
theorem dX11_lookAtRows_10 : decode cX11_lookAtRows 10 = .ok (.aload_n 0, 1) := by decide +kernel
theorem dX11_lookAtRows_11 : decode cX11_lookAtRows 11 = .ok (.iconst (-1), 1) := by decide +kernel
theorem dX11_lookAtRows_12 : decode cX11_lookAtRows 12 = .ok (.putfield 13, 3) := by decide +kernel
theorem dX11_lookAtRows_15 : decode cX11_lookAtRows 15 = .ok (.aload_n 0, 1) := by decide +kernel
theorem dX11_lookAtRows_16 : decode cX11_lookAtRows 16 = .ok (.getfield 57, 3) := by decide +kernel
theorem dX11_lookAtRows_19 : decode cX11_lookAtRows 19 = .ok (.ifCond .ne 6, 3) := by decide +kernel
theorem dX11_lookAtRows_22 : decode cX11_lookAtRows 22 = .ok (.bipush (-34), 2) := by decide +kernel
theorem dX11_lookAtRows_24 : decode cX11_lookAtRows 24 = .ok (.ireturn, 1) := by decide +kernel
theorem dX11_lookAtRows_25 : decode cX11_lookAtRows 25 = .ok (.iconst 0, 1) := by decide +kernel
theorem dX11_lookAtRows_26 : decode cX11_lookAtRows 26 = .ok (.istore_n 3, 1) := by decide +kernel
theorem dX11_lookAtRows_27 : decode cX11_lookAtRows 27 = .ok (.aload_n 0, 1) := by decide +kernel
theorem dX11_lookAtRows_28 : decode cX11_lookAtRows 28 = .ok (.getfield 99, 3) := by decide +kernel
theorem dX11_lookAtRows_31 : decode cX11_lookAtRows 31 = .ok (.aload_n 0, 1) := by decide +kernel
theorem dX11_lookAtRows_32 : decode cX11_lookAtRows 32 = .ok (.getfield 57, 3) := by decide +kernel
theorem dX11_lookAtRows_35 : decode cX11_lookAtRows 35 = .ok (.if_icmp .ge 48, 3) := by decide +kernel
theorem dX11_lookAtRows_38 : decode cX11_lookAtRows 38 = .ok (.aload_n 0, 1) := by decide +kernel
theorem dX11_lookAtRows_39 : decode cX11_lookAtRows 39 = .ok (.getfield 99, 3) := by decide +kernel
theorem dX11_lookAtRows_42 : decode cX11_lookAtRows 42 = .ok (.istore 4, 2) := by decide +kernel
theorem dX11_lookAtRows_44 : decode cX11_lookAtRows 44 = .ok (.aload_n 0, 1) := by decide +kernel
theorem dX11_lookAtRows_45 : decode cX11_lookAtRows 45 = .ok (.iconst 0, 1) := by decide +kernel
theorem dX11_lookAtRows_46 : decode cX11_lookAtRows 46 = .ok (.putfield 175, 3) := by decide +kernel
theorem dX11_lookAtRows_49 : decode cX11_lookAtRows 49 = .ok (.aload_n 0, 1) := by decide +kernel
theorem dX11_lookAtRows_50 : decode cX11_lookAtRows 50 = .ok (.iconst 0, 1) := by decide +kernel
theorem dX11_lookAtRows_51 : decode cX11_lookAtRows 51 = .ok (.putfield 129, 3) := by decide +kernel
theorem dX11_lookAtRows_54 : decode cX11_lookAtRows 54 = .ok (.aload_n 0, 1) := by decide +kernel
theorem dX11_lookAtRows_55 : decode cX11_lookAtRows 55 = .ok (.aload_n 1, 1) := by decide +kernel
theorem dX11_lookAtRows_56 : decode cX11_lookAtRows 56 = .ok (.aload_n 1, 1) := by decide +kernel
theorem dX11_lookAtRows_57 : decode cX11_lookAtRows 57 = .ok (.getfield 188, 3) := by decide +kernel
theorem dX11_lookAtRows_60 : decode cX11_lookAtRows 60 = .ok (.iconst 0, 1) := by decide +kernel
theorem dX11_lookAtRows_61 : decode cX11_lookAtRows 61 = .ok (.iload_n 2, 1) := by decide +kernel
theorem dX11_lookAtRows_62 : decode cX11_lookAtRows 62 = .ok (.invokevirtual 156, 3) := by decide +kernel
theorem dX11_lookAtRows_65 : decode cX11_lookAtRows 65 = .ok (.aload_n 0, 1) := by decide +kernel
theorem dX11_lookAtRows_66 : decode cX11_lookAtRows 66 = .ok (.getfield 99, 3) := by decide +kernel
theorem dX11_lookAtRows_69 : decode cX11_lookAtRows 69 = .ok (.iload 4, 2) := by decide +kernel
theorem dX11_lookAtRows_71 : decode cX11_lookAtRows 71 = .ok (.if_icmp .ne 6, 3) := by decide +kernel
theorem dX11_lookAtRows_74 : decode cX11_lookAtRows 74 = .ok (.bipush (-34), 2) := by decide +kernel
theorem dX11_lookAtRows_76 : decode cX11_lookAtRows 76 = .ok (.ireturn, 1) := by decide +kernel
theorem dX11_lookAtRows_77 : decode cX11_lookAtRows 77 = .ok (.iinc 3 1, 3) := by decide +kernel
theorem dX11_lookAtRows_80 : decode cX11_lookAtRows 80 = .ok (.goto (-53), 3) := by decide +kernel
theorem dX11_lookAtRows_83 : decode cX11_lookAtRows 83 = .ok (.goto 19, 3) := by decide +kernel
theorem dX11_lookAtRows_86 : decode cX11_lookAtRows 86 = .ok (.astore 4, 2) := by decide +kernel
theorem dX11_lookAtRows_88 : decode cX11_lookAtRows 88 = .ok (.aload_n 0, 1) := by decide +kernel
theorem dX11_lookAtRows_89 : decode cX11_lookAtRows 89 = .ok (.aload_n 0, 1) := by decide +kernel
theorem dX11_lookAtRows_90 : decode cX11_lookAtRows 90 = .ok (.getfield 90, 3) := by decide +kernel
theorem dX11_lookAtRows_93 : decode cX11_lookAtRows 93 = .ok (.putfield 13, 3) := by decide +kernel
theorem dX11_lookAtRows_96 : decode cX11_lookAtRows 96 = .ok (.aload_n 0, 1) := by decide +kernel
theorem dX11_lookAtRows_97 : decode cX11_lookAtRows 97 = .ok (.getfield 87, 3) := by decide +kernel
theorem dX11_lookAtRows_100 : decode cX11_lookAtRows 100 = .ok (.ineg, 1) := by decide +kernel
theorem dX11_lookAtRows_101 : decode cX11_lookAtRows 101 = .ok (.ireturn, 1) := by decide +kernel
theorem dX11_lookAtRows_102 : decode cX11_lookAtRows 102 = .ok (.iload_n 3, 1) := by decide +kernel
theorem dX11_lookAtRows_103 : decode cX11_lookAtRows 103 = .ok (.ireturn, 1) := by decide +kernel
theorem dX11_load_0 : decode cX11_load 0 = .ok (.aload_n 0, 1) := by decide +kernel
theorem dX11_load_1 : decode cX11_load 1 = .ok (.iload_n 1, 1) := by decide +kernel
theorem dX11_load_2 : decode cX11_load 2 = .ok (.invokestatic 76, 3) := by decide +kernel
theorem dX11_load_5 : decode cX11_load 5 = .ok (.ifCond .ne 7, 3) := by decide +kernel
theorem dX11_load_8 : decode cX11_load 8 = .ok (.iconst 1, 1) := by decide +kernel
theorem dX11_load_9 : decode cX11_load 9 = .ok (.goto 4, 3) := by decide +kernel
theorem dX11_load_12 : decode cX11_load 12 = .ok (.iconst 0, 1) := by decide +kernel
theorem dX11_load_13 : decode cX11_load 13 = .ok (.iload_n 1, 1) := by decide +kernel
theorem dX11_load_14 : decode cX11_load 14 = .ok (.invokestatic 76, 3) := by decide +kernel
theorem dX11_load_17 : decode cX11_load 17 = .ok (.ifCond .eq 16, 3) := by decide +kernel
theorem dX11_load_20 : decode cX11_load 20 = .ok (.aload_n 0, 1) := by decide +kernel
theorem dX11_load_21 : decode cX11_load 21 = .ok (.getfield 31, 3) := by decide +kernel
theorem dX11_load_24 : decode cX11_load 24 = .ok (.iload_n 1, 1) := by decide +kernel
theorem dX11_load_25 : decode cX11_load 25 = .ok (.iaload, 1) := by decide +kernel
theorem dX11_load_26 : decode cX11_load 26 = .ok (.ifCond .ge 7, 3) := by decide +kernel
theorem dX11_load_29 : decode cX11_load 29 = .ok (.iconst 1, 1) := by decide +kernel
theorem dX11_load_30 : decode cX11_load 30 = .ok (.goto 4, 3) := by decide +kernel
theorem dX11_load_33 : decode cX11_load 33 = .ok (.iconst 0, 1) := by decide +kernel
theorem dX11_load_34 : decode cX11_load 34 = .ok (.invokevirtual 60, 3) := by decide +kernel
theorem dX11_load_37 : decode cX11_load 37 = .ok (.ifCond .eq 5, 3) := by decide +kernel
theorem dX11_load_40 : decode cX11_load 40 = .ok (.iconst 0, 1) := by decide +kernel
theorem dX11_load_41 : decode cX11_load 41 = .ok (.ireturn, 1) := by decide +kernel
theorem dX11_load_42 : decode cX11_load 42 = .ok (.aload_n 0, 1) := by decide +kernel
theorem dX11_load_43 : decode cX11_load 43 = .ok (.aload_n 0, 1) := by decide +kernel
theorem dX11_load_44 : decode cX11_load 44 = .ok (.getfield 20, 3) := by decide +kernel
theorem dX11_load_47 : decode cX11_load 47 = .ok (.iload_n 1, 1) := by decide +kernel
theorem dX11_load_48 : decode cX11_load 48 = .ok (.invokevirtual 191, 3) := by decide +kernel
theorem dX11_load_51 : decode cX11_load 51 = .ok (.aload_n 0, 1) := by decide +kernel
theorem dX11_load_52 : decode cX11_load 52 = .ok (.aload_n 0, 1) := by decide +kernel
theorem dX11_load_53 : decode cX11_load 53 = .ok (.getfield 20, 3) := by decide +kernel
theorem dX11_load_56 : decode cX11_load 56 = .ok (.iconst 1, 1) := by decide +kernel
theorem dX11_load_57 : decode cX11_load 57 = .ok (.invokevirtual 194, 3) := by decide +kernel
theorem dX11_load_60 : decode cX11_load 60 = .ok (.istore_n 2, 1) := by decide +kernel
theorem dX11_load_61 : decode cX11_load 61 = .ok (.iload_n 2, 1) := by decide +kernel
theorem dX11_load_62 : decode cX11_load 62 = .ok (.ifCond .ge 5, 3) := by decide +kernel
theorem dX11_load_65 : decode cX11_load 65 = .ok (.iload_n 2, 1) := by decide +kernel
theorem dX11_load_66 : decode cX11_load 66 = .ok (.ireturn, 1) := by decide +kernel
theorem dX11_load_67 : decode cX11_load 67 = .ok (.aload_n 0, 1) := by decide +kernel
theorem dX11_load_68 : decode cX11_load 68 = .ok (.iload_n 1, 1) := by decide +kernel
theorem dX11_load_69 : decode cX11_load 69 = .ok (.putfield 38, 3) := by decide +kernel
theorem dX11_load_72 : decode cX11_load 72 = .ok (.aload_n 0, 1) := by decide +kernel
theorem dX11_load_73 : decode cX11_load 73 = .ok (.iload_n 2, 1) := by decide +kernel
theorem dX11_load_74 : decode cX11_load 74 = .ok (.putfield 81, 3) := by decide +kernel
theorem dX11_load_77 : decode cX11_load 77 = .ok (.aload_n 0, 1) := by decide +kernel
theorem dX11_load_78 : decode cX11_load 78 = .ok (.aload_n 0, 1) := by decide +kernel
theorem dX11_load_79 : decode cX11_load 79 = .ok (.getfield 115, 3) := by decide +kernel
theorem dX11_load_82 : decode cX11_load 82 = .ok (.putfield 84, 3) := by decide +kernel
theorem dX11_load_85 : decode cX11_load 85 = .ok (.iconst 0, 1) := by decide +kernel
theorem dX11_load_86 : decode cX11_load 86 = .ok (.istore_n 3, 1) := by decide +kernel
theorem dX11_load_87 : decode cX11_load 87 = .ok (.iload_n 3, 1) := by decide +kernel
theorem dX11_load_88 : decode cX11_load 88 = .ok (.aload_n 0, 1) := by decide +kernel
theorem dX11_load_89 : decode cX11_load 89 = .ok (.getfield 115, 3) := by decide +kernel
theorem dX11_load_92 : decode cX11_load 92 = .ok (.if_icmp .ge 21, 3) := by decide +kernel
theorem dX11_load_95 : decode cX11_load 95 = .ok (.aload_n 0, 1) := by decide +kernel
theorem dX11_load_96 : decode cX11_load 96 = .ok (.getfield 35, 3) := by decide +kernel
theorem dX11_load_99 : decode cX11_load 99 = .ok (.iload_n 3, 1) := by decide +kernel
theorem dX11_load_100 : decode cX11_load 100 = .ok (.aload_n 0, 1) := by decide +kernel
theorem dX11_load_101 : decode cX11_load 101 = .ok (.getfield 44, 3) := by decide +kernel
theorem dX11_load_104 : decode cX11_load 104 = .ok (.iload_n 3, 1) := by decide +kernel
theorem dX11_load_105 : decode cX11_load 105 = .ok (.baload, 1) := by decide +kernel
theorem dX11_load_106 : decode cX11_load 106 = .ok (.bastore, 1) := by decide +kernel
theorem dX11_load_107 : decode cX11_load 107 = .ok (.iinc 3 1, 3) := by decide +kernel
theorem dX11_load_110 : decode cX11_load 110 = .ok (.goto (-23), 3) := by decide +kernel
theorem dX11_load_113 : decode cX11_load 113 = .ok (.aload_n 0, 1) := by decide +kernel
theorem dX11_load_114 : decode cX11_load 114 = .ok (.iconst 0, 1) := by decide +kernel
theorem dX11_load_115 : decode cX11_load 115 = .ok (.putfield 57, 3) := by decide +kernel
theorem dX11_load_118 : decode cX11_load 118 = .ok (.iload_n 2, 1) := by decide +kernel
theorem dX11_load_119 : decode cX11_load 119 = .ok (.ireturn, 1) := by decide +kernel
theorem dX11_place_0 : decode cX11_place 0 = .ok (.aload_n 0, 1) := by decide +kernel
theorem dX11_place_1 : decode cX11_place 1 = .ok (.iconst 0, 1) := by decide +kernel
theorem dX11_place_2 : decode cX11_place 2 = .ok (.putfield 54, 3) := by decide +kernel
theorem dX11_place_5 : decode cX11_place 5 = .ok (.aload_n 0, 1) := by decide +kernel
theorem dX11_place_6 : decode cX11_place 6 = .ok (.getfield 13, 3) := by decide +kernel
theorem dX11_place_9 : decode cX11_place 9 = .ok (.ireturn, 1) := by decide +kernel
theorem dX11_rows_0 : decode cX11_rows 0 = .ok (.aload_n 0, 1) := by decide +kernel
theorem dX11_rows_1 : decode cX11_rows 1 = .ok (.iconst 0, 1) := by decide +kernel
theorem dX11_rows_2 : decode cX11_rows 2 = .ok (.putfield 54, 3) := by decide +kernel
theorem dX11_rows_5 : decode cX11_rows 5 = .ok (.aload_n 0, 1) := by decide +kernel
theorem dX11_rows_6 : decode cX11_rows 6 = .ok (.getfield 81, 3) := by decide +kernel
theorem dX11_rows_9 : decode cX11_rows 9 = .ok (.ireturn, 1) := by decide +kernel
theorem dX11_size_0 : decode cX11_size 0 = .ok (.aload_n 0, 1) := by decide +kernel
theorem dX11_size_1 : decode cX11_size 1 = .ok (.iload_n 1, 1) := by decide +kernel
theorem dX11_size_2 : decode cX11_size 2 = .ok (.iconst 0, 1) := by decide +kernel
theorem dX11_size_3 : decode cX11_size 3 = .ok (.iconst 1, 1) := by decide +kernel
theorem dX11_size_4 : decode cX11_size 4 = .ok (.invokestatic 68, 3) := by decide +kernel
theorem dX11_size_7 : decode cX11_size 7 = .ok (.ifCond .ne 7, 3) := by decide +kernel
theorem dX11_size_10 : decode cX11_size 10 = .ok (.iconst 1, 1) := by decide +kernel
theorem dX11_size_11 : decode cX11_size 11 = .ok (.goto 4, 3) := by decide +kernel
theorem dX11_size_14 : decode cX11_size 14 = .ok (.iconst 0, 1) := by decide +kernel
theorem dX11_size_15 : decode cX11_size 15 = .ok (.iconst 0, 1) := by decide +kernel
theorem dX11_size_16 : decode cX11_size 16 = .ok (.invokevirtual 60, 3) := by decide +kernel
theorem dX11_size_19 : decode cX11_size 19 = .ok (.ifCond .eq 7, 3) := by decide +kernel
theorem dX11_size_22 : decode cX11_size 22 = .ok (.iconst 0, 1) := by decide +kernel
theorem dX11_size_23 : decode cX11_size 23 = .ok (.goto 18, 3) := by decide +kernel
theorem dX11_size_26 : decode cX11_size 26 = .ok (.iload_n 1, 1) := by decide +kernel
theorem dX11_size_27 : decode cX11_size 27 = .ok (.ifCond .ne 10, 3) := by decide +kernel
theorem dX11_size_30 : decode cX11_size 30 = .ok (.aload_n 0, 1) := by decide +kernel
theorem dX11_size_31 : decode cX11_size 31 = .ok (.getfield 84, 3) := by decide +kernel
theorem dX11_size_34 : decode cX11_size 34 = .ok (.goto 7, 3) := by decide +kernel
theorem dX11_size_37 : decode cX11_size 37 = .ok (.aload_n 0, 1) := by decide +kernel
theorem dX11_size_38 : decode cX11_size 38 = .ok (.getfield 198, 3) := by decide +kernel
theorem dX11_size_41 : decode cX11_size 41 = .ok (.ireturn, 1) := by decide +kernel
theorem dX11_letter_0 : decode cX11_letter 0 = .ok (.iload_n 2, 1) := by decide +kernel
theorem dX11_letter_1 : decode cX11_letter 1 = .ok (.iconst 0, 1) := by decide +kernel
theorem dX11_letter_2 : decode cX11_letter 2 = .ok (.iconst 1, 1) := by decide +kernel
theorem dX11_letter_3 : decode cX11_letter 3 = .ok (.invokestatic 68, 3) := by decide +kernel
theorem dX11_letter_6 : decode cX11_letter 6 = .ok (.ifCond .ne 7, 3) := by decide +kernel
theorem dX11_letter_9 : decode cX11_letter 9 = .ok (.iconst 1, 1) := by decide +kernel
theorem dX11_letter_10 : decode cX11_letter 10 = .ok (.goto 4, 3) := by decide +kernel
theorem dX11_letter_13 : decode cX11_letter 13 = .ok (.iconst 0, 1) := by decide +kernel
theorem dX11_letter_14 : decode cX11_letter 14 = .ok (.istore_n 3, 1) := by decide +kernel
theorem dX11_letter_15 : decode cX11_letter 15 = .ok (.aload_n 0, 1) := by decide +kernel
theorem dX11_letter_16 : decode cX11_letter 16 = .ok (.iload_n 3, 1) := by decide +kernel
theorem dX11_letter_17 : decode cX11_letter 17 = .ok (.ifCond .ne 32, 3) := by decide +kernel
theorem dX11_letter_20 : decode cX11_letter 20 = .ok (.iload_n 1, 1) := by decide +kernel
theorem dX11_letter_21 : decode cX11_letter 21 = .ok (.iconst 0, 1) := by decide +kernel
theorem dX11_letter_22 : decode cX11_letter 22 = .ok (.iload_n 2, 1) := by decide +kernel
theorem dX11_letter_23 : decode cX11_letter 23 = .ok (.ifCond .ne 10, 3) := by decide +kernel
theorem dX11_letter_26 : decode cX11_letter 26 = .ok (.aload_n 0, 1) := by decide +kernel
theorem dX11_letter_27 : decode cX11_letter 27 = .ok (.getfield 84, 3) := by decide +kernel
theorem dX11_letter_30 : decode cX11_letter 30 = .ok (.goto 7, 3) := by decide +kernel
theorem dX11_letter_33 : decode cX11_letter 33 = .ok (.aload_n 0, 1) := by decide +kernel
theorem dX11_letter_34 : decode cX11_letter 34 = .ok (.getfield 198, 3) := by decide +kernel
theorem dX11_letter_37 : decode cX11_letter 37 = .ok (.iconst 1, 1) := by decide +kernel
theorem dX11_letter_38 : decode cX11_letter 38 = .ok (.isub, 1) := by decide +kernel
theorem dX11_letter_39 : decode cX11_letter 39 = .ok (.invokestatic 68, 3) := by decide +kernel
theorem dX11_letter_42 : decode cX11_letter 42 = .ok (.ifCond .ne 7, 3) := by decide +kernel
theorem dX11_letter_45 : decode cX11_letter 45 = .ok (.iconst 1, 1) := by decide +kernel
theorem dX11_letter_46 : decode cX11_letter 46 = .ok (.goto 4, 3) := by decide +kernel
theorem dX11_letter_49 : decode cX11_letter 49 = .ok (.iconst 0, 1) := by decide +kernel
theorem dX11_letter_50 : decode cX11_letter 50 = .ok (.iload_n 3, 1) := by decide +kernel
theorem dX11_letter_51 : decode cX11_letter 51 = .ok (.invokevirtual 60, 3) := by decide +kernel
theorem dX11_letter_54 : decode cX11_letter 54 = .ok (.ifCond .eq 5, 3) := by decide +kernel
theorem dX11_letter_57 : decode cX11_letter 57 = .ok (.iconst 0, 1) := by decide +kernel
theorem dX11_letter_58 : decode cX11_letter 58 = .ok (.ireturn, 1) := by decide +kernel
theorem dX11_letter_59 : decode cX11_letter 59 = .ok (.iload_n 2, 1) := by decide +kernel
theorem dX11_letter_60 : decode cX11_letter 60 = .ok (.ifCond .ne 16, 3) := by decide +kernel
theorem dX11_letter_63 : decode cX11_letter 63 = .ok (.aload_n 0, 1) := by decide +kernel
theorem dX11_letter_64 : decode cX11_letter 64 = .ok (.getfield 35, 3) := by decide +kernel
theorem dX11_letter_67 : decode cX11_letter 67 = .ok (.iload_n 1, 1) := by decide +kernel
theorem dX11_letter_68 : decode cX11_letter 68 = .ok (.baload, 1) := by decide +kernel
theorem dX11_letter_69 : decode cX11_letter 69 = .ok (.sipush 255, 3) := by decide +kernel
theorem dX11_letter_72 : decode cX11_letter 72 = .ok (.iand, 1) := by decide +kernel
theorem dX11_letter_73 : decode cX11_letter 73 = .ok (.goto 13, 3) := by decide +kernel
theorem dX11_letter_76 : decode cX11_letter 76 = .ok (.aload_n 0, 1) := by decide +kernel
theorem dX11_letter_77 : decode cX11_letter 77 = .ok (.getfield 41, 3) := by decide +kernel
theorem dX11_letter_80 : decode cX11_letter 80 = .ok (.iload_n 1, 1) := by decide +kernel
theorem dX11_letter_81 : decode cX11_letter 81 = .ok (.baload, 1) := by decide +kernel
theorem dX11_letter_82 : decode cX11_letter 82 = .ok (.sipush 255, 3) := by decide +kernel
theorem dX11_letter_85 : decode cX11_letter 85 = .ok (.iand, 1) := by decide +kernel
theorem dX11_letter_86 : decode cX11_letter 86 = .ok (.ireturn, 1) := by decide +kernel
theorem dX11_sixOf_0 : decode cX11_sixOf 0 = .ok (.iload_n 0, 1) := by decide +kernel
theorem dX11_sixOf_1 : decode cX11_sixOf 1 = .ok (.bipush 6, 2) := by decide +kernel
theorem dX11_sixOf_3 : decode cX11_sixOf 3 = .ok (.if_icmp .ge 7, 3) := by decide +kernel
theorem dX11_sixOf_6 : decode cX11_sixOf 6 = .ok (.iconst 1, 1) := by decide +kernel
theorem dX11_sixOf_7 : decode cX11_sixOf 7 = .ok (.goto 4, 3) := by decide +kernel
theorem dX11_sixOf_10 : decode cX11_sixOf 10 = .ok (.iconst 0, 1) := by decide +kernel
theorem dX11_sixOf_11 : decode cX11_sixOf 11 = .ok (.ireturn, 1) := by decide +kernel
theorem dX11_matchesSix_0 : decode cX11_matchesSix 0 = .ok (.iload_n 0, 1) := by decide +kernel
theorem dX11_matchesSix_1 : decode cX11_matchesSix 1 = .ok (.iload_n 1, 1) := by decide +kernel
theorem dX11_matchesSix_2 : decode cX11_matchesSix 2 = .ok (.if_icmp .eq 33, 3) := by decide +kernel
theorem dX11_matchesSix_5 : decode cX11_matchesSix 5 = .ok (.iload_n 0, 1) := by decide +kernel
theorem dX11_matchesSix_6 : decode cX11_matchesSix 6 = .ok (.iconst 2, 1) := by decide +kernel
theorem dX11_matchesSix_7 : decode cX11_matchesSix 7 = .ok (.if_icmp .ne 8, 3) := by decide +kernel
theorem dX11_matchesSix_10 : decode cX11_matchesSix 10 = .ok (.iload_n 1, 1) := by decide +kernel
theorem dX11_matchesSix_11 : decode cX11_matchesSix 11 = .ok (.iconst 3, 1) := by decide +kernel
theorem dX11_matchesSix_12 : decode cX11_matchesSix 12 = .ok (.if_icmp .eq 23, 3) := by decide +kernel
theorem dX11_matchesSix_15 : decode cX11_matchesSix 15 = .ok (.iload_n 0, 1) := by decide +kernel
theorem dX11_matchesSix_16 : decode cX11_matchesSix 16 = .ok (.iconst 4, 1) := by decide +kernel
theorem dX11_matchesSix_17 : decode cX11_matchesSix 17 = .ok (.if_icmp .eq 8, 3) := by decide +kernel
theorem dX11_matchesSix_20 : decode cX11_matchesSix 20 = .ok (.iload_n 0, 1) := by decide +kernel
theorem dX11_matchesSix_21 : decode cX11_matchesSix 21 = .ok (.iconst 5, 1) := by decide +kernel
theorem dX11_matchesSix_22 : decode cX11_matchesSix 22 = .ok (.if_icmp .ne 17, 3) := by decide +kernel
theorem dX11_matchesSix_25 : decode cX11_matchesSix 25 = .ok (.iload_n 1, 1) := by decide +kernel
theorem dX11_matchesSix_26 : decode cX11_matchesSix 26 = .ok (.iconst 4, 1) := by decide +kernel
theorem dX11_matchesSix_27 : decode cX11_matchesSix 27 = .ok (.if_icmp .eq 8, 3) := by decide +kernel
theorem dX11_matchesSix_30 : decode cX11_matchesSix 30 = .ok (.iload_n 1, 1) := by decide +kernel
theorem dX11_matchesSix_31 : decode cX11_matchesSix 31 = .ok (.iconst 5, 1) := by decide +kernel
theorem dX11_matchesSix_32 : decode cX11_matchesSix 32 = .ok (.if_icmp .ne 7, 3) := by decide +kernel
theorem dX11_matchesSix_35 : decode cX11_matchesSix 35 = .ok (.iconst 1, 1) := by decide +kernel
theorem dX11_matchesSix_36 : decode cX11_matchesSix 36 = .ok (.goto 4, 3) := by decide +kernel
theorem dX11_matchesSix_39 : decode cX11_matchesSix 39 = .ok (.iconst 0, 1) := by decide +kernel
theorem dX11_matchesSix_40 : decode cX11_matchesSix 40 = .ok (.ireturn, 1) := by decide +kernel
theorem dX11_matches_0 : decode cX11_matches 0 = .ok (.aload_n 0, 1) := by decide +kernel
theorem dX11_matches_1 : decode cX11_matches 1 = .ok (.getfield 132, 3) := by decide +kernel
theorem dX11_matches_4 : decode cX11_matches 4 = .ok (.iload_n 1, 1) := by decide +kernel
theorem dX11_matches_5 : decode cX11_matches 5 = .ok (.iaload, 1) := by decide +kernel
theorem dX11_matches_6 : decode cX11_matches 6 = .ok (.istore 4, 2) := by decide +kernel
theorem dX11_matches_8 : decode cX11_matches 8 = .ok (.aload_n 2, 1) := by decide +kernel
theorem dX11_matches_9 : decode cX11_matches 9 = .ok (.getfield 132, 3) := by decide +kernel
theorem dX11_matches_12 : decode cX11_matches 12 = .ok (.iload_n 3, 1) := by decide +kernel
theorem dX11_matches_13 : decode cX11_matches 13 = .ok (.iaload, 1) := by decide +kernel
theorem dX11_matches_14 : decode cX11_matches 14 = .ok (.istore 5, 2) := by decide +kernel
theorem dX11_matches_16 : decode cX11_matches 16 = .ok (.iload 4, 2) := by decide +kernel
theorem dX11_matches_18 : decode cX11_matches 18 = .ok (.bipush 8, 2) := by decide +kernel
theorem dX11_matches_20 : decode cX11_matches 20 = .ok (.if_icmp .eq 10, 3) := by decide +kernel
theorem dX11_matches_23 : decode cX11_matches 23 = .ok (.iload 5, 2) := by decide +kernel
theorem dX11_matches_25 : decode cX11_matches 25 = .ok (.bipush 8, 2) := by decide +kernel
theorem dX11_matches_27 : decode cX11_matches 27 = .ok (.if_icmp .ne 5, 3) := by decide +kernel
theorem dX11_matches_30 : decode cX11_matches 30 = .ok (.iconst 1, 1) := by decide +kernel
theorem dX11_matches_31 : decode cX11_matches 31 = .ok (.ireturn, 1) := by decide +kernel
theorem dX11_matches_32 : decode cX11_matches 32 = .ok (.iload 4, 2) := by decide +kernel
theorem dX11_matches_34 : decode cX11_matches 34 = .ok (.invokestatic 201, 3) := by decide +kernel
theorem dX11_matches_37 : decode cX11_matches 37 = .ok (.ifCond .ne 11, 3) := by decide +kernel
theorem dX11_matches_40 : decode cX11_matches 40 = .ok (.iload 5, 2) := by decide +kernel
theorem dX11_matches_42 : decode cX11_matches 42 = .ok (.invokestatic 201, 3) := by decide +kernel
theorem dX11_matches_45 : decode cX11_matches 45 = .ok (.ifCond .eq 35, 3) := by decide +kernel
theorem dX11_matches_48 : decode cX11_matches 48 = .ok (.iload 4, 2) := by decide +kernel
theorem dX11_matches_50 : decode cX11_matches 50 = .ok (.invokestatic 201, 3) := by decide +kernel
theorem dX11_matches_53 : decode cX11_matches 53 = .ok (.ifCond .eq 25, 3) := by decide +kernel
theorem dX11_matches_56 : decode cX11_matches 56 = .ok (.iload 5, 2) := by decide +kernel
theorem dX11_matches_58 : decode cX11_matches 58 = .ok (.invokestatic 201, 3) := by decide +kernel
theorem dX11_matches_61 : decode cX11_matches 61 = .ok (.ifCond .eq 17, 3) := by decide +kernel
theorem dX11_matches_64 : decode cX11_matches 64 = .ok (.iload 4, 2) := by decide +kernel
theorem dX11_matches_66 : decode cX11_matches 66 = .ok (.iload 5, 2) := by decide +kernel
theorem dX11_matches_68 : decode cX11_matches 68 = .ok (.invokestatic 204, 3) := by decide +kernel
theorem dX11_matches_71 : decode cX11_matches 71 = .ok (.ifCond .eq 7, 3) := by decide +kernel
theorem dX11_matches_74 : decode cX11_matches 74 = .ok (.iconst 1, 1) := by decide +kernel
theorem dX11_matches_75 : decode cX11_matches 75 = .ok (.goto 4, 3) := by decide +kernel
theorem dX11_matches_78 : decode cX11_matches 78 = .ok (.iconst 0, 1) := by decide +kernel
theorem dX11_matches_79 : decode cX11_matches 79 = .ok (.ireturn, 1) := by decide +kernel
theorem dX11_matches_80 : decode cX11_matches 80 = .ok (.iload 4, 2) := by decide +kernel
theorem dX11_matches_82 : decode cX11_matches 82 = .ok (.iload 5, 2) := by decide +kernel
theorem dX11_matches_84 : decode cX11_matches 84 = .ok (.if_icmp .eq 5, 3) := by decide +kernel
theorem dX11_matches_87 : decode cX11_matches 87 = .ok (.iconst 0, 1) := by decide +kernel
theorem dX11_matches_88 : decode cX11_matches 88 = .ok (.ireturn, 1) := by decide +kernel
theorem dX11_matches_89 : decode cX11_matches 89 = .ok (.iload 4, 2) := by decide +kernel
theorem dX11_matches_91 : decode cX11_matches 91 = .ok (.bipush 6, 2) := by decide +kernel
theorem dX11_matches_93 : decode cX11_matches 93 = .ok (.if_icmp .eq 10, 3) := by decide +kernel
theorem dX11_matches_96 : decode cX11_matches 96 = .ok (.iload 4, 2) := by decide +kernel
theorem dX11_matches_98 : decode cX11_matches 98 = .ok (.bipush 7, 2) := by decide +kernel
theorem dX11_matches_100 : decode cX11_matches 100 = .ok (.if_icmp .ne 31, 3) := by decide +kernel
theorem dX11_matches_103 : decode cX11_matches 103 = .ok (.aload_n 0, 1) := by decide +kernel
theorem dX11_matches_104 : decode cX11_matches 104 = .ok (.aload_n 0, 1) := by decide +kernel
theorem dX11_matches_105 : decode cX11_matches 105 = .ok (.getfield 149, 3) := by decide +kernel
theorem dX11_matches_108 : decode cX11_matches 108 = .ok (.aload_n 0, 1) := by decide +kernel
theorem dX11_matches_109 : decode cX11_matches 109 = .ok (.getfield 160, 3) := by decide +kernel
theorem dX11_matches_112 : decode cX11_matches 112 = .ok (.iload_n 1, 1) := by decide +kernel
theorem dX11_matches_113 : decode cX11_matches 113 = .ok (.iaload, 1) := by decide +kernel
theorem dX11_matches_114 : decode cX11_matches 114 = .ok (.iaload, 1) := by decide +kernel
theorem dX11_matches_115 : decode cX11_matches 115 = .ok (.aload_n 2, 1) := by decide +kernel
theorem dX11_matches_116 : decode cX11_matches 116 = .ok (.aload_n 2, 1) := by decide +kernel
theorem dX11_matches_117 : decode cX11_matches 117 = .ok (.getfield 149, 3) := by decide +kernel
theorem dX11_matches_120 : decode cX11_matches 120 = .ok (.aload_n 2, 1) := by decide +kernel
theorem dX11_matches_121 : decode cX11_matches 121 = .ok (.getfield 160, 3) := by decide +kernel
theorem dX11_matches_124 : decode cX11_matches 124 = .ok (.iload_n 3, 1) := by decide +kernel
theorem dX11_matches_125 : decode cX11_matches 125 = .ok (.iaload, 1) := by decide +kernel
theorem dX11_matches_126 : decode cX11_matches 126 = .ok (.iaload, 1) := by decide +kernel
theorem dX11_matches_127 : decode cX11_matches 127 = .ok (.invokestatic 208, 3) := by decide +kernel
theorem dX11_matches_130 : decode cX11_matches 130 = .ok (.ireturn, 1) := by decide +kernel
theorem dX11_matches_131 : decode cX11_matches 131 = .ok (.aload_n 0, 1) := by decide +kernel
theorem dX11_matches_132 : decode cX11_matches 132 = .ok (.aload_n 0, 1) := by decide +kernel
theorem dX11_matches_133 : decode cX11_matches 133 = .ok (.getfield 212, 3) := by decide +kernel
theorem dX11_matches_136 : decode cX11_matches 136 = .ok (.iload_n 1, 1) := by decide +kernel
theorem dX11_matches_137 : decode cX11_matches 137 = .ok (.iaload, 1) := by decide +kernel
theorem dX11_matches_138 : decode cX11_matches 138 = .ok (.aload_n 2, 1) := by decide +kernel
theorem dX11_matches_139 : decode cX11_matches 139 = .ok (.aload_n 2, 1) := by decide +kernel
theorem dX11_matches_140 : decode cX11_matches 140 = .ok (.getfield 212, 3) := by decide +kernel
theorem dX11_matches_143 : decode cX11_matches 143 = .ok (.iload_n 3, 1) := by decide +kernel
theorem dX11_matches_144 : decode cX11_matches 144 = .ok (.iaload, 1) := by decide +kernel
theorem dX11_matches_145 : decode cX11_matches 145 = .ok (.invokevirtual 215, 3) := by decide +kernel
theorem dX11_matches_148 : decode cX11_matches 148 = .ok (.ifCond .eq 29, 3) := by decide +kernel
theorem dX11_matches_151 : decode cX11_matches 151 = .ok (.iload 4, 2) := by decide +kernel
theorem dX11_matches_153 : decode cX11_matches 153 = .ok (.bipush 9, 2) := by decide +kernel
theorem dX11_matches_155 : decode cX11_matches 155 = .ok (.if_icmp .ne 18, 3) := by decide +kernel
theorem dX11_matches_158 : decode cX11_matches 158 = .ok (.aload_n 0, 1) := by decide +kernel
theorem dX11_matches_159 : decode cX11_matches 159 = .ok (.getfield 143, 3) := by decide +kernel
theorem dX11_matches_162 : decode cX11_matches 162 = .ok (.iload_n 1, 1) := by decide +kernel
theorem dX11_matches_163 : decode cX11_matches 163 = .ok (.iaload, 1) := by decide +kernel
theorem dX11_matches_164 : decode cX11_matches 164 = .ok (.aload_n 2, 1) := by decide +kernel
theorem dX11_matches_165 : decode cX11_matches 165 = .ok (.getfield 143, 3) := by decide +kernel
theorem dX11_matches_168 : decode cX11_matches 168 = .ok (.iload_n 3, 1) := by decide +kernel
theorem dX11_matches_169 : decode cX11_matches 169 = .ok (.iaload, 1) := by decide +kernel
theorem dX11_matches_170 : decode cX11_matches 170 = .ok (.if_icmp .ne 7, 3) := by decide +kernel
theorem dX11_matches_173 : decode cX11_matches 173 = .ok (.iconst 1, 1) := by decide +kernel
theorem dX11_matches_174 : decode cX11_matches 174 = .ok (.goto 4, 3) := by decide +kernel
theorem dX11_matches_177 : decode cX11_matches 177 = .ok (.iconst 0, 1) := by decide +kernel
theorem dX11_matches_178 : decode cX11_matches 178 = .ok (.ireturn, 1) := by decide +kernel
theorem dX11_branchFor_0 : decode cX11_branchFor 0 = .ok (.aload_n 2, 1) := by decide +kernel
theorem dX11_branchFor_1 : decode cX11_branchFor 1 = .ok (.getfield 160, 3) := by decide +kernel
theorem dX11_branchFor_4 : decode cX11_branchFor 4 = .ok (.iload_n 3, 1) := by decide +kernel
theorem dX11_branchFor_5 : decode cX11_branchFor 5 = .ok (.iaload, 1) := by decide +kernel
theorem dX11_branchFor_6 : decode cX11_branchFor 6 = .ok (.istore 4, 2) := by decide +kernel
theorem dX11_branchFor_8 : decode cX11_branchFor 8 = .ok (.iload 4, 2) := by decide +kernel
theorem dX11_branchFor_10 : decode cX11_branchFor 10 = .ok (.ifCond .lt 34, 3) := by decide +kernel
theorem dX11_branchFor_13 : decode cX11_branchFor 13 = .ok (.aload_n 0, 1) := by decide +kernel
theorem dX11_branchFor_14 : decode cX11_branchFor 14 = .ok (.iload_n 1, 1) := by decide +kernel
theorem dX11_branchFor_15 : decode cX11_branchFor 15 = .ok (.aload_n 2, 1) := by decide +kernel
theorem dX11_branchFor_16 : decode cX11_branchFor 16 = .ok (.aload_n 2, 1) := by decide +kernel
theorem dX11_branchFor_17 : decode cX11_branchFor 17 = .ok (.getfield 149, 3) := by decide +kernel
theorem dX11_branchFor_20 : decode cX11_branchFor 20 = .ok (.iload 4, 2) := by decide +kernel
theorem dX11_branchFor_22 : decode cX11_branchFor 22 = .ok (.iaload, 1) := by decide +kernel
theorem dX11_branchFor_23 : decode cX11_branchFor 23 = .ok (.invokestatic 208, 3) := by decide +kernel
theorem dX11_branchFor_26 : decode cX11_branchFor 26 = .ok (.ifCond .eq 6, 3) := by decide +kernel
theorem dX11_branchFor_29 : decode cX11_branchFor 29 = .ok (.iload 4, 2) := by decide +kernel
theorem dX11_branchFor_31 : decode cX11_branchFor 31 = .ok (.ireturn, 1) := by decide +kernel
theorem dX11_branchFor_32 : decode cX11_branchFor 32 = .ok (.aload_n 2, 1) := by decide +kernel
theorem dX11_branchFor_33 : decode cX11_branchFor 33 = .ok (.getfield 163, 3) := by decide +kernel
theorem dX11_branchFor_36 : decode cX11_branchFor 36 = .ok (.iload 4, 2) := by decide +kernel
theorem dX11_branchFor_38 : decode cX11_branchFor 38 = .ok (.iaload, 1) := by decide +kernel
theorem dX11_branchFor_39 : decode cX11_branchFor 39 = .ok (.istore 4, 2) := by decide +kernel
theorem dX11_branchFor_41 : decode cX11_branchFor 41 = .ok (.goto (-33), 3) := by decide +kernel
theorem dX11_branchFor_44 : decode cX11_branchFor 44 = .ok (.iconst (-1), 1) := by decide +kernel
theorem dX11_branchFor_45 : decode cX11_branchFor 45 = .ok (.ireturn, 1) := by decide +kernel
theorem dX11_ask_0 : decode cX11_ask 0 = .ok (.aload_n 0, 1) := by decide +kernel
theorem dX11_ask_1 : decode cX11_ask 1 = .ok (.getfield 47, 3) := by decide +kernel
theorem dX11_ask_4 : decode cX11_ask 4 = .ok (.sipush 140, 3) := by decide +kernel
theorem dX11_ask_7 : decode cX11_ask 7 = .ok (.iload_n 1, 1) := by decide +kernel
theorem dX11_ask_8 : decode cX11_ask 8 = .ok (.imul, 1) := by decide +kernel
theorem dX11_ask_9 : decode cX11_ask 9 = .ok (.iload_n 2, 1) := by decide +kernel
theorem dX11_ask_10 : decode cX11_ask 10 = .ok (.iadd, 1) := by decide +kernel
theorem dX11_ask_11 : decode cX11_ask 11 = .ok (.baload, 1) := by decide +kernel
theorem dX11_ask_12 : decode cX11_ask 12 = .ok (.ifCond .ne 42, 3) := by decide +kernel
theorem dX11_ask_15 : decode cX11_ask 15 = .ok (.aload_n 0, 1) := by decide +kernel
theorem dX11_ask_16 : decode cX11_ask 16 = .ok (.getfield 47, 3) := by decide +kernel
theorem dX11_ask_19 : decode cX11_ask 19 = .ok (.sipush 140, 3) := by decide +kernel
theorem dX11_ask_22 : decode cX11_ask 22 = .ok (.iload_n 1, 1) := by decide +kernel
theorem dX11_ask_23 : decode cX11_ask 23 = .ok (.imul, 1) := by decide +kernel
theorem dX11_ask_24 : decode cX11_ask 24 = .ok (.iload_n 2, 1) := by decide +kernel
theorem dX11_ask_25 : decode cX11_ask 25 = .ok (.iadd, 1) := by decide +kernel
theorem dX11_ask_26 : decode cX11_ask 26 = .ok (.iconst 1, 1) := by decide +kernel
theorem dX11_ask_27 : decode cX11_ask 27 = .ok (.bastore, 1) := by decide +kernel
theorem dX11_ask_28 : decode cX11_ask 28 = .ok (.aload_n 0, 1) := by decide +kernel
theorem dX11_ask_29 : decode cX11_ask 29 = .ok (.getfield 51, 3) := by decide +kernel
theorem dX11_ask_32 : decode cX11_ask 32 = .ok (.aload_n 0, 1) := by decide +kernel
theorem dX11_ask_33 : decode cX11_ask 33 = .ok (.getfield 219, 3) := by decide +kernel
theorem dX11_ask_36 : decode cX11_ask 36 = .ok (.sipush 140, 3) := by decide +kernel
theorem dX11_ask_39 : decode cX11_ask 39 = .ok (.iload_n 1, 1) := by decide +kernel
theorem dX11_ask_40 : decode cX11_ask 40 = .ok (.imul, 1) := by decide +kernel
theorem dX11_ask_41 : decode cX11_ask 41 = .ok (.iload_n 2, 1) := by decide +kernel
theorem dX11_ask_42 : decode cX11_ask 42 = .ok (.iadd, 1) := by decide +kernel
theorem dX11_ask_43 : decode cX11_ask 43 = .ok (.iastore, 1) := by decide +kernel
theorem dX11_ask_44 : decode cX11_ask 44 = .ok (.aload_n 0, 1) := by decide +kernel
theorem dX11_ask_45 : decode cX11_ask 45 = .ok (.dup, 1) := by decide +kernel
theorem dX11_ask_46 : decode cX11_ask 46 = .ok (.getfield 219, 3) := by decide +kernel
theorem dX11_ask_49 : decode cX11_ask 49 = .ok (.iconst 1, 1) := by decide +kernel
theorem dX11_ask_50 : decode cX11_ask 50 = .ok (.iadd, 1) := by decide +kernel
theorem dX11_ask_51 : decode cX11_ask 51 = .ok (.putfield 219, 3) := by decide +kernel
theorem dX11_ask_54 : decode cX11_ask 54 = .ok (.return_, 1) := by decide +kernel
theorem dX11_fitsAll_0 : decode cX11_fitsAll 0 = .ok (.iconst 0, 1) := by decide +kernel
theorem dX11_fitsAll_1 : decode cX11_fitsAll 1 = .ok (.istore_n 3, 1) := by decide +kernel
theorem dX11_fitsAll_2 : decode cX11_fitsAll 2 = .ok (.iload_n 3, 1) := by decide +kernel
theorem dX11_fitsAll_3 : decode cX11_fitsAll 3 = .ok (.sipush 19600, 3) := by decide +kernel
theorem dX11_fitsAll_6 : decode cX11_fitsAll 6 = .ok (.if_icmp .ge 16, 3) := by decide +kernel
theorem dX11_fitsAll_9 : decode cX11_fitsAll 9 = .ok (.aload_n 0, 1) := by decide +kernel
theorem dX11_fitsAll_10 : decode cX11_fitsAll 10 = .ok (.getfield 47, 3) := by decide +kernel
theorem dX11_fitsAll_13 : decode cX11_fitsAll 13 = .ok (.iload_n 3, 1) := by decide +kernel
theorem dX11_fitsAll_14 : decode cX11_fitsAll 14 = .ok (.iconst 0, 1) := by decide +kernel
theorem dX11_fitsAll_15 : decode cX11_fitsAll 15 = .ok (.bastore, 1) := by decide +kernel
theorem dX11_fitsAll_16 : decode cX11_fitsAll 16 = .ok (.iinc 3 1, 3) := by decide +kernel
theorem dX11_fitsAll_19 : decode cX11_fitsAll 19 = .ok (.goto (-17), 3) := by decide +kernel
theorem dX11_fitsAll_22 : decode cX11_fitsAll 22 = .ok (.aload_n 0, 1) := by decide +kernel
theorem dX11_fitsAll_23 : decode cX11_fitsAll 23 = .ok (.iconst 0, 1) := by decide +kernel
theorem dX11_fitsAll_24 : decode cX11_fitsAll 24 = .ok (.putfield 219, 3) := by decide +kernel
theorem dX11_fitsAll_27 : decode cX11_fitsAll 27 = .ok (.aload_n 0, 1) := by decide +kernel
theorem dX11_fitsAll_28 : decode cX11_fitsAll 28 = .ok (.aload_n 1, 1) := by decide +kernel
theorem dX11_fitsAll_29 : decode cX11_fitsAll 29 = .ok (.getfield 188, 3) := by decide +kernel
theorem dX11_fitsAll_32 : decode cX11_fitsAll 32 = .ok (.aload_n 2, 1) := by decide +kernel
theorem dX11_fitsAll_33 : decode cX11_fitsAll 33 = .ok (.getfield 188, 3) := by decide +kernel
theorem dX11_fitsAll_36 : decode cX11_fitsAll 36 = .ok (.invokevirtual 221, 3) := by decide +kernel
theorem dX11_fitsAll_39 : decode cX11_fitsAll 39 = .ok (.iconst 1, 1) := by decide +kernel
theorem dX11_fitsAll_40 : decode cX11_fitsAll 40 = .ok (.istore_n 3, 1) := by decide +kernel
theorem dX11_fitsAll_41 : decode cX11_fitsAll 41 = .ok (.iconst 0, 1) := by decide +kernel
theorem dX11_fitsAll_42 : decode cX11_fitsAll 42 = .ok (.istore 4, 2) := by decide +kernel
theorem dX11_fitsAll_44 : decode cX11_fitsAll 44 = .ok (.iload 4, 2) := by decide +kernel
theorem dX11_fitsAll_46 : decode cX11_fitsAll 46 = .ok (.aload_n 0, 1) := by decide +kernel
theorem dX11_fitsAll_47 : decode cX11_fitsAll 47 = .ok (.getfield 219, 3) := by decide +kernel
theorem dX11_fitsAll_50 : decode cX11_fitsAll 50 = .ok (.if_icmp .ge 42, 3) := by decide +kernel
theorem dX11_fitsAll_53 : decode cX11_fitsAll 53 = .ok (.iload_n 3, 1) := by decide +kernel
theorem dX11_fitsAll_54 : decode cX11_fitsAll 54 = .ok (.ifCond .eq 38, 3) := by decide +kernel
theorem dX11_fitsAll_57 : decode cX11_fitsAll 57 = .ok (.aload_n 0, 1) := by decide +kernel
theorem dX11_fitsAll_58 : decode cX11_fitsAll 58 = .ok (.aload_n 1, 1) := by decide +kernel
theorem dX11_fitsAll_59 : decode cX11_fitsAll 59 = .ok (.aload_n 0, 1) := by decide +kernel
theorem dX11_fitsAll_60 : decode cX11_fitsAll 60 = .ok (.getfield 51, 3) := by decide +kernel
theorem dX11_fitsAll_63 : decode cX11_fitsAll 63 = .ok (.iload 4, 2) := by decide +kernel
theorem dX11_fitsAll_65 : decode cX11_fitsAll 65 = .ok (.iaload, 1) := by decide +kernel
theorem dX11_fitsAll_66 : decode cX11_fitsAll 66 = .ok (.sipush 140, 3) := by decide +kernel
theorem dX11_fitsAll_69 : decode cX11_fitsAll 69 = .ok (.idiv, 1) := by decide +kernel
theorem dX11_fitsAll_70 : decode cX11_fitsAll 70 = .ok (.aload_n 2, 1) := by decide +kernel
theorem dX11_fitsAll_71 : decode cX11_fitsAll 71 = .ok (.aload_n 0, 1) := by decide +kernel
theorem dX11_fitsAll_72 : decode cX11_fitsAll 72 = .ok (.getfield 51, 3) := by decide +kernel
theorem dX11_fitsAll_75 : decode cX11_fitsAll 75 = .ok (.iload 4, 2) := by decide +kernel
theorem dX11_fitsAll_77 : decode cX11_fitsAll 77 = .ok (.iaload, 1) := by decide +kernel
theorem dX11_fitsAll_78 : decode cX11_fitsAll 78 = .ok (.sipush 140, 3) := by decide +kernel
theorem dX11_fitsAll_81 : decode cX11_fitsAll 81 = .ok (.irem, 1) := by decide +kernel
theorem dX11_fitsAll_82 : decode cX11_fitsAll 82 = .ok (.invokevirtual 224, 3) := by decide +kernel
theorem dX11_fitsAll_85 : decode cX11_fitsAll 85 = .ok (.istore_n 3, 1) := by decide +kernel
theorem dX11_fitsAll_86 : decode cX11_fitsAll 86 = .ok (.iinc 4 1, 3) := by decide +kernel
theorem dX11_fitsAll_89 : decode cX11_fitsAll 89 = .ok (.goto (-45), 3) := by decide +kernel
theorem dX11_fitsAll_92 : decode cX11_fitsAll 92 = .ok (.iload_n 3, 1) := by decide +kernel
theorem dX11_fitsAll_93 : decode cX11_fitsAll 93 = .ok (.ireturn, 1) := by decide +kernel
theorem dX11_may_0 : decode cX11_may 0 = .ok (.aload_n 1, 1) := by decide +kernel
theorem dX11_may_1 : decode cX11_may 1 = .ok (.getfield 132, 3) := by decide +kernel
theorem dX11_may_4 : decode cX11_may 4 = .ok (.iload_n 2, 1) := by decide +kernel
theorem dX11_may_5 : decode cX11_may 5 = .ok (.iaload, 1) := by decide +kernel
theorem dX11_may_6 : decode cX11_may 6 = .ok (.istore 5, 2) := by decide +kernel
theorem dX11_may_8 : decode cX11_may 8 = .ok (.iload 5, 2) := by decide +kernel
theorem dX11_may_10 : decode cX11_may 10 = .ok (.bipush 8, 2) := by decide +kernel
theorem dX11_may_12 : decode cX11_may 12 = .ok (.if_icmp .ne 43, 3) := by decide +kernel
theorem dX11_may_15 : decode cX11_may 15 = .ok (.aload_n 1, 1) := by decide +kernel
theorem dX11_may_16 : decode cX11_may 16 = .ok (.getfield 160, 3) := by decide +kernel
theorem dX11_may_19 : decode cX11_may 19 = .ok (.iload_n 2, 1) := by decide +kernel
theorem dX11_may_20 : decode cX11_may 20 = .ok (.iaload, 1) := by decide +kernel
theorem dX11_may_21 : decode cX11_may 21 = .ok (.istore 6, 2) := by decide +kernel
theorem dX11_may_23 : decode cX11_may 23 = .ok (.iload 6, 2) := by decide +kernel
theorem dX11_may_25 : decode cX11_may 25 = .ok (.ifCond .lt 28, 3) := by decide +kernel
theorem dX11_may_28 : decode cX11_may 28 = .ok (.aload_n 0, 1) := by decide +kernel
theorem dX11_may_29 : decode cX11_may 29 = .ok (.aload_n 1, 1) := by decide +kernel
theorem dX11_may_30 : decode cX11_may 30 = .ok (.getfield 149, 3) := by decide +kernel
theorem dX11_may_33 : decode cX11_may 33 = .ok (.iload 6, 2) := by decide +kernel
theorem dX11_may_35 : decode cX11_may 35 = .ok (.iaload, 1) := by decide +kernel
theorem dX11_may_36 : decode cX11_may 36 = .ok (.iload 4, 2) := by decide +kernel
theorem dX11_may_38 : decode cX11_may 38 = .ok (.invokevirtual 221, 3) := by decide +kernel
theorem dX11_may_41 : decode cX11_may 41 = .ok (.aload_n 1, 1) := by decide +kernel
theorem dX11_may_42 : decode cX11_may 42 = .ok (.getfield 163, 3) := by decide +kernel
theorem dX11_may_45 : decode cX11_may 45 = .ok (.iload 6, 2) := by decide +kernel
theorem dX11_may_47 : decode cX11_may 47 = .ok (.iaload, 1) := by decide +kernel
theorem dX11_may_48 : decode cX11_may 48 = .ok (.istore 6, 2) := by decide +kernel
theorem dX11_may_50 : decode cX11_may 50 = .ok (.goto (-27), 3) := by decide +kernel
theorem dX11_may_53 : decode cX11_may 53 = .ok (.iconst 1, 1) := by decide +kernel
theorem dX11_may_54 : decode cX11_may 54 = .ok (.ireturn, 1) := by decide +kernel
theorem dX11_may_55 : decode cX11_may 55 = .ok (.aload_n 3, 1) := by decide +kernel
theorem dX11_may_56 : decode cX11_may 56 = .ok (.getfield 132, 3) := by decide +kernel
theorem dX11_may_59 : decode cX11_may 59 = .ok (.iload 4, 2) := by decide +kernel
theorem dX11_may_61 : decode cX11_may 61 = .ok (.iaload, 1) := by decide +kernel
theorem dX11_may_62 : decode cX11_may 62 = .ok (.bipush 8, 2) := by decide +kernel
theorem dX11_may_64 : decode cX11_may 64 = .ok (.if_icmp .ne 41, 3) := by decide +kernel
theorem dX11_may_67 : decode cX11_may 67 = .ok (.aload_n 1, 1) := by decide +kernel
theorem dX11_may_68 : decode cX11_may 68 = .ok (.iload_n 2, 1) := by decide +kernel
theorem dX11_may_69 : decode cX11_may 69 = .ok (.aload_n 3, 1) := by decide +kernel
theorem dX11_may_70 : decode cX11_may 70 = .ok (.iload 4, 2) := by decide +kernel
theorem dX11_may_72 : decode cX11_may 72 = .ok (.invokestatic 227, 3) := by decide +kernel
theorem dX11_may_75 : decode cX11_may 75 = .ok (.istore 6, 2) := by decide +kernel
theorem dX11_may_77 : decode cX11_may 77 = .ok (.iload 6, 2) := by decide +kernel
theorem dX11_may_79 : decode cX11_may 79 = .ok (.ifCond .lt 15, 3) := by decide +kernel
theorem dX11_may_82 : decode cX11_may 82 = .ok (.aload_n 0, 1) := by decide +kernel
theorem dX11_may_83 : decode cX11_may 83 = .ok (.iload_n 2, 1) := by decide +kernel
theorem dX11_may_84 : decode cX11_may 84 = .ok (.aload_n 3, 1) := by decide +kernel
theorem dX11_may_85 : decode cX11_may 85 = .ok (.getfield 149, 3) := by decide +kernel
theorem dX11_may_88 : decode cX11_may 88 = .ok (.iload 6, 2) := by decide +kernel
theorem dX11_may_90 : decode cX11_may 90 = .ok (.iaload, 1) := by decide +kernel
theorem dX11_may_91 : decode cX11_may 91 = .ok (.invokevirtual 221, 3) := by decide +kernel
theorem dX11_may_94 : decode cX11_may 94 = .ok (.iload 6, 2) := by decide +kernel
theorem dX11_may_96 : decode cX11_may 96 = .ok (.ifCond .lt 7, 3) := by decide +kernel
theorem dX11_may_99 : decode cX11_may 99 = .ok (.iconst 1, 1) := by decide +kernel
theorem dX11_may_100 : decode cX11_may 100 = .ok (.goto 4, 3) := by decide +kernel
theorem dX11_may_103 : decode cX11_may 103 = .ok (.iconst 0, 1) := by decide +kernel
theorem dX11_may_104 : decode cX11_may 104 = .ok (.ireturn, 1) := by decide +kernel
theorem dX11_may_105 : decode cX11_may 105 = .ok (.iload 5, 2) := by decide +kernel
theorem dX11_may_107 : decode cX11_may 107 = .ok (.invokestatic 201, 3) := by decide +kernel
theorem dX11_may_110 : decode cX11_may 110 = .ok (.ifCond .ne 16, 3) := by decide +kernel
theorem dX11_may_113 : decode cX11_may 113 = .ok (.aload_n 3, 1) := by decide +kernel
theorem dX11_may_114 : decode cX11_may 114 = .ok (.getfield 132, 3) := by decide +kernel
theorem dX11_may_117 : decode cX11_may 117 = .ok (.iload 4, 2) := by decide +kernel
theorem dX11_may_119 : decode cX11_may 119 = .ok (.iaload, 1) := by decide +kernel
theorem dX11_may_120 : decode cX11_may 120 = .ok (.invokestatic 201, 3) := by decide +kernel
theorem dX11_may_123 : decode cX11_may 123 = .ok (.ifCond .eq 45, 3) := by decide +kernel
theorem dX11_may_126 : decode cX11_may 126 = .ok (.iload 5, 2) := by decide +kernel
theorem dX11_may_128 : decode cX11_may 128 = .ok (.invokestatic 201, 3) := by decide +kernel
theorem dX11_may_131 : decode cX11_may 131 = .ok (.ifCond .eq 35, 3) := by decide +kernel
theorem dX11_may_134 : decode cX11_may 134 = .ok (.aload_n 3, 1) := by decide +kernel
theorem dX11_may_135 : decode cX11_may 135 = .ok (.getfield 132, 3) := by decide +kernel
theorem dX11_may_138 : decode cX11_may 138 = .ok (.iload 4, 2) := by decide +kernel
theorem dX11_may_140 : decode cX11_may 140 = .ok (.iaload, 1) := by decide +kernel
theorem dX11_may_141 : decode cX11_may 141 = .ok (.invokestatic 201, 3) := by decide +kernel
theorem dX11_may_144 : decode cX11_may 144 = .ok (.ifCond .eq 22, 3) := by decide +kernel
theorem dX11_may_147 : decode cX11_may 147 = .ok (.iload 5, 2) := by decide +kernel
theorem dX11_may_149 : decode cX11_may 149 = .ok (.aload_n 3, 1) := by decide +kernel
theorem dX11_may_150 : decode cX11_may 150 = .ok (.getfield 132, 3) := by decide +kernel
theorem dX11_may_153 : decode cX11_may 153 = .ok (.iload 4, 2) := by decide +kernel
theorem dX11_may_155 : decode cX11_may 155 = .ok (.iaload, 1) := by decide +kernel
theorem dX11_may_156 : decode cX11_may 156 = .ok (.invokestatic 204, 3) := by decide +kernel
theorem dX11_may_159 : decode cX11_may 159 = .ok (.ifCond .eq 7, 3) := by decide +kernel
theorem dX11_may_162 : decode cX11_may 162 = .ok (.iconst 1, 1) := by decide +kernel
theorem dX11_may_163 : decode cX11_may 163 = .ok (.goto 4, 3) := by decide +kernel
theorem dX11_may_166 : decode cX11_may 166 = .ok (.iconst 0, 1) := by decide +kernel
theorem dX11_may_167 : decode cX11_may 167 = .ok (.ireturn, 1) := by decide +kernel
theorem dX11_may_168 : decode cX11_may 168 = .ok (.iload 5, 2) := by decide +kernel
theorem dX11_may_170 : decode cX11_may 170 = .ok (.aload_n 3, 1) := by decide +kernel
theorem dX11_may_171 : decode cX11_may 171 = .ok (.getfield 132, 3) := by decide +kernel
theorem dX11_may_174 : decode cX11_may 174 = .ok (.iload 4, 2) := by decide +kernel
theorem dX11_may_176 : decode cX11_may 176 = .ok (.iaload, 1) := by decide +kernel
theorem dX11_may_177 : decode cX11_may 177 = .ok (.if_icmp .eq 5, 3) := by decide +kernel
theorem dX11_may_180 : decode cX11_may 180 = .ok (.iconst 0, 1) := by decide +kernel
theorem dX11_may_181 : decode cX11_may 181 = .ok (.ireturn, 1) := by decide +kernel
theorem dX11_may_182 : decode cX11_may 182 = .ok (.iload 5, 2) := by decide +kernel
theorem dX11_may_184 : decode cX11_may 184 = .ok (.bipush 6, 2) := by decide +kernel
theorem dX11_may_186 : decode cX11_may 186 = .ok (.if_icmp .eq 10, 3) := by decide +kernel
theorem dX11_may_189 : decode cX11_may 189 = .ok (.iload 5, 2) := by decide +kernel
theorem dX11_may_191 : decode cX11_may 191 = .ok (.bipush 7, 2) := by decide +kernel
theorem dX11_may_193 : decode cX11_may 193 = .ok (.if_icmp .ne 32, 3) := by decide +kernel
theorem dX11_may_196 : decode cX11_may 196 = .ok (.aload_n 0, 1) := by decide +kernel
theorem dX11_may_197 : decode cX11_may 197 = .ok (.aload_n 1, 1) := by decide +kernel
theorem dX11_may_198 : decode cX11_may 198 = .ok (.getfield 149, 3) := by decide +kernel
theorem dX11_may_201 : decode cX11_may 201 = .ok (.aload_n 1, 1) := by decide +kernel
theorem dX11_may_202 : decode cX11_may 202 = .ok (.getfield 160, 3) := by decide +kernel
theorem dX11_may_205 : decode cX11_may 205 = .ok (.iload_n 2, 1) := by decide +kernel
theorem dX11_may_206 : decode cX11_may 206 = .ok (.iaload, 1) := by decide +kernel
theorem dX11_may_207 : decode cX11_may 207 = .ok (.iaload, 1) := by decide +kernel
theorem dX11_may_208 : decode cX11_may 208 = .ok (.aload_n 3, 1) := by decide +kernel
theorem dX11_may_209 : decode cX11_may 209 = .ok (.getfield 149, 3) := by decide +kernel
theorem dX11_may_212 : decode cX11_may 212 = .ok (.aload_n 3, 1) := by decide +kernel
theorem dX11_may_213 : decode cX11_may 213 = .ok (.getfield 160, 3) := by decide +kernel
theorem dX11_may_216 : decode cX11_may 216 = .ok (.iload 4, 2) := by decide +kernel
theorem dX11_may_218 : decode cX11_may 218 = .ok (.iaload, 1) := by decide +kernel
theorem dX11_may_219 : decode cX11_may 219 = .ok (.iaload, 1) := by decide +kernel
theorem dX11_may_220 : decode cX11_may 220 = .ok (.invokevirtual 221, 3) := by decide +kernel
theorem dX11_may_223 : decode cX11_may 223 = .ok (.iconst 1, 1) := by decide +kernel
theorem dX11_may_224 : decode cX11_may 224 = .ok (.ireturn, 1) := by decide +kernel
theorem dX11_may_225 : decode cX11_may 225 = .ok (.aload_n 1, 1) := by decide +kernel
theorem dX11_may_226 : decode cX11_may 226 = .ok (.iload_n 2, 1) := by decide +kernel
theorem dX11_may_227 : decode cX11_may 227 = .ok (.aload_n 3, 1) := by decide +kernel
theorem dX11_may_228 : decode cX11_may 228 = .ok (.iload 4, 2) := by decide +kernel
theorem dX11_may_230 : decode cX11_may 230 = .ok (.invokestatic 208, 3) := by decide +kernel
theorem dX11_may_233 : decode cX11_may 233 = .ok (.ifCond .ne 5, 3) := by decide +kernel
theorem dX11_may_236 : decode cX11_may 236 = .ok (.iconst 0, 1) := by decide +kernel
theorem dX11_may_237 : decode cX11_may 237 = .ok (.ireturn, 1) := by decide +kernel
theorem dX11_may_238 : decode cX11_may 238 = .ok (.iload 5, 2) := by decide +kernel
theorem dX11_may_240 : decode cX11_may 240 = .ok (.bipush 10, 2) := by decide +kernel
theorem dX11_may_242 : decode cX11_may 242 = .ok (.if_icmp .ne 81, 3) := by decide +kernel
theorem dX11_may_245 : decode cX11_may 245 = .ok (.iconst 1, 1) := by decide +kernel
theorem dX11_may_246 : decode cX11_may 246 = .ok (.istore 6, 2) := by decide +kernel
theorem dX11_may_248 : decode cX11_may 248 = .ok (.aload_n 1, 1) := by decide +kernel
theorem dX11_may_249 : decode cX11_may 249 = .ok (.getfield 160, 3) := by decide +kernel
theorem dX11_may_252 : decode cX11_may 252 = .ok (.iload_n 2, 1) := by decide +kernel
theorem dX11_may_253 : decode cX11_may 253 = .ok (.iaload, 1) := by decide +kernel
theorem dX11_may_254 : decode cX11_may 254 = .ok (.istore 7, 2) := by decide +kernel
theorem dX11_may_256 : decode cX11_may 256 = .ok (.iload 7, 2) := by decide +kernel
theorem dX11_may_258 : decode cX11_may 258 = .ok (.ifCond .lt 44, 3) := by decide +kernel
theorem dX11_may_261 : decode cX11_may 261 = .ok (.iload 6, 2) := by decide +kernel
theorem dX11_may_263 : decode cX11_may 263 = .ok (.ifCond .eq 24, 3) := by decide +kernel
theorem dX11_may_266 : decode cX11_may 266 = .ok (.aload_n 3, 1) := by decide +kernel
theorem dX11_may_267 : decode cX11_may 267 = .ok (.iload 4, 2) := by decide +kernel
theorem dX11_may_269 : decode cX11_may 269 = .ok (.aload_n 1, 1) := by decide +kernel
theorem dX11_may_270 : decode cX11_may 270 = .ok (.aload_n 1, 1) := by decide +kernel
theorem dX11_may_271 : decode cX11_may 271 = .ok (.getfield 231, 3) := by decide +kernel
theorem dX11_may_274 : decode cX11_may 274 = .ok (.iload 7, 2) := by decide +kernel
theorem dX11_may_276 : decode cX11_may 276 = .ok (.iaload, 1) := by decide +kernel
theorem dX11_may_277 : decode cX11_may 277 = .ok (.invokevirtual 234, 3) := by decide +kernel
theorem dX11_may_280 : decode cX11_may 280 = .ok (.ifCond .lt 7, 3) := by decide +kernel
theorem dX11_may_283 : decode cX11_may 283 = .ok (.iconst 1, 1) := by decide +kernel
theorem dX11_may_284 : decode cX11_may 284 = .ok (.goto 4, 3) := by decide +kernel
theorem dX11_may_287 : decode cX11_may 287 = .ok (.iconst 0, 1) := by decide +kernel
theorem dX11_may_288 : decode cX11_may 288 = .ok (.istore 6, 2) := by decide +kernel
theorem dX11_may_290 : decode cX11_may 290 = .ok (.aload_n 1, 1) := by decide +kernel
theorem dX11_may_291 : decode cX11_may 291 = .ok (.getfield 163, 3) := by decide +kernel
theorem dX11_may_294 : decode cX11_may 294 = .ok (.iload 7, 2) := by decide +kernel
theorem dX11_may_296 : decode cX11_may 296 = .ok (.iaload, 1) := by decide +kernel
theorem dX11_may_297 : decode cX11_may 297 = .ok (.istore 7, 2) := by decide +kernel
theorem dX11_may_299 : decode cX11_may 299 = .ok (.goto (-43), 3) := by decide +kernel
theorem dX11_may_302 : decode cX11_may 302 = .ok (.aload_n 3, 1) := by decide +kernel
theorem dX11_may_303 : decode cX11_may 303 = .ok (.getfield 238, 3) := by decide +kernel
theorem dX11_may_306 : decode cX11_may 306 = .ok (.iload 4, 2) := by decide +kernel
theorem dX11_may_308 : decode cX11_may 308 = .ok (.iaload, 1) := by decide +kernel
theorem dX11_may_309 : decode cX11_may 309 = .ok (.ifCond .ge 8, 3) := by decide +kernel
theorem dX11_may_312 : decode cX11_may 312 = .ok (.iload 6, 2) := by decide +kernel
theorem dX11_may_314 : decode cX11_may 314 = .ok (.ifCond .eq 7, 3) := by decide +kernel
theorem dX11_may_317 : decode cX11_may 317 = .ok (.iconst 1, 1) := by decide +kernel
theorem dX11_may_318 : decode cX11_may 318 = .ok (.goto 4, 3) := by decide +kernel
theorem dX11_may_321 : decode cX11_may 321 = .ok (.iconst 0, 1) := by decide +kernel
theorem dX11_may_322 : decode cX11_may 322 = .ok (.ireturn, 1) := by decide +kernel
theorem dX11_may_323 : decode cX11_may 323 = .ok (.iconst 1, 1) := by decide +kernel
theorem dX11_may_324 : decode cX11_may 324 = .ok (.istore 6, 2) := by decide +kernel
theorem dX11_may_326 : decode cX11_may 326 = .ok (.aload_n 3, 1) := by decide +kernel
theorem dX11_may_327 : decode cX11_may 327 = .ok (.getfield 160, 3) := by decide +kernel
theorem dX11_may_330 : decode cX11_may 330 = .ok (.iload 4, 2) := by decide +kernel
theorem dX11_may_332 : decode cX11_may 332 = .ok (.iaload, 1) := by decide +kernel
theorem dX11_may_333 : decode cX11_may 333 = .ok (.istore 7, 2) := by decide +kernel
theorem dX11_may_335 : decode cX11_may 335 = .ok (.iload 7, 2) := by decide +kernel
theorem dX11_may_337 : decode cX11_may 337 = .ok (.ifCond .lt 82, 3) := by decide +kernel
theorem dX11_may_340 : decode cX11_may 340 = .ok (.iload 5, 2) := by decide +kernel
theorem dX11_may_342 : decode cX11_may 342 = .ok (.bipush 11, 2) := by decide +kernel
theorem dX11_may_344 : decode cX11_may 344 = .ok (.if_icmp .ne 75, 3) := by decide +kernel
theorem dX11_may_347 : decode cX11_may 347 = .ok (.aload_n 1, 1) := by decide +kernel
theorem dX11_may_348 : decode cX11_may 348 = .ok (.iload_n 2, 1) := by decide +kernel
theorem dX11_may_349 : decode cX11_may 349 = .ok (.aload_n 3, 1) := by decide +kernel
theorem dX11_may_350 : decode cX11_may 350 = .ok (.iload 7, 2) := by decide +kernel
theorem dX11_may_352 : decode cX11_may 352 = .ok (.invokestatic 241, 3) := by decide +kernel
theorem dX11_may_355 : decode cX11_may 355 = .ok (.istore 8, 2) := by decide +kernel
theorem dX11_may_357 : decode cX11_may 357 = .ok (.iload 8, 2) := by decide +kernel
theorem dX11_may_359 : decode cX11_may 359 = .ok (.ifCond .lt 21, 3) := by decide +kernel
theorem dX11_may_362 : decode cX11_may 362 = .ok (.aload_n 0, 1) := by decide +kernel
theorem dX11_may_363 : decode cX11_may 363 = .ok (.aload_n 1, 1) := by decide +kernel
theorem dX11_may_364 : decode cX11_may 364 = .ok (.getfield 149, 3) := by decide +kernel
theorem dX11_may_367 : decode cX11_may 367 = .ok (.iload 8, 2) := by decide +kernel
theorem dX11_may_369 : decode cX11_may 369 = .ok (.iaload, 1) := by decide +kernel
theorem dX11_may_370 : decode cX11_may 370 = .ok (.aload_n 3, 1) := by decide +kernel
theorem dX11_may_371 : decode cX11_may 371 = .ok (.getfield 149, 3) := by decide +kernel
theorem dX11_may_374 : decode cX11_may 374 = .ok (.iload 7, 2) := by decide +kernel
theorem dX11_may_376 : decode cX11_may 376 = .ok (.iaload, 1) := by decide +kernel
theorem dX11_may_377 : decode cX11_may 377 = .ok (.invokevirtual 221, 3) := by decide +kernel
theorem dX11_may_380 : decode cX11_may 380 = .ok (.iload 6, 2) := by decide +kernel
theorem dX11_may_382 : decode cX11_may 382 = .ok (.ifCond .eq 22, 3) := by decide +kernel
theorem dX11_may_385 : decode cX11_may 385 = .ok (.iload 8, 2) := by decide +kernel
theorem dX11_may_387 : decode cX11_may 387 = .ok (.ifCond .ge 13, 3) := by decide +kernel
theorem dX11_may_390 : decode cX11_may 390 = .ok (.aload_n 3, 1) := by decide +kernel
theorem dX11_may_391 : decode cX11_may 391 = .ok (.getfield 244, 3) := by decide +kernel
theorem dX11_may_394 : decode cX11_may 394 = .ok (.iload 7, 2) := by decide +kernel
theorem dX11_may_396 : decode cX11_may 396 = .ok (.iaload, 1) := by decide +kernel
theorem dX11_may_397 : decode cX11_may 397 = .ok (.ifCond .lt 7, 3) := by decide +kernel
theorem dX11_may_400 : decode cX11_may 400 = .ok (.iconst 1, 1) := by decide +kernel
theorem dX11_may_401 : decode cX11_may 401 = .ok (.goto 4, 3) := by decide +kernel
theorem dX11_may_404 : decode cX11_may 404 = .ok (.iconst 0, 1) := by decide +kernel
theorem dX11_may_405 : decode cX11_may 405 = .ok (.istore 6, 2) := by decide +kernel
theorem dX11_may_407 : decode cX11_may 407 = .ok (.aload_n 3, 1) := by decide +kernel
theorem dX11_may_408 : decode cX11_may 408 = .ok (.getfield 163, 3) := by decide +kernel
theorem dX11_may_411 : decode cX11_may 411 = .ok (.iload 7, 2) := by decide +kernel
theorem dX11_may_413 : decode cX11_may 413 = .ok (.iaload, 1) := by decide +kernel
theorem dX11_may_414 : decode cX11_may 414 = .ok (.istore 7, 2) := by decide +kernel
theorem dX11_may_416 : decode cX11_may 416 = .ok (.goto (-81), 3) := by decide +kernel
theorem dX11_may_419 : decode cX11_may 419 = .ok (.iload 6, 2) := by decide +kernel
theorem dX11_may_421 : decode cX11_may 421 = .ok (.ireturn, 1) := by decide +kernel
theorem dX11_fieldLike_0 : decode cX11_fieldLike 0 = .ok (.aload_n 0, 1) := by decide +kernel
theorem dX11_fieldLike_1 : decode cX11_fieldLike 1 = .ok (.getfield 160, 3) := by decide +kernel
theorem dX11_fieldLike_4 : decode cX11_fieldLike 4 = .ok (.iload_n 1, 1) := by decide +kernel
theorem dX11_fieldLike_5 : decode cX11_fieldLike 5 = .ok (.iaload, 1) := by decide +kernel
theorem dX11_fieldLike_6 : decode cX11_fieldLike 6 = .ok (.istore 4, 2) := by decide +kernel
theorem dX11_fieldLike_8 : decode cX11_fieldLike 8 = .ok (.iload 4, 2) := by decide +kernel
theorem dX11_fieldLike_10 : decode cX11_fieldLike 10 = .ok (.ifCond .lt 39, 3) := by decide +kernel
theorem dX11_fieldLike_13 : decode cX11_fieldLike 13 = .ok (.aload_n 0, 1) := by decide +kernel
theorem dX11_fieldLike_14 : decode cX11_fieldLike 14 = .ok (.aload_n 0, 1) := by decide +kernel
theorem dX11_fieldLike_15 : decode cX11_fieldLike 15 = .ok (.getfield 231, 3) := by decide +kernel
theorem dX11_fieldLike_18 : decode cX11_fieldLike 18 = .ok (.iload 4, 2) := by decide +kernel
theorem dX11_fieldLike_20 : decode cX11_fieldLike 20 = .ok (.iaload, 1) := by decide +kernel
theorem dX11_fieldLike_21 : decode cX11_fieldLike 21 = .ok (.aload_n 2, 1) := by decide +kernel
theorem dX11_fieldLike_22 : decode cX11_fieldLike 22 = .ok (.aload_n 2, 1) := by decide +kernel
theorem dX11_fieldLike_23 : decode cX11_fieldLike 23 = .ok (.getfield 231, 3) := by decide +kernel
theorem dX11_fieldLike_26 : decode cX11_fieldLike 26 = .ok (.iload_n 3, 1) := by decide +kernel
theorem dX11_fieldLike_27 : decode cX11_fieldLike 27 = .ok (.iaload, 1) := by decide +kernel
theorem dX11_fieldLike_28 : decode cX11_fieldLike 28 = .ok (.invokevirtual 215, 3) := by decide +kernel
theorem dX11_fieldLike_31 : decode cX11_fieldLike 31 = .ok (.ifCond .eq 6, 3) := by decide +kernel
theorem dX11_fieldLike_34 : decode cX11_fieldLike 34 = .ok (.iload 4, 2) := by decide +kernel
theorem dX11_fieldLike_36 : decode cX11_fieldLike 36 = .ok (.ireturn, 1) := by decide +kernel
theorem dX11_fieldLike_37 : decode cX11_fieldLike 37 = .ok (.aload_n 0, 1) := by decide +kernel
theorem dX11_fieldLike_38 : decode cX11_fieldLike 38 = .ok (.getfield 163, 3) := by decide +kernel
theorem dX11_fieldLike_41 : decode cX11_fieldLike 41 = .ok (.iload 4, 2) := by decide +kernel
theorem dX11_fieldLike_43 : decode cX11_fieldLike 43 = .ok (.iaload, 1) := by decide +kernel
theorem dX11_fieldLike_44 : decode cX11_fieldLike 44 = .ok (.istore 4, 2) := by decide +kernel
theorem dX11_fieldLike_46 : decode cX11_fieldLike 46 = .ok (.goto (-38), 3) := by decide +kernel
theorem dX11_fieldLike_49 : decode cX11_fieldLike 49 = .ok (.iconst (-1), 1) := by decide +kernel
theorem dX11_fieldLike_50 : decode cX11_fieldLike 50 = .ok (.ireturn, 1) := by decide +kernel
theorem dX11_tellByte_0 : decode cX11_tellByte 0 = .ok (.aload_n 0, 1) := by decide +kernel
theorem dX11_tellByte_1 : decode cX11_tellByte 1 = .ok (.getfield 115, 3) := by decide +kernel
theorem dX11_tellByte_4 : decode cX11_tellByte 4 = .ok (.aload_n 0, 1) := by decide +kernel
theorem dX11_tellByte_5 : decode cX11_tellByte 5 = .ok (.getfield 247, 3) := by decide +kernel
theorem dX11_tellByte_8 : decode cX11_tellByte 8 = .ok (.if_icmp .ne 10, 3) := by decide +kernel
theorem dX11_tellByte_11 : decode cX11_tellByte 11 = .ok (.aload_n 0, 1) := by decide +kernel
theorem dX11_tellByte_12 : decode cX11_tellByte 12 = .ok (.bipush 31, 2) := by decide +kernel
theorem dX11_tellByte_14 : decode cX11_tellByte 14 = .ok (.iconst 0, 1) := by decide +kernel
theorem dX11_tellByte_15 : decode cX11_tellByte 15 = .ok (.invokevirtual 102, 3) := by decide +kernel
theorem dX11_tellByte_18 : decode cX11_tellByte 18 = .ok (.aload_n 0, 1) := by decide +kernel
theorem dX11_tellByte_19 : decode cX11_tellByte 19 = .ok (.getfield 44, 3) := by decide +kernel
theorem dX11_tellByte_22 : decode cX11_tellByte 22 = .ok (.aload_n 0, 1) := by decide +kernel
theorem dX11_tellByte_23 : decode cX11_tellByte 23 = .ok (.getfield 115, 3) := by decide +kernel
theorem dX11_tellByte_26 : decode cX11_tellByte 26 = .ok (.iload_n 1, 1) := by decide +kernel
theorem dX11_tellByte_27 : decode cX11_tellByte 27 = .ok (.i2b, 1) := by decide +kernel
theorem dX11_tellByte_28 : decode cX11_tellByte 28 = .ok (.bastore, 1) := by decide +kernel
theorem dX11_tellByte_29 : decode cX11_tellByte 29 = .ok (.aload_n 0, 1) := by decide +kernel
theorem dX11_tellByte_30 : decode cX11_tellByte 30 = .ok (.dup, 1) := by decide +kernel
theorem dX11_tellByte_31 : decode cX11_tellByte 31 = .ok (.getfield 115, 3) := by decide +kernel
theorem dX11_tellByte_34 : decode cX11_tellByte 34 = .ok (.iconst 1, 1) := by decide +kernel
theorem dX11_tellByte_35 : decode cX11_tellByte 35 = .ok (.iadd, 1) := by decide +kernel
theorem dX11_tellByte_36 : decode cX11_tellByte 36 = .ok (.putfield 115, 3) := by decide +kernel
theorem dX11_tellByte_39 : decode cX11_tellByte 39 = .ok (.return_, 1) := by decide +kernel
theorem dX11_tellVarint_0 : decode cX11_tellVarint 0 = .ok (.lload_n 1, 1) := by decide +kernel
theorem dX11_tellVarint_1 : decode cX11_tellVarint 1 = .ok (.iconst 1, 1) := by decide +kernel
theorem dX11_tellVarint_2 : decode cX11_tellVarint 2 = .ok (.lshl, 1) := by decide +kernel
theorem dX11_tellVarint_3 : decode cX11_tellVarint 3 = .ok (.lload_n 1, 1) := by decide +kernel
theorem dX11_tellVarint_4 : decode cX11_tellVarint 4 = .ok (.bipush 63, 2) := by decide +kernel
theorem dX11_tellVarint_6 : decode cX11_tellVarint 6 = .ok (.lshr, 1) := by decide +kernel
theorem dX11_tellVarint_7 : decode cX11_tellVarint 7 = .ok (.lxor, 1) := by decide +kernel
theorem dX11_tellVarint_8 : decode cX11_tellVarint 8 = .ok (.lstore_n 3, 1) := by decide +kernel
theorem dX11_tellVarint_9 : decode cX11_tellVarint 9 = .ok (.lload_n 3, 1) := by decide +kernel
theorem dX11_tellVarint_10 : decode cX11_tellVarint 10 = .ok (.bipush 7, 2) := by decide +kernel
theorem dX11_tellVarint_12 : decode cX11_tellVarint 12 = .ok (.lushr, 1) := by decide +kernel
theorem dX11_tellVarint_13 : decode cX11_tellVarint 13 = .ok (.lconst 0, 1) := by decide +kernel
theorem dX11_tellVarint_14 : decode cX11_tellVarint 14 = .ok (.lcmp, 1) := by decide +kernel
theorem dX11_tellVarint_15 : decode cX11_tellVarint 15 = .ok (.ifCond .eq 25, 3) := by decide +kernel
theorem dX11_tellVarint_18 : decode cX11_tellVarint 18 = .ok (.aload_n 0, 1) := by decide +kernel
theorem dX11_tellVarint_19 : decode cX11_tellVarint 19 = .ok (.lload_n 3, 1) := by decide +kernel
theorem dX11_tellVarint_20 : decode cX11_tellVarint 20 = .ok (.ldc2_w 110, 3) := by decide +kernel
theorem dX11_tellVarint_23 : decode cX11_tellVarint 23 = .ok (.land, 1) := by decide +kernel
theorem dX11_tellVarint_24 : decode cX11_tellVarint 24 = .ok (.l2i, 1) := by decide +kernel
theorem dX11_tellVarint_25 : decode cX11_tellVarint 25 = .ok (.sipush 128, 3) := by decide +kernel
theorem dX11_tellVarint_28 : decode cX11_tellVarint 28 = .ok (.ior, 1) := by decide +kernel
theorem dX11_tellVarint_29 : decode cX11_tellVarint 29 = .ok (.invokevirtual 250, 3) := by decide +kernel
theorem dX11_tellVarint_32 : decode cX11_tellVarint 32 = .ok (.lload_n 3, 1) := by decide +kernel
theorem dX11_tellVarint_33 : decode cX11_tellVarint 33 = .ok (.bipush 7, 2) := by decide +kernel
theorem dX11_tellVarint_35 : decode cX11_tellVarint 35 = .ok (.lushr, 1) := by decide +kernel
theorem dX11_tellVarint_36 : decode cX11_tellVarint 36 = .ok (.lstore_n 3, 1) := by decide +kernel
theorem dX11_tellVarint_37 : decode cX11_tellVarint 37 = .ok (.goto (-28), 3) := by decide +kernel
theorem dX11_tellVarint_40 : decode cX11_tellVarint 40 = .ok (.aload_n 0, 1) := by decide +kernel
theorem dX11_tellVarint_41 : decode cX11_tellVarint 41 = .ok (.lload_n 3, 1) := by decide +kernel
theorem dX11_tellVarint_42 : decode cX11_tellVarint 42 = .ok (.l2i, 1) := by decide +kernel
theorem dX11_tellVarint_43 : decode cX11_tellVarint 43 = .ok (.invokevirtual 250, 3) := by decide +kernel
theorem dX11_tellVarint_46 : decode cX11_tellVarint 46 = .ok (.return_, 1) := by decide +kernel
theorem dX11_readVarint_0 : decode cX11_readVarint 0 = .ok (.lconst 0, 1) := by decide +kernel
theorem dX11_readVarint_1 : decode cX11_readVarint 1 = .ok (.lstore_n 1, 1) := by decide +kernel
theorem dX11_readVarint_2 : decode cX11_readVarint 2 = .ok (.iconst 0, 1) := by decide +kernel
theorem dX11_readVarint_3 : decode cX11_readVarint 3 = .ok (.istore_n 3, 1) := by decide +kernel
theorem dX11_readVarint_4 : decode cX11_readVarint 4 = .ok (.sipush 128, 3) := by decide +kernel
theorem dX11_readVarint_7 : decode cX11_readVarint 7 = .ok (.istore 4, 2) := by decide +kernel
theorem dX11_readVarint_9 : decode cX11_readVarint 9 = .ok (.iload 4, 2) := by decide +kernel
theorem dX11_readVarint_11 : decode cX11_readVarint 11 = .ok (.bipush 127, 2) := by decide +kernel
theorem dX11_readVarint_13 : decode cX11_readVarint 13 = .ok (.if_icmp .le 47, 3) := by decide +kernel
theorem dX11_readVarint_16 : decode cX11_readVarint 16 = .ok (.aload_n 0, 1) := by decide +kernel
theorem dX11_readVarint_17 : decode cX11_readVarint 17 = .ok (.getfield 35, 3) := by decide +kernel
theorem dX11_readVarint_20 : decode cX11_readVarint 20 = .ok (.aload_n 0, 1) := by decide +kernel
theorem dX11_readVarint_21 : decode cX11_readVarint 21 = .ok (.getfield 253, 3) := by decide +kernel
theorem dX11_readVarint_24 : decode cX11_readVarint 24 = .ok (.baload, 1) := by decide +kernel
theorem dX11_readVarint_25 : decode cX11_readVarint 25 = .ok (.sipush 255, 3) := by decide +kernel
theorem dX11_readVarint_28 : decode cX11_readVarint 28 = .ok (.iand, 1) := by decide +kernel
theorem dX11_readVarint_29 : decode cX11_readVarint 29 = .ok (.istore 4, 2) := by decide +kernel
theorem dX11_readVarint_31 : decode cX11_readVarint 31 = .ok (.aload_n 0, 1) := by decide +kernel
theorem dX11_readVarint_32 : decode cX11_readVarint 32 = .ok (.dup, 1) := by decide +kernel
theorem dX11_readVarint_33 : decode cX11_readVarint 33 = .ok (.getfield 253, 3) := by decide +kernel
theorem dX11_readVarint_36 : decode cX11_readVarint 36 = .ok (.iconst 1, 1) := by decide +kernel
theorem dX11_readVarint_37 : decode cX11_readVarint 37 = .ok (.iadd, 1) := by decide +kernel
theorem dX11_readVarint_38 : decode cX11_readVarint 38 = .ok (.putfield 253, 3) := by decide +kernel
theorem dX11_readVarint_41 : decode cX11_readVarint 41 = .ok (.lload_n 1, 1) := by decide +kernel
theorem dX11_readVarint_42 : decode cX11_readVarint 42 = .ok (.iload 4, 2) := by decide +kernel
theorem dX11_readVarint_44 : decode cX11_readVarint 44 = .ok (.bipush 127, 2) := by decide +kernel
theorem dX11_readVarint_46 : decode cX11_readVarint 46 = .ok (.iand, 1) := by decide +kernel
theorem dX11_readVarint_47 : decode cX11_readVarint 47 = .ok (.i2l, 1) := by decide +kernel
theorem dX11_readVarint_48 : decode cX11_readVarint 48 = .ok (.iload_n 3, 1) := by decide +kernel
theorem dX11_readVarint_49 : decode cX11_readVarint 49 = .ok (.lshl, 1) := by decide +kernel
theorem dX11_readVarint_50 : decode cX11_readVarint 50 = .ok (.lor, 1) := by decide +kernel
theorem dX11_readVarint_51 : decode cX11_readVarint 51 = .ok (.lstore_n 1, 1) := by decide +kernel
theorem dX11_readVarint_52 : decode cX11_readVarint 52 = .ok (.iload_n 3, 1) := by decide +kernel
theorem dX11_readVarint_53 : decode cX11_readVarint 53 = .ok (.bipush 7, 2) := by decide +kernel
theorem dX11_readVarint_55 : decode cX11_readVarint 55 = .ok (.iadd, 1) := by decide +kernel
theorem dX11_readVarint_56 : decode cX11_readVarint 56 = .ok (.istore_n 3, 1) := by decide +kernel
theorem dX11_readVarint_57 : decode cX11_readVarint 57 = .ok (.goto (-48), 3) := by decide +kernel
theorem dX11_readVarint_60 : decode cX11_readVarint 60 = .ok (.lload_n 1, 1) := by decide +kernel
theorem dX11_readVarint_61 : decode cX11_readVarint 61 = .ok (.iconst 1, 1) := by decide +kernel
theorem dX11_readVarint_62 : decode cX11_readVarint 62 = .ok (.lushr, 1) := by decide +kernel
theorem dX11_readVarint_63 : decode cX11_readVarint 63 = .ok (.lload_n 1, 1) := by decide +kernel
theorem dX11_readVarint_64 : decode cX11_readVarint 64 = .ok (.lconst 1, 1) := by decide +kernel
theorem dX11_readVarint_65 : decode cX11_readVarint 65 = .ok (.land, 1) := by decide +kernel
theorem dX11_readVarint_66 : decode cX11_readVarint 66 = .ok (.lneg, 1) := by decide +kernel
theorem dX11_readVarint_67 : decode cX11_readVarint 67 = .ok (.lxor, 1) := by decide +kernel
theorem dX11_readVarint_68 : decode cX11_readVarint 68 = .ok (.lreturn, 1) := by decide +kernel
theorem dX11_copyBytes_0 : decode cX11_copyBytes 0 = .ok (.lconst 0, 1) := by decide +kernel
theorem dX11_copyBytes_1 : decode cX11_copyBytes 1 = .ok (.lstore 4, 2) := by decide +kernel
theorem dX11_copyBytes_3 : decode cX11_copyBytes 3 = .ok (.lload 4, 2) := by decide +kernel
theorem dX11_copyBytes_5 : decode cX11_copyBytes 5 = .ok (.lload_n 1, 1) := by decide +kernel
theorem dX11_copyBytes_6 : decode cX11_copyBytes 6 = .ok (.lcmp, 1) := by decide +kernel
theorem dX11_copyBytes_7 : decode cX11_copyBytes 7 = .ok (.ifCond .ge 39, 3) := by decide +kernel
theorem dX11_copyBytes_10 : decode cX11_copyBytes 10 = .ok (.iload_n 3, 1) := by decide +kernel
theorem dX11_copyBytes_11 : decode cX11_copyBytes 11 = .ok (.ifCond .eq 16, 3) := by decide +kernel
theorem dX11_copyBytes_14 : decode cX11_copyBytes 14 = .ok (.aload_n 0, 1) := by decide +kernel
theorem dX11_copyBytes_15 : decode cX11_copyBytes 15 = .ok (.aload_n 0, 1) := by decide +kernel
theorem dX11_copyBytes_16 : decode cX11_copyBytes 16 = .ok (.getfield 35, 3) := by decide +kernel
theorem dX11_copyBytes_19 : decode cX11_copyBytes 19 = .ok (.aload_n 0, 1) := by decide +kernel
theorem dX11_copyBytes_20 : decode cX11_copyBytes 20 = .ok (.getfield 253, 3) := by decide +kernel
theorem dX11_copyBytes_23 : decode cX11_copyBytes 23 = .ok (.baload, 1) := by decide +kernel
theorem dX11_copyBytes_24 : decode cX11_copyBytes 24 = .ok (.invokevirtual 250, 3) := by decide +kernel
theorem dX11_copyBytes_27 : decode cX11_copyBytes 27 = .ok (.aload_n 0, 1) := by decide +kernel
theorem dX11_copyBytes_28 : decode cX11_copyBytes 28 = .ok (.dup, 1) := by decide +kernel
theorem dX11_copyBytes_29 : decode cX11_copyBytes 29 = .ok (.getfield 253, 3) := by decide +kernel
theorem dX11_copyBytes_32 : decode cX11_copyBytes 32 = .ok (.iconst 1, 1) := by decide +kernel
theorem dX11_copyBytes_33 : decode cX11_copyBytes 33 = .ok (.iadd, 1) := by decide +kernel
theorem dX11_copyBytes_34 : decode cX11_copyBytes 34 = .ok (.putfield 253, 3) := by decide +kernel
theorem dX11_copyBytes_37 : decode cX11_copyBytes 37 = .ok (.lload 4, 2) := by decide +kernel
theorem dX11_copyBytes_39 : decode cX11_copyBytes 39 = .ok (.lconst 1, 1) := by decide +kernel
theorem dX11_copyBytes_40 : decode cX11_copyBytes 40 = .ok (.ladd, 1) := by decide +kernel
theorem dX11_copyBytes_41 : decode cX11_copyBytes 41 = .ok (.lstore 4, 2) := by decide +kernel
theorem dX11_copyBytes_43 : decode cX11_copyBytes 43 = .ok (.goto (-40), 3) := by decide +kernel
theorem dX11_copyBytes_46 : decode cX11_copyBytes 46 = .ok (.return_, 1) := by decide +kernel
theorem dX11_skip_0 : decode cX11_skip 0 = .ok (.aload_n 1, 1) := by decide +kernel
theorem dX11_skip_1 : decode cX11_skip 1 = .ok (.getfield 132, 3) := by decide +kernel
theorem dX11_skip_4 : decode cX11_skip 4 = .ok (.iload_n 2, 1) := by decide +kernel
theorem dX11_skip_5 : decode cX11_skip 5 = .ok (.iaload, 1) := by decide +kernel
theorem dX11_skip_6 : decode cX11_skip 6 = .ok (.tableswitch 171 0 11 #[62, 65, 78, 78, 86, 86, 171, 171, 113, 98, 78, 136], 62) := by decide +kernel
theorem dX11_skip_68 : decode cX11_skip 68 = .ok (.goto 180, 3) := by decide +kernel
theorem dX11_skip_71 : decode cX11_skip 71 = .ok (.aload_n 0, 1) := by decide +kernel
theorem dX11_skip_72 : decode cX11_skip 72 = .ok (.dup, 1) := by decide +kernel
theorem dX11_skip_73 : decode cX11_skip 73 = .ok (.getfield 253, 3) := by decide +kernel
theorem dX11_skip_76 : decode cX11_skip 76 = .ok (.iconst 1, 1) := by decide +kernel
theorem dX11_skip_77 : decode cX11_skip 77 = .ok (.iadd, 1) := by decide +kernel
theorem dX11_skip_78 : decode cX11_skip 78 = .ok (.putfield 253, 3) := by decide +kernel
theorem dX11_skip_81 : decode cX11_skip 81 = .ok (.goto 167, 3) := by decide +kernel
theorem dX11_skip_84 : decode cX11_skip 84 = .ok (.aload_n 0, 1) := by decide +kernel
theorem dX11_skip_85 : decode cX11_skip 85 = .ok (.invokevirtual 256, 3) := by decide +kernel
theorem dX11_skip_88 : decode cX11_skip 88 = .ok (.pop2, 1) := by decide +kernel
theorem dX11_skip_89 : decode cX11_skip 89 = .ok (.goto 159, 3) := by decide +kernel
theorem dX11_skip_92 : decode cX11_skip 92 = .ok (.aload_n 0, 1) := by decide +kernel
theorem dX11_skip_93 : decode cX11_skip 93 = .ok (.aload_n 0, 1) := by decide +kernel
theorem dX11_skip_94 : decode cX11_skip 94 = .ok (.invokevirtual 256, 3) := by decide +kernel
theorem dX11_skip_97 : decode cX11_skip 97 = .ok (.iconst 0, 1) := by decide +kernel
theorem dX11_skip_98 : decode cX11_skip 98 = .ok (.invokevirtual 259, 3) := by decide +kernel
theorem dX11_skip_101 : decode cX11_skip 101 = .ok (.goto 147, 3) := by decide +kernel
theorem dX11_skip_104 : decode cX11_skip 104 = .ok (.aload_n 0, 1) := by decide +kernel
theorem dX11_skip_105 : decode cX11_skip 105 = .ok (.aload_n 1, 1) := by decide +kernel
theorem dX11_skip_106 : decode cX11_skip 106 = .ok (.getfield 143, 3) := by decide +kernel
theorem dX11_skip_109 : decode cX11_skip 109 = .ok (.iload_n 2, 1) := by decide +kernel
theorem dX11_skip_110 : decode cX11_skip 110 = .ok (.iaload, 1) := by decide +kernel
theorem dX11_skip_111 : decode cX11_skip 111 = .ok (.i2l, 1) := by decide +kernel
theorem dX11_skip_112 : decode cX11_skip 112 = .ok (.iconst 0, 1) := by decide +kernel
theorem dX11_skip_113 : decode cX11_skip 113 = .ok (.invokevirtual 259, 3) := by decide +kernel
theorem dX11_skip_116 : decode cX11_skip 116 = .ok (.goto 132, 3) := by decide +kernel
theorem dX11_skip_119 : decode cX11_skip 119 = .ok (.aload_n 0, 1) := by decide +kernel
theorem dX11_skip_120 : decode cX11_skip 120 = .ok (.aload_n 1, 1) := by decide +kernel
theorem dX11_skip_121 : decode cX11_skip 121 = .ok (.aload_n 1, 1) := by decide +kernel
theorem dX11_skip_122 : decode cX11_skip 122 = .ok (.getfield 149, 3) := by decide +kernel
theorem dX11_skip_125 : decode cX11_skip 125 = .ok (.aload_n 1, 1) := by decide +kernel
theorem dX11_skip_126 : decode cX11_skip 126 = .ok (.iload_n 2, 1) := by decide +kernel
theorem dX11_skip_127 : decode cX11_skip 127 = .ok (.aload_n 0, 1) := by decide +kernel
theorem dX11_skip_128 : decode cX11_skip 128 = .ok (.invokevirtual 256, 3) := by decide +kernel
theorem dX11_skip_131 : decode cX11_skip 131 = .ok (.l2i, 1) := by decide +kernel
theorem dX11_skip_132 : decode cX11_skip 132 = .ok (.invokevirtual 152, 3) := by decide +kernel
theorem dX11_skip_135 : decode cX11_skip 135 = .ok (.iaload, 1) := by decide +kernel
theorem dX11_skip_136 : decode cX11_skip 136 = .ok (.invokevirtual 263, 3) := by decide +kernel
theorem dX11_skip_139 : decode cX11_skip 139 = .ok (.goto 109, 3) := by decide +kernel
theorem dX11_skip_142 : decode cX11_skip 142 = .ok (.aload_n 1, 1) := by decide +kernel
theorem dX11_skip_143 : decode cX11_skip 143 = .ok (.getfield 160, 3) := by decide +kernel
theorem dX11_skip_146 : decode cX11_skip 146 = .ok (.iload_n 2, 1) := by decide +kernel
theorem dX11_skip_147 : decode cX11_skip 147 = .ok (.iaload, 1) := by decide +kernel
theorem dX11_skip_148 : decode cX11_skip 148 = .ok (.istore_n 3, 1) := by decide +kernel
theorem dX11_skip_149 : decode cX11_skip 149 = .ok (.iload_n 3, 1) := by decide +kernel
theorem dX11_skip_150 : decode cX11_skip 150 = .ok (.ifCond .lt 24, 3) := by decide +kernel
theorem dX11_skip_153 : decode cX11_skip 153 = .ok (.aload_n 0, 1) := by decide +kernel
theorem dX11_skip_154 : decode cX11_skip 154 = .ok (.aload_n 1, 1) := by decide +kernel
theorem dX11_skip_155 : decode cX11_skip 155 = .ok (.aload_n 1, 1) := by decide +kernel
theorem dX11_skip_156 : decode cX11_skip 156 = .ok (.getfield 149, 3) := by decide +kernel
theorem dX11_skip_159 : decode cX11_skip 159 = .ok (.iload_n 3, 1) := by decide +kernel
theorem dX11_skip_160 : decode cX11_skip 160 = .ok (.iaload, 1) := by decide +kernel
theorem dX11_skip_161 : decode cX11_skip 161 = .ok (.invokevirtual 263, 3) := by decide +kernel
theorem dX11_skip_164 : decode cX11_skip 164 = .ok (.aload_n 1, 1) := by decide +kernel
theorem dX11_skip_165 : decode cX11_skip 165 = .ok (.getfield 163, 3) := by decide +kernel
theorem dX11_skip_168 : decode cX11_skip 168 = .ok (.iload_n 3, 1) := by decide +kernel
theorem dX11_skip_169 : decode cX11_skip 169 = .ok (.iaload, 1) := by decide +kernel
theorem dX11_skip_170 : decode cX11_skip 170 = .ok (.istore_n 3, 1) := by decide +kernel
theorem dX11_skip_171 : decode cX11_skip 171 = .ok (.goto (-22), 3) := by decide +kernel
theorem dX11_skip_174 : decode cX11_skip 174 = .ok (.goto 74, 3) := by decide +kernel
theorem dX11_skip_177 : decode cX11_skip 177 = .ok (.aload_n 0, 1) := by decide +kernel
theorem dX11_skip_178 : decode cX11_skip 178 = .ok (.invokevirtual 256, 3) := by decide +kernel
theorem dX11_skip_181 : decode cX11_skip 181 = .ok (.lstore_n 3, 1) := by decide +kernel
theorem dX11_skip_182 : decode cX11_skip 182 = .ok (.lconst 0, 1) := by decide +kernel
theorem dX11_skip_183 : decode cX11_skip 183 = .ok (.lstore 5, 2) := by decide +kernel
theorem dX11_skip_185 : decode cX11_skip 185 = .ok (.lload 5, 2) := by decide +kernel
theorem dX11_skip_187 : decode cX11_skip 187 = .ok (.lload_n 3, 1) := by decide +kernel
theorem dX11_skip_188 : decode cX11_skip 188 = .ok (.lcmp, 1) := by decide +kernel
theorem dX11_skip_189 : decode cX11_skip 189 = .ok (.ifCond .ge 48, 3) := by decide +kernel
theorem dX11_skip_192 : decode cX11_skip 192 = .ok (.aload_n 1, 1) := by decide +kernel
theorem dX11_skip_193 : decode cX11_skip 193 = .ok (.getfield 132, 3) := by decide +kernel
theorem dX11_skip_196 : decode cX11_skip 196 = .ok (.iload_n 2, 1) := by decide +kernel
theorem dX11_skip_197 : decode cX11_skip 197 = .ok (.iaload, 1) := by decide +kernel
theorem dX11_skip_198 : decode cX11_skip 198 = .ok (.bipush 7, 2) := by decide +kernel
theorem dX11_skip_200 : decode cX11_skip 200 = .ok (.if_icmp .ne 12, 3) := by decide +kernel
theorem dX11_skip_203 : decode cX11_skip 203 = .ok (.aload_n 0, 1) := by decide +kernel
theorem dX11_skip_204 : decode cX11_skip 204 = .ok (.aload_n 0, 1) := by decide +kernel
theorem dX11_skip_205 : decode cX11_skip 205 = .ok (.invokevirtual 256, 3) := by decide +kernel
theorem dX11_skip_208 : decode cX11_skip 208 = .ok (.iconst 0, 1) := by decide +kernel
theorem dX11_skip_209 : decode cX11_skip 209 = .ok (.invokevirtual 259, 3) := by decide +kernel
theorem dX11_skip_212 : decode cX11_skip 212 = .ok (.aload_n 0, 1) := by decide +kernel
theorem dX11_skip_213 : decode cX11_skip 213 = .ok (.aload_n 1, 1) := by decide +kernel
theorem dX11_skip_214 : decode cX11_skip 214 = .ok (.aload_n 1, 1) := by decide +kernel
theorem dX11_skip_215 : decode cX11_skip 215 = .ok (.getfield 149, 3) := by decide +kernel
theorem dX11_skip_218 : decode cX11_skip 218 = .ok (.aload_n 1, 1) := by decide +kernel
theorem dX11_skip_219 : decode cX11_skip 219 = .ok (.getfield 160, 3) := by decide +kernel
theorem dX11_skip_222 : decode cX11_skip 222 = .ok (.iload_n 2, 1) := by decide +kernel
theorem dX11_skip_223 : decode cX11_skip 223 = .ok (.iaload, 1) := by decide +kernel
theorem dX11_skip_224 : decode cX11_skip 224 = .ok (.iaload, 1) := by decide +kernel
theorem dX11_skip_225 : decode cX11_skip 225 = .ok (.invokevirtual 263, 3) := by decide +kernel
theorem dX11_skip_228 : decode cX11_skip 228 = .ok (.lload 5, 2) := by decide +kernel
theorem dX11_skip_230 : decode cX11_skip 230 = .ok (.lconst 1, 1) := by decide +kernel
theorem dX11_skip_231 : decode cX11_skip 231 = .ok (.ladd, 1) := by decide +kernel
theorem dX11_skip_232 : decode cX11_skip 232 = .ok (.lstore 5, 2) := by decide +kernel
theorem dX11_skip_234 : decode cX11_skip 234 = .ok (.goto (-49), 3) := by decide +kernel
theorem dX11_skip_237 : decode cX11_skip 237 = .ok (.lload_n 3, 1) := by decide +kernel
theorem dX11_skip_238 : decode cX11_skip 238 = .ok (.lconst 0, 1) := by decide +kernel
theorem dX11_skip_239 : decode cX11_skip 239 = .ok (.lcmp, 1) := by decide +kernel
theorem dX11_skip_240 : decode cX11_skip 240 = .ok (.ifCond .le 8, 3) := by decide +kernel
theorem dX11_skip_243 : decode cX11_skip 243 = .ok (.aload_n 0, 1) := by decide +kernel
theorem dX11_skip_244 : decode cX11_skip 244 = .ok (.invokevirtual 256, 3) := by decide +kernel
theorem dX11_skip_247 : decode cX11_skip 247 = .ok (.pop2, 1) := by decide +kernel
theorem dX11_skip_248 : decode cX11_skip 248 = .ok (.return_, 1) := by decide +kernel
theorem dX11_unresolved_0 : decode cX11_unresolved 0 = .ok (.aload_n 0, 1) := by decide +kernel
theorem dX11_unresolved_1 : decode cX11_unresolved 1 = .ok (.bipush 20, 2) := by decide +kernel
theorem dX11_unresolved_3 : decode cX11_unresolved 3 = .ok (.iconst 0, 1) := by decide +kernel
theorem dX11_unresolved_4 : decode cX11_unresolved 4 = .ok (.invokevirtual 102, 3) := by decide +kernel
theorem dX11_unresolved_7 : decode cX11_unresolved 7 = .ok (.return_, 1) := by decide +kernel
theorem dX11_tell_0 : decode cX11_tell 0 = .ok (.aload_n 1, 1) := by decide +kernel
theorem dX11_tell_1 : decode cX11_tell 1 = .ok (.getfield 132, 3) := by decide +kernel
theorem dX11_tell_4 : decode cX11_tell 4 = .ok (.iload_n 2, 1) := by decide +kernel
theorem dX11_tell_5 : decode cX11_tell 5 = .ok (.iaload, 1) := by decide +kernel
theorem dX11_tell_6 : decode cX11_tell 6 = .ok (.istore 5, 2) := by decide +kernel
theorem dX11_tell_8 : decode cX11_tell 8 = .ok (.iload 5, 2) := by decide +kernel
theorem dX11_tell_10 : decode cX11_tell 10 = .ok (.bipush 8, 2) := by decide +kernel
theorem dX11_tell_12 : decode cX11_tell 12 = .ok (.if_icmp .ne 27, 3) := by decide +kernel
theorem dX11_tell_15 : decode cX11_tell 15 = .ok (.aload_n 0, 1) := by decide +kernel
theorem dX11_tell_16 : decode cX11_tell 16 = .ok (.aload_n 1, 1) := by decide +kernel
theorem dX11_tell_17 : decode cX11_tell 17 = .ok (.aload_n 1, 1) := by decide +kernel
theorem dX11_tell_18 : decode cX11_tell 18 = .ok (.getfield 149, 3) := by decide +kernel
theorem dX11_tell_21 : decode cX11_tell 21 = .ok (.aload_n 1, 1) := by decide +kernel
theorem dX11_tell_22 : decode cX11_tell 22 = .ok (.iload_n 2, 1) := by decide +kernel
theorem dX11_tell_23 : decode cX11_tell 23 = .ok (.aload_n 0, 1) := by decide +kernel
theorem dX11_tell_24 : decode cX11_tell 24 = .ok (.invokevirtual 256, 3) := by decide +kernel
theorem dX11_tell_27 : decode cX11_tell 27 = .ok (.l2i, 1) := by decide +kernel
theorem dX11_tell_28 : decode cX11_tell 28 = .ok (.invokevirtual 152, 3) := by decide +kernel
theorem dX11_tell_31 : decode cX11_tell 31 = .ok (.iaload, 1) := by decide +kernel
theorem dX11_tell_32 : decode cX11_tell 32 = .ok (.aload_n 3, 1) := by decide +kernel
theorem dX11_tell_33 : decode cX11_tell 33 = .ok (.iload 4, 2) := by decide +kernel
theorem dX11_tell_35 : decode cX11_tell 35 = .ok (.invokevirtual 266, 3) := by decide +kernel
theorem dX11_tell_38 : decode cX11_tell 38 = .ok (.return_, 1) := by decide +kernel
theorem dX11_tell_39 : decode cX11_tell 39 = .ok (.aload_n 3, 1) := by decide +kernel
theorem dX11_tell_40 : decode cX11_tell 40 = .ok (.getfield 132, 3) := by decide +kernel
theorem dX11_tell_43 : decode cX11_tell 43 = .ok (.iload 4, 2) := by decide +kernel
theorem dX11_tell_45 : decode cX11_tell 45 = .ok (.iaload, 1) := by decide +kernel
theorem dX11_tell_46 : decode cX11_tell 46 = .ok (.bipush 8, 2) := by decide +kernel
theorem dX11_tell_48 : decode cX11_tell 48 = .ok (.if_icmp .ne 78, 3) := by decide +kernel
theorem dX11_tell_51 : decode cX11_tell 51 = .ok (.aload_n 1, 1) := by decide +kernel
theorem dX11_tell_52 : decode cX11_tell 52 = .ok (.iload_n 2, 1) := by decide +kernel
theorem dX11_tell_53 : decode cX11_tell 53 = .ok (.aload_n 3, 1) := by decide +kernel
theorem dX11_tell_54 : decode cX11_tell 54 = .ok (.iload 4, 2) := by decide +kernel
theorem dX11_tell_56 : decode cX11_tell 56 = .ok (.invokestatic 227, 3) := by decide +kernel
theorem dX11_tell_59 : decode cX11_tell 59 = .ok (.istore 6, 2) := by decide +kernel
theorem dX11_tell_61 : decode cX11_tell 61 = .ok (.iload 6, 2) := by decide +kernel
theorem dX11_tell_63 : decode cX11_tell 63 = .ok (.ifCond .ge 7, 3) := by decide +kernel
theorem dX11_tell_66 : decode cX11_tell 66 = .ok (.aload_n 0, 1) := by decide +kernel
theorem dX11_tell_67 : decode cX11_tell 67 = .ok (.invokevirtual 270, 3) := by decide +kernel
theorem dX11_tell_70 : decode cX11_tell 70 = .ok (.iconst 0, 1) := by decide +kernel
theorem dX11_tell_71 : decode cX11_tell 71 = .ok (.istore 7, 2) := by decide +kernel
theorem dX11_tell_73 : decode cX11_tell 73 = .ok (.aload_n 3, 1) := by decide +kernel
theorem dX11_tell_74 : decode cX11_tell 74 = .ok (.getfield 160, 3) := by decide +kernel
theorem dX11_tell_77 : decode cX11_tell 77 = .ok (.iload 4, 2) := by decide +kernel
theorem dX11_tell_79 : decode cX11_tell 79 = .ok (.iaload, 1) := by decide +kernel
theorem dX11_tell_80 : decode cX11_tell 80 = .ok (.istore 8, 2) := by decide +kernel
theorem dX11_tell_82 : decode cX11_tell 82 = .ok (.iload 8, 2) := by decide +kernel
theorem dX11_tell_84 : decode cX11_tell 84 = .ok (.iload 6, 2) := by decide +kernel
theorem dX11_tell_86 : decode cX11_tell 86 = .ok (.if_icmp .eq 18, 3) := by decide +kernel
theorem dX11_tell_89 : decode cX11_tell 89 = .ok (.iinc 7 1, 3) := by decide +kernel
theorem dX11_tell_92 : decode cX11_tell 92 = .ok (.aload_n 3, 1) := by decide +kernel
theorem dX11_tell_93 : decode cX11_tell 93 = .ok (.getfield 163, 3) := by decide +kernel
theorem dX11_tell_96 : decode cX11_tell 96 = .ok (.iload 8, 2) := by decide +kernel
theorem dX11_tell_98 : decode cX11_tell 98 = .ok (.iaload, 1) := by decide +kernel
theorem dX11_tell_99 : decode cX11_tell 99 = .ok (.istore 8, 2) := by decide +kernel
theorem dX11_tell_101 : decode cX11_tell 101 = .ok (.goto (-19), 3) := by decide +kernel
theorem dX11_tell_104 : decode cX11_tell 104 = .ok (.aload_n 0, 1) := by decide +kernel
theorem dX11_tell_105 : decode cX11_tell 105 = .ok (.iload 7, 2) := by decide +kernel
theorem dX11_tell_107 : decode cX11_tell 107 = .ok (.i2l, 1) := by decide +kernel
theorem dX11_tell_108 : decode cX11_tell 108 = .ok (.invokevirtual 273, 3) := by decide +kernel
theorem dX11_tell_111 : decode cX11_tell 111 = .ok (.aload_n 0, 1) := by decide +kernel
theorem dX11_tell_112 : decode cX11_tell 112 = .ok (.aload_n 1, 1) := by decide +kernel
theorem dX11_tell_113 : decode cX11_tell 113 = .ok (.iload_n 2, 1) := by decide +kernel
theorem dX11_tell_114 : decode cX11_tell 114 = .ok (.aload_n 3, 1) := by decide +kernel
theorem dX11_tell_115 : decode cX11_tell 115 = .ok (.aload_n 3, 1) := by decide +kernel
theorem dX11_tell_116 : decode cX11_tell 116 = .ok (.getfield 149, 3) := by decide +kernel
theorem dX11_tell_119 : decode cX11_tell 119 = .ok (.iload 6, 2) := by decide +kernel
theorem dX11_tell_121 : decode cX11_tell 121 = .ok (.iaload, 1) := by decide +kernel
theorem dX11_tell_122 : decode cX11_tell 122 = .ok (.invokevirtual 266, 3) := by decide +kernel
theorem dX11_tell_125 : decode cX11_tell 125 = .ok (.return_, 1) := by decide +kernel
theorem dX11_tell_126 : decode cX11_tell 126 = .ok (.iload 5, 2) := by decide +kernel
theorem dX11_tell_128 : decode cX11_tell 128 = .ok (.invokestatic 201, 3) := by decide +kernel
theorem dX11_tell_131 : decode cX11_tell 131 = .ok (.ifCond .ne 28, 3) := by decide +kernel
theorem dX11_tell_134 : decode cX11_tell 134 = .ok (.aload_n 3, 1) := by decide +kernel
theorem dX11_tell_135 : decode cX11_tell 135 = .ok (.getfield 132, 3) := by decide +kernel
theorem dX11_tell_138 : decode cX11_tell 138 = .ok (.iload 4, 2) := by decide +kernel
theorem dX11_tell_140 : decode cX11_tell 140 = .ok (.iaload, 1) := by decide +kernel
theorem dX11_tell_141 : decode cX11_tell 141 = .ok (.invokestatic 201, 3) := by decide +kernel
theorem dX11_tell_144 : decode cX11_tell 144 = .ok (.ifCond .ne 15, 3) := by decide +kernel
theorem dX11_tell_147 : decode cX11_tell 147 = .ok (.iload 5, 2) := by decide +kernel
theorem dX11_tell_149 : decode cX11_tell 149 = .ok (.aload_n 3, 1) := by decide +kernel
theorem dX11_tell_150 : decode cX11_tell 150 = .ok (.getfield 132, 3) := by decide +kernel
theorem dX11_tell_153 : decode cX11_tell 153 = .ok (.iload 4, 2) := by decide +kernel
theorem dX11_tell_155 : decode cX11_tell 155 = .ok (.iaload, 1) := by decide +kernel
theorem dX11_tell_156 : decode cX11_tell 156 = .ok (.if_icmp .eq 50, 3) := by decide +kernel
theorem dX11_tell_159 : decode cX11_tell 159 = .ok (.iload 5, 2) := by decide +kernel
theorem dX11_tell_161 : decode cX11_tell 161 = .ok (.invokestatic 201, 3) := by decide +kernel
theorem dX11_tell_164 : decode cX11_tell 164 = .ok (.ifCond .eq 31, 3) := by decide +kernel
theorem dX11_tell_167 : decode cX11_tell 167 = .ok (.aload_n 3, 1) := by decide +kernel
theorem dX11_tell_168 : decode cX11_tell 168 = .ok (.getfield 132, 3) := by decide +kernel
theorem dX11_tell_171 : decode cX11_tell 171 = .ok (.iload 4, 2) := by decide +kernel
theorem dX11_tell_173 : decode cX11_tell 173 = .ok (.iaload, 1) := by decide +kernel
theorem dX11_tell_174 : decode cX11_tell 174 = .ok (.invokestatic 201, 3) := by decide +kernel
theorem dX11_tell_177 : decode cX11_tell 177 = .ok (.ifCond .eq 18, 3) := by decide +kernel
theorem dX11_tell_180 : decode cX11_tell 180 = .ok (.iload 5, 2) := by decide +kernel
theorem dX11_tell_182 : decode cX11_tell 182 = .ok (.aload_n 3, 1) := by decide +kernel
theorem dX11_tell_183 : decode cX11_tell 183 = .ok (.getfield 132, 3) := by decide +kernel
theorem dX11_tell_186 : decode cX11_tell 186 = .ok (.iload 4, 2) := by decide +kernel
theorem dX11_tell_188 : decode cX11_tell 188 = .ok (.iaload, 1) := by decide +kernel
theorem dX11_tell_189 : decode cX11_tell 189 = .ok (.invokestatic 204, 3) := by decide +kernel
theorem dX11_tell_192 : decode cX11_tell 192 = .ok (.ifCond .ne 7, 3) := by decide +kernel
theorem dX11_tell_195 : decode cX11_tell 195 = .ok (.aload_n 0, 1) := by decide +kernel
theorem dX11_tell_196 : decode cX11_tell 196 = .ok (.invokevirtual 270, 3) := by decide +kernel
theorem dX11_tell_199 : decode cX11_tell 199 = .ok (.aload_n 0, 1) := by decide +kernel
theorem dX11_tell_200 : decode cX11_tell 200 = .ok (.iload 5, 2) := by decide +kernel
theorem dX11_tell_202 : decode cX11_tell 202 = .ok (.invokevirtual 276, 3) := by decide +kernel
theorem dX11_tell_205 : decode cX11_tell 205 = .ok (.return_, 1) := by decide +kernel
theorem dX11_tell_206 : decode cX11_tell 206 = .ok (.iload 5, 2) := by decide +kernel
theorem dX11_tell_208 : decode cX11_tell 208 = .ok (.bipush 6, 2) := by decide +kernel
theorem dX11_tell_210 : decode cX11_tell 210 = .ok (.if_icmp .eq 25, 3) := by decide +kernel
theorem dX11_tell_213 : decode cX11_tell 213 = .ok (.iload 5, 2) := by decide +kernel
theorem dX11_tell_215 : decode cX11_tell 215 = .ok (.bipush 7, 2) := by decide +kernel
theorem dX11_tell_217 : decode cX11_tell 217 = .ok (.if_icmp .eq 18, 3) := by decide +kernel
theorem dX11_tell_220 : decode cX11_tell 220 = .ok (.aload_n 1, 1) := by decide +kernel
theorem dX11_tell_221 : decode cX11_tell 221 = .ok (.iload_n 2, 1) := by decide +kernel
theorem dX11_tell_222 : decode cX11_tell 222 = .ok (.aload_n 3, 1) := by decide +kernel
theorem dX11_tell_223 : decode cX11_tell 223 = .ok (.iload 4, 2) := by decide +kernel
theorem dX11_tell_225 : decode cX11_tell 225 = .ok (.invokestatic 208, 3) := by decide +kernel
theorem dX11_tell_228 : decode cX11_tell 228 = .ok (.ifCond .ne 7, 3) := by decide +kernel
theorem dX11_tell_231 : decode cX11_tell 231 = .ok (.aload_n 0, 1) := by decide +kernel
theorem dX11_tell_232 : decode cX11_tell 232 = .ok (.invokevirtual 270, 3) := by decide +kernel
theorem dX11_tell_235 : decode cX11_tell 235 = .ok (.iload 5, 2) := by decide +kernel
theorem dX11_tell_237 : decode cX11_tell 237 = .ok (.tableswitch 116 9 11 #[27, 42, 104], 27) := by decide +kernel
theorem dX11_tell_264 : decode cX11_tell 264 = .ok (.aload_n 0, 1) := by decide +kernel
theorem dX11_tell_265 : decode cX11_tell 265 = .ok (.aload_n 1, 1) := by decide +kernel
theorem dX11_tell_266 : decode cX11_tell 266 = .ok (.getfield 143, 3) := by decide +kernel
theorem dX11_tell_269 : decode cX11_tell 269 = .ok (.iload_n 2, 1) := by decide +kernel
theorem dX11_tell_270 : decode cX11_tell 270 = .ok (.iaload, 1) := by decide +kernel
theorem dX11_tell_271 : decode cX11_tell 271 = .ok (.i2l, 1) := by decide +kernel
theorem dX11_tell_272 : decode cX11_tell 272 = .ok (.iconst 1, 1) := by decide +kernel
theorem dX11_tell_273 : decode cX11_tell 273 = .ok (.invokevirtual 259, 3) := by decide +kernel
theorem dX11_tell_276 : decode cX11_tell 276 = .ok (.goto 174, 3) := by decide +kernel
theorem dX11_tell_279 : decode cX11_tell 279 = .ok (.aload_n 3, 1) := by decide +kernel
theorem dX11_tell_280 : decode cX11_tell 280 = .ok (.iload 4, 2) := by decide +kernel
theorem dX11_tell_282 : decode cX11_tell 282 = .ok (.aload_n 1, 1) := by decide +kernel
theorem dX11_tell_283 : decode cX11_tell 283 = .ok (.aload_n 1, 1) := by decide +kernel
theorem dX11_tell_284 : decode cX11_tell 284 = .ok (.getfield 231, 3) := by decide +kernel
theorem dX11_tell_287 : decode cX11_tell 287 = .ok (.aload_n 1, 1) := by decide +kernel
theorem dX11_tell_288 : decode cX11_tell 288 = .ok (.iload_n 2, 1) := by decide +kernel
theorem dX11_tell_289 : decode cX11_tell 289 = .ok (.aload_n 0, 1) := by decide +kernel
theorem dX11_tell_290 : decode cX11_tell 290 = .ok (.invokevirtual 256, 3) := by decide +kernel
theorem dX11_tell_293 : decode cX11_tell 293 = .ok (.l2i, 1) := by decide +kernel
theorem dX11_tell_294 : decode cX11_tell 294 = .ok (.invokevirtual 152, 3) := by decide +kernel
theorem dX11_tell_297 : decode cX11_tell 297 = .ok (.iaload, 1) := by decide +kernel
theorem dX11_tell_298 : decode cX11_tell 298 = .ok (.invokevirtual 234, 3) := by decide +kernel
theorem dX11_tell_301 : decode cX11_tell 301 = .ok (.istore 6, 2) := by decide +kernel
theorem dX11_tell_303 : decode cX11_tell 303 = .ok (.iload 6, 2) := by decide +kernel
theorem dX11_tell_305 : decode cX11_tell 305 = .ok (.ifCond .ge 13, 3) := by decide +kernel
theorem dX11_tell_308 : decode cX11_tell 308 = .ok (.aload_n 3, 1) := by decide +kernel
theorem dX11_tell_309 : decode cX11_tell 309 = .ok (.getfield 238, 3) := by decide +kernel
theorem dX11_tell_312 : decode cX11_tell 312 = .ok (.iload 4, 2) := by decide +kernel
theorem dX11_tell_314 : decode cX11_tell 314 = .ok (.iaload, 1) := by decide +kernel
theorem dX11_tell_315 : decode cX11_tell 315 = .ok (.goto 5, 3) := by decide +kernel
theorem dX11_tell_318 : decode cX11_tell 318 = .ok (.iload 6, 2) := by decide +kernel
theorem dX11_tell_320 : decode cX11_tell 320 = .ok (.istore 6, 2) := by decide +kernel
theorem dX11_tell_322 : decode cX11_tell 322 = .ok (.iload 6, 2) := by decide +kernel
theorem dX11_tell_324 : decode cX11_tell 324 = .ok (.ifCond .ge 7, 3) := by decide +kernel
theorem dX11_tell_327 : decode cX11_tell 327 = .ok (.aload_n 0, 1) := by decide +kernel
theorem dX11_tell_328 : decode cX11_tell 328 = .ok (.invokevirtual 270, 3) := by decide +kernel
theorem dX11_tell_331 : decode cX11_tell 331 = .ok (.aload_n 0, 1) := by decide +kernel
theorem dX11_tell_332 : decode cX11_tell 332 = .ok (.iload 6, 2) := by decide +kernel
theorem dX11_tell_334 : decode cX11_tell 334 = .ok (.i2l, 1) := by decide +kernel
theorem dX11_tell_335 : decode cX11_tell 335 = .ok (.invokevirtual 273, 3) := by decide +kernel
theorem dX11_tell_338 : decode cX11_tell 338 = .ok (.goto 112, 3) := by decide +kernel
theorem dX11_tell_341 : decode cX11_tell 341 = .ok (.aload_n 0, 1) := by decide +kernel
theorem dX11_tell_342 : decode cX11_tell 342 = .ok (.aload_n 1, 1) := by decide +kernel
theorem dX11_tell_343 : decode cX11_tell 343 = .ok (.iload_n 2, 1) := by decide +kernel
theorem dX11_tell_344 : decode cX11_tell 344 = .ok (.aload_n 3, 1) := by decide +kernel
theorem dX11_tell_345 : decode cX11_tell 345 = .ok (.iload 4, 2) := by decide +kernel
theorem dX11_tell_347 : decode cX11_tell 347 = .ok (.invokevirtual 279, 3) := by decide +kernel
theorem dX11_tell_350 : decode cX11_tell 350 = .ok (.goto 100, 3) := by decide +kernel
theorem dX11_tell_353 : decode cX11_tell 353 = .ok (.aload_n 0, 1) := by decide +kernel
theorem dX11_tell_354 : decode cX11_tell 354 = .ok (.invokevirtual 256, 3) := by decide +kernel
theorem dX11_tell_357 : decode cX11_tell 357 = .ok (.lstore 7, 2) := by decide +kernel
theorem dX11_tell_359 : decode cX11_tell 359 = .ok (.lload 7, 2) := by decide +kernel
theorem dX11_tell_361 : decode cX11_tell 361 = .ok (.lconst 0, 1) := by decide +kernel
theorem dX11_tell_362 : decode cX11_tell 362 = .ok (.lcmp, 1) := by decide +kernel
theorem dX11_tell_363 : decode cX11_tell 363 = .ok (.ifCond .le 9, 3) := by decide +kernel
theorem dX11_tell_366 : decode cX11_tell 366 = .ok (.aload_n 0, 1) := by decide +kernel
theorem dX11_tell_367 : decode cX11_tell 367 = .ok (.lload 7, 2) := by decide +kernel
theorem dX11_tell_369 : decode cX11_tell 369 = .ok (.invokevirtual 273, 3) := by decide +kernel
theorem dX11_tell_372 : decode cX11_tell 372 = .ok (.lconst 0, 1) := by decide +kernel
theorem dX11_tell_373 : decode cX11_tell 373 = .ok (.lstore 9, 2) := by decide +kernel
theorem dX11_tell_375 : decode cX11_tell 375 = .ok (.lload 9, 2) := by decide +kernel
theorem dX11_tell_377 : decode cX11_tell 377 = .ok (.lload 7, 2) := by decide +kernel
theorem dX11_tell_379 : decode cX11_tell 379 = .ok (.lcmp, 1) := by decide +kernel
theorem dX11_tell_380 : decode cX11_tell 380 = .ok (.ifCond .ge 53, 3) := by decide +kernel
theorem dX11_tell_383 : decode cX11_tell 383 = .ok (.iload 5, 2) := by decide +kernel
theorem dX11_tell_385 : decode cX11_tell 385 = .ok (.bipush 7, 2) := by decide +kernel
theorem dX11_tell_387 : decode cX11_tell 387 = .ok (.if_icmp .ne 8, 3) := by decide +kernel
theorem dX11_tell_390 : decode cX11_tell 390 = .ok (.aload_n 0, 1) := by decide +kernel
theorem dX11_tell_391 : decode cX11_tell 391 = .ok (.iconst 5, 1) := by decide +kernel
theorem dX11_tell_392 : decode cX11_tell 392 = .ok (.invokevirtual 276, 3) := by decide +kernel
theorem dX11_tell_395 : decode cX11_tell 395 = .ok (.aload_n 0, 1) := by decide +kernel
theorem dX11_tell_396 : decode cX11_tell 396 = .ok (.aload_n 1, 1) := by decide +kernel
theorem dX11_tell_397 : decode cX11_tell 397 = .ok (.aload_n 1, 1) := by decide +kernel
theorem dX11_tell_398 : decode cX11_tell 398 = .ok (.getfield 149, 3) := by decide +kernel
theorem dX11_tell_401 : decode cX11_tell 401 = .ok (.aload_n 1, 1) := by decide +kernel
theorem dX11_tell_402 : decode cX11_tell 402 = .ok (.getfield 160, 3) := by decide +kernel
theorem dX11_tell_405 : decode cX11_tell 405 = .ok (.iload_n 2, 1) := by decide +kernel
theorem dX11_tell_406 : decode cX11_tell 406 = .ok (.iaload, 1) := by decide +kernel
theorem dX11_tell_407 : decode cX11_tell 407 = .ok (.iaload, 1) := by decide +kernel
theorem dX11_tell_408 : decode cX11_tell 408 = .ok (.aload_n 3, 1) := by decide +kernel
theorem dX11_tell_409 : decode cX11_tell 409 = .ok (.aload_n 3, 1) := by decide +kernel
theorem dX11_tell_410 : decode cX11_tell 410 = .ok (.getfield 149, 3) := by decide +kernel
theorem dX11_tell_413 : decode cX11_tell 413 = .ok (.aload_n 3, 1) := by decide +kernel
theorem dX11_tell_414 : decode cX11_tell 414 = .ok (.getfield 160, 3) := by decide +kernel
theorem dX11_tell_417 : decode cX11_tell 417 = .ok (.iload 4, 2) := by decide +kernel
theorem dX11_tell_419 : decode cX11_tell 419 = .ok (.iaload, 1) := by decide +kernel
theorem dX11_tell_420 : decode cX11_tell 420 = .ok (.iaload, 1) := by decide +kernel
theorem dX11_tell_421 : decode cX11_tell 421 = .ok (.invokevirtual 266, 3) := by decide +kernel
theorem dX11_tell_424 : decode cX11_tell 424 = .ok (.lload 9, 2) := by decide +kernel
theorem dX11_tell_426 : decode cX11_tell 426 = .ok (.lconst 1, 1) := by decide +kernel
theorem dX11_tell_427 : decode cX11_tell 427 = .ok (.ladd, 1) := by decide +kernel
theorem dX11_tell_428 : decode cX11_tell 428 = .ok (.lstore 9, 2) := by decide +kernel
theorem dX11_tell_430 : decode cX11_tell 430 = .ok (.goto (-55), 3) := by decide +kernel
theorem dX11_tell_433 : decode cX11_tell 433 = .ok (.lload 7, 2) := by decide +kernel
theorem dX11_tell_435 : decode cX11_tell 435 = .ok (.lconst 0, 1) := by decide +kernel
theorem dX11_tell_436 : decode cX11_tell 436 = .ok (.lcmp, 1) := by decide +kernel
theorem dX11_tell_437 : decode cX11_tell 437 = .ok (.ifCond .le 8, 3) := by decide +kernel
theorem dX11_tell_440 : decode cX11_tell 440 = .ok (.aload_n 0, 1) := by decide +kernel
theorem dX11_tell_441 : decode cX11_tell 441 = .ok (.invokevirtual 256, 3) := by decide +kernel
theorem dX11_tell_444 : decode cX11_tell 444 = .ok (.pop2, 1) := by decide +kernel
theorem dX11_tell_445 : decode cX11_tell 445 = .ok (.aload_n 0, 1) := by decide +kernel
theorem dX11_tell_446 : decode cX11_tell 446 = .ok (.lconst 0, 1) := by decide +kernel
theorem dX11_tell_447 : decode cX11_tell 447 = .ok (.invokevirtual 273, 3) := by decide +kernel
theorem dX11_tell_450 : decode cX11_tell 450 = .ok (.return_, 1) := by decide +kernel
theorem dX11_tellSix_0 : decode cX11_tellSix 0 = .ok (.iload_n 1, 1) := by decide +kernel
theorem dX11_tellSix_1 : decode cX11_tellSix 1 = .ok (.tableswitch 54 0 3 #[31, 34, 43, 43], 31) := by decide +kernel
theorem dX11_tellSix_32 : decode cX11_tellSix 32 = .ok (.goto 39, 3) := by decide +kernel
theorem dX11_tellSix_35 : decode cX11_tellSix 35 = .ok (.aload_n 0, 1) := by decide +kernel
theorem dX11_tellSix_36 : decode cX11_tellSix 36 = .ok (.lconst 1, 1) := by decide +kernel
theorem dX11_tellSix_37 : decode cX11_tellSix 37 = .ok (.iconst 1, 1) := by decide +kernel
theorem dX11_tellSix_38 : decode cX11_tellSix 38 = .ok (.invokevirtual 259, 3) := by decide +kernel
theorem dX11_tellSix_41 : decode cX11_tellSix 41 = .ok (.goto 30, 3) := by decide +kernel
theorem dX11_tellSix_44 : decode cX11_tellSix 44 = .ok (.aload_n 0, 1) := by decide +kernel
theorem dX11_tellSix_45 : decode cX11_tellSix 45 = .ok (.aload_n 0, 1) := by decide +kernel
theorem dX11_tellSix_46 : decode cX11_tellSix 46 = .ok (.invokevirtual 256, 3) := by decide +kernel
theorem dX11_tellSix_49 : decode cX11_tellSix 49 = .ok (.invokevirtual 273, 3) := by decide +kernel
theorem dX11_tellSix_52 : decode cX11_tellSix 52 = .ok (.goto 19, 3) := by decide +kernel
theorem dX11_tellSix_55 : decode cX11_tellSix 55 = .ok (.aload_n 0, 1) := by decide +kernel
theorem dX11_tellSix_56 : decode cX11_tellSix 56 = .ok (.invokevirtual 256, 3) := by decide +kernel
theorem dX11_tellSix_59 : decode cX11_tellSix 59 = .ok (.lstore_n 2, 1) := by decide +kernel
theorem dX11_tellSix_60 : decode cX11_tellSix 60 = .ok (.aload_n 0, 1) := by decide +kernel
theorem dX11_tellSix_61 : decode cX11_tellSix 61 = .ok (.lload_n 2, 1) := by decide +kernel
theorem dX11_tellSix_62 : decode cX11_tellSix 62 = .ok (.invokevirtual 273, 3) := by decide +kernel
theorem dX11_tellSix_65 : decode cX11_tellSix 65 = .ok (.aload_n 0, 1) := by decide +kernel
theorem dX11_tellSix_66 : decode cX11_tellSix 66 = .ok (.lload_n 2, 1) := by decide +kernel
theorem dX11_tellSix_67 : decode cX11_tellSix 67 = .ok (.iconst 1, 1) := by decide +kernel
theorem dX11_tellSix_68 : decode cX11_tellSix 68 = .ok (.invokevirtual 259, 3) := by decide +kernel
theorem dX11_tellSix_71 : decode cX11_tellSix 71 = .ok (.return_, 1) := by decide +kernel
theorem dX11_tellRecord_0 : decode cX11_tellRecord 0 = .ok (.aload_n 0, 1) := by decide +kernel
theorem dX11_tellRecord_1 : decode cX11_tellRecord 1 = .ok (.getfield 253, 3) := by decide +kernel
theorem dX11_tellRecord_4 : decode cX11_tellRecord 4 = .ok (.istore 5, 2) := by decide +kernel
theorem dX11_tellRecord_6 : decode cX11_tellRecord 6 = .ok (.aload_n 3, 1) := by decide +kernel
theorem dX11_tellRecord_7 : decode cX11_tellRecord 7 = .ok (.getfield 160, 3) := by decide +kernel
theorem dX11_tellRecord_10 : decode cX11_tellRecord 10 = .ok (.iload 4, 2) := by decide +kernel
theorem dX11_tellRecord_12 : decode cX11_tellRecord 12 = .ok (.iaload, 1) := by decide +kernel
theorem dX11_tellRecord_13 : decode cX11_tellRecord 13 = .ok (.istore 6, 2) := by decide +kernel
theorem dX11_tellRecord_15 : decode cX11_tellRecord 15 = .ok (.iload 6, 2) := by decide +kernel
theorem dX11_tellRecord_17 : decode cX11_tellRecord 17 = .ok (.ifCond .lt 134, 3) := by decide +kernel
theorem dX11_tellRecord_20 : decode cX11_tellRecord 20 = .ok (.aload_n 1, 1) := by decide +kernel
theorem dX11_tellRecord_21 : decode cX11_tellRecord 21 = .ok (.iload_n 2, 1) := by decide +kernel
theorem dX11_tellRecord_22 : decode cX11_tellRecord 22 = .ok (.aload_n 3, 1) := by decide +kernel
theorem dX11_tellRecord_23 : decode cX11_tellRecord 23 = .ok (.iload 6, 2) := by decide +kernel
theorem dX11_tellRecord_25 : decode cX11_tellRecord 25 = .ok (.invokestatic 241, 3) := by decide +kernel
theorem dX11_tellRecord_28 : decode cX11_tellRecord 28 = .ok (.istore 7, 2) := by decide +kernel
theorem dX11_tellRecord_30 : decode cX11_tellRecord 30 = .ok (.iload 7, 2) := by decide +kernel
theorem dX11_tellRecord_32 : decode cX11_tellRecord 32 = .ok (.ifCond .lt 71, 3) := by decide +kernel
theorem dX11_tellRecord_35 : decode cX11_tellRecord 35 = .ok (.aload_n 0, 1) := by decide +kernel
theorem dX11_tellRecord_36 : decode cX11_tellRecord 36 = .ok (.iload 5, 2) := by decide +kernel
theorem dX11_tellRecord_38 : decode cX11_tellRecord 38 = .ok (.putfield 253, 3) := by decide +kernel
theorem dX11_tellRecord_41 : decode cX11_tellRecord 41 = .ok (.aload_n 1, 1) := by decide +kernel
theorem dX11_tellRecord_42 : decode cX11_tellRecord 42 = .ok (.getfield 160, 3) := by decide +kernel
theorem dX11_tellRecord_45 : decode cX11_tellRecord 45 = .ok (.iload_n 2, 1) := by decide +kernel
theorem dX11_tellRecord_46 : decode cX11_tellRecord 46 = .ok (.iaload, 1) := by decide +kernel
theorem dX11_tellRecord_47 : decode cX11_tellRecord 47 = .ok (.istore 8, 2) := by decide +kernel
theorem dX11_tellRecord_49 : decode cX11_tellRecord 49 = .ok (.iload 8, 2) := by decide +kernel
theorem dX11_tellRecord_51 : decode cX11_tellRecord 51 = .ok (.iload 7, 2) := by decide +kernel
theorem dX11_tellRecord_53 : decode cX11_tellRecord 53 = .ok (.if_icmp .eq 27, 3) := by decide +kernel
theorem dX11_tellRecord_56 : decode cX11_tellRecord 56 = .ok (.aload_n 0, 1) := by decide +kernel
theorem dX11_tellRecord_57 : decode cX11_tellRecord 57 = .ok (.aload_n 1, 1) := by decide +kernel
theorem dX11_tellRecord_58 : decode cX11_tellRecord 58 = .ok (.aload_n 1, 1) := by decide +kernel
theorem dX11_tellRecord_59 : decode cX11_tellRecord 59 = .ok (.getfield 149, 3) := by decide +kernel
theorem dX11_tellRecord_62 : decode cX11_tellRecord 62 = .ok (.iload 8, 2) := by decide +kernel
theorem dX11_tellRecord_64 : decode cX11_tellRecord 64 = .ok (.iaload, 1) := by decide +kernel
theorem dX11_tellRecord_65 : decode cX11_tellRecord 65 = .ok (.invokevirtual 263, 3) := by decide +kernel
theorem dX11_tellRecord_68 : decode cX11_tellRecord 68 = .ok (.aload_n 1, 1) := by decide +kernel
theorem dX11_tellRecord_69 : decode cX11_tellRecord 69 = .ok (.getfield 163, 3) := by decide +kernel
theorem dX11_tellRecord_72 : decode cX11_tellRecord 72 = .ok (.iload 8, 2) := by decide +kernel
theorem dX11_tellRecord_74 : decode cX11_tellRecord 74 = .ok (.iaload, 1) := by decide +kernel
theorem dX11_tellRecord_75 : decode cX11_tellRecord 75 = .ok (.istore 8, 2) := by decide +kernel
theorem dX11_tellRecord_77 : decode cX11_tellRecord 77 = .ok (.goto (-28), 3) := by decide +kernel
theorem dX11_tellRecord_80 : decode cX11_tellRecord 80 = .ok (.aload_n 0, 1) := by decide +kernel
theorem dX11_tellRecord_81 : decode cX11_tellRecord 81 = .ok (.aload_n 1, 1) := by decide +kernel
theorem dX11_tellRecord_82 : decode cX11_tellRecord 82 = .ok (.aload_n 1, 1) := by decide +kernel
theorem dX11_tellRecord_83 : decode cX11_tellRecord 83 = .ok (.getfield 149, 3) := by decide +kernel
theorem dX11_tellRecord_86 : decode cX11_tellRecord 86 = .ok (.iload 7, 2) := by decide +kernel
theorem dX11_tellRecord_88 : decode cX11_tellRecord 88 = .ok (.iaload, 1) := by decide +kernel
theorem dX11_tellRecord_89 : decode cX11_tellRecord 89 = .ok (.aload_n 3, 1) := by decide +kernel
theorem dX11_tellRecord_90 : decode cX11_tellRecord 90 = .ok (.aload_n 3, 1) := by decide +kernel
theorem dX11_tellRecord_91 : decode cX11_tellRecord 91 = .ok (.getfield 149, 3) := by decide +kernel
theorem dX11_tellRecord_94 : decode cX11_tellRecord 94 = .ok (.iload 6, 2) := by decide +kernel
theorem dX11_tellRecord_96 : decode cX11_tellRecord 96 = .ok (.iaload, 1) := by decide +kernel
theorem dX11_tellRecord_97 : decode cX11_tellRecord 97 = .ok (.invokevirtual 266, 3) := by decide +kernel
theorem dX11_tellRecord_100 : decode cX11_tellRecord 100 = .ok (.goto 39, 3) := by decide +kernel
theorem dX11_tellRecord_103 : decode cX11_tellRecord 103 = .ok (.aload_n 3, 1) := by decide +kernel
theorem dX11_tellRecord_104 : decode cX11_tellRecord 104 = .ok (.getfield 244, 3) := by decide +kernel
theorem dX11_tellRecord_107 : decode cX11_tellRecord 107 = .ok (.iload 6, 2) := by decide +kernel
theorem dX11_tellRecord_109 : decode cX11_tellRecord 109 = .ok (.iaload, 1) := by decide +kernel
theorem dX11_tellRecord_110 : decode cX11_tellRecord 110 = .ok (.ifCond .lt 25, 3) := by decide +kernel
theorem dX11_tellRecord_113 : decode cX11_tellRecord 113 = .ok (.aload_n 0, 1) := by decide +kernel
theorem dX11_tellRecord_114 : decode cX11_tellRecord 114 = .ok (.aload_n 3, 1) := by decide +kernel
theorem dX11_tellRecord_115 : decode cX11_tellRecord 115 = .ok (.aload_n 3, 1) := by decide +kernel
theorem dX11_tellRecord_116 : decode cX11_tellRecord 116 = .ok (.getfield 244, 3) := by decide +kernel
theorem dX11_tellRecord_119 : decode cX11_tellRecord 119 = .ok (.iload 6, 2) := by decide +kernel
theorem dX11_tellRecord_121 : decode cX11_tellRecord 121 = .ok (.iaload, 1) := by decide +kernel
theorem dX11_tellRecord_122 : decode cX11_tellRecord 122 = .ok (.aload_n 3, 1) := by decide +kernel
theorem dX11_tellRecord_123 : decode cX11_tellRecord 123 = .ok (.getfield 149, 3) := by decide +kernel
theorem dX11_tellRecord_126 : decode cX11_tellRecord 126 = .ok (.iload 6, 2) := by decide +kernel
theorem dX11_tellRecord_128 : decode cX11_tellRecord 128 = .ok (.iaload, 1) := by decide +kernel
theorem dX11_tellRecord_129 : decode cX11_tellRecord 129 = .ok (.invokevirtual 282, 3) := by decide +kernel
theorem dX11_tellRecord_132 : decode cX11_tellRecord 132 = .ok (.goto 7, 3) := by decide +kernel
theorem dX11_tellRecord_135 : decode cX11_tellRecord 135 = .ok (.aload_n 0, 1) := by decide +kernel
theorem dX11_tellRecord_136 : decode cX11_tellRecord 136 = .ok (.invokevirtual 270, 3) := by decide +kernel
theorem dX11_tellRecord_139 : decode cX11_tellRecord 139 = .ok (.aload_n 3, 1) := by decide +kernel
theorem dX11_tellRecord_140 : decode cX11_tellRecord 140 = .ok (.getfield 163, 3) := by decide +kernel
theorem dX11_tellRecord_143 : decode cX11_tellRecord 143 = .ok (.iload 6, 2) := by decide +kernel
theorem dX11_tellRecord_145 : decode cX11_tellRecord 145 = .ok (.iaload, 1) := by decide +kernel
theorem dX11_tellRecord_146 : decode cX11_tellRecord 146 = .ok (.istore 6, 2) := by decide +kernel
theorem dX11_tellRecord_148 : decode cX11_tellRecord 148 = .ok (.goto (-133), 3) := by decide +kernel
theorem dX11_tellRecord_151 : decode cX11_tellRecord 151 = .ok (.aload_n 0, 1) := by decide +kernel
theorem dX11_tellRecord_152 : decode cX11_tellRecord 152 = .ok (.iload 5, 2) := by decide +kernel
theorem dX11_tellRecord_154 : decode cX11_tellRecord 154 = .ok (.putfield 253, 3) := by decide +kernel
theorem dX11_tellRecord_157 : decode cX11_tellRecord 157 = .ok (.aload_n 0, 1) := by decide +kernel
theorem dX11_tellRecord_158 : decode cX11_tellRecord 158 = .ok (.aload_n 1, 1) := by decide +kernel
theorem dX11_tellRecord_159 : decode cX11_tellRecord 159 = .ok (.iload_n 2, 1) := by decide +kernel
theorem dX11_tellRecord_160 : decode cX11_tellRecord 160 = .ok (.invokevirtual 263, 3) := by decide +kernel
theorem dX11_tellRecord_163 : decode cX11_tellRecord 163 = .ok (.return_, 1) := by decide +kernel
theorem dX11_tellString_0 : decode cX11_tellString 0 = .ok (.iconst 0, 1) := by decide +kernel
theorem dX11_tellString_1 : decode cX11_tellString 1 = .ok (.istore_n 3, 1) := by decide +kernel
theorem dX11_tellString_2 : decode cX11_tellString 2 = .ok (.iload_n 3, 1) := by decide +kernel
theorem dX11_tellString_3 : decode cX11_tellString 3 = .ok (.aload_n 1, 1) := by decide +kernel
theorem dX11_tellString_4 : decode cX11_tellString 4 = .ok (.getfield 286, 3) := by decide +kernel
theorem dX11_tellString_7 : decode cX11_tellString 7 = .ok (.iload_n 2, 1) := by decide +kernel
theorem dX11_tellString_8 : decode cX11_tellString 8 = .ok (.iaload, 1) := by decide +kernel
theorem dX11_tellString_9 : decode cX11_tellString 9 = .ok (.if_icmp .ge 27, 3) := by decide +kernel
theorem dX11_tellString_12 : decode cX11_tellString 12 = .ok (.aload_n 0, 1) := by decide +kernel
theorem dX11_tellString_13 : decode cX11_tellString 13 = .ok (.aload_n 1, 1) := by decide +kernel
theorem dX11_tellString_14 : decode cX11_tellString 14 = .ok (.getfield 287, 3) := by decide +kernel
theorem dX11_tellString_17 : decode cX11_tellString 17 = .ok (.aload_n 1, 1) := by decide +kernel
theorem dX11_tellString_18 : decode cX11_tellString 18 = .ok (.getfield 290, 3) := by decide +kernel
theorem dX11_tellString_21 : decode cX11_tellString 21 = .ok (.iload_n 2, 1) := by decide +kernel
theorem dX11_tellString_22 : decode cX11_tellString 22 = .ok (.laload, 1) := by decide +kernel
theorem dX11_tellString_23 : decode cX11_tellString 23 = .ok (.l2i, 1) := by decide +kernel
theorem dX11_tellString_24 : decode cX11_tellString 24 = .ok (.iload_n 3, 1) := by decide +kernel
theorem dX11_tellString_25 : decode cX11_tellString 25 = .ok (.iadd, 1) := by decide +kernel
theorem dX11_tellString_26 : decode cX11_tellString 26 = .ok (.baload, 1) := by decide +kernel
theorem dX11_tellString_27 : decode cX11_tellString 27 = .ok (.invokevirtual 250, 3) := by decide +kernel
theorem dX11_tellString_30 : decode cX11_tellString 30 = .ok (.iinc 3 1, 3) := by decide +kernel
theorem dX11_tellString_33 : decode cX11_tellString 33 = .ok (.goto (-31), 3) := by decide +kernel
theorem dX11_tellString_36 : decode cX11_tellString 36 = .ok (.return_, 1) := by decide +kernel
theorem dX11_tellDefault_0 : decode cX11_tellDefault 0 = .ok (.aload_n 1, 1) := by decide +kernel
theorem dX11_tellDefault_1 : decode cX11_tellDefault 1 = .ok (.getfield 132, 3) := by decide +kernel
theorem dX11_tellDefault_4 : decode cX11_tellDefault 4 = .ok (.iload_n 3, 1) := by decide +kernel
theorem dX11_tellDefault_5 : decode cX11_tellDefault 5 = .ok (.iaload, 1) := by decide +kernel
theorem dX11_tellDefault_6 : decode cX11_tellDefault 6 = .ok (.tableswitch 292 0 11 #[62, 65, 87, 87, 100, 100, 221, 292, 144, 120, 129, 169], 62) := by decide +kernel
theorem dX11_tellDefault_68 : decode cX11_tellDefault 68 = .ok (.goto 355, 3) := by decide +kernel
theorem dX11_tellDefault_71 : decode cX11_tellDefault 71 = .ok (.aload_n 0, 1) := by decide +kernel
theorem dX11_tellDefault_72 : decode cX11_tellDefault 72 = .ok (.aload_n 1, 1) := by decide +kernel
theorem dX11_tellDefault_73 : decode cX11_tellDefault 73 = .ok (.getfield 294, 3) := by decide +kernel
theorem dX11_tellDefault_76 : decode cX11_tellDefault 76 = .ok (.iload_n 2, 1) := by decide +kernel
theorem dX11_tellDefault_77 : decode cX11_tellDefault 77 = .ok (.iaload, 1) := by decide +kernel
theorem dX11_tellDefault_78 : decode cX11_tellDefault 78 = .ok (.iconst 4, 1) := by decide +kernel
theorem dX11_tellDefault_79 : decode cX11_tellDefault 79 = .ok (.if_icmp .ne 7, 3) := by decide +kernel
theorem dX11_tellDefault_82 : decode cX11_tellDefault 82 = .ok (.iconst 1, 1) := by decide +kernel
theorem dX11_tellDefault_83 : decode cX11_tellDefault 83 = .ok (.goto 4, 3) := by decide +kernel
theorem dX11_tellDefault_86 : decode cX11_tellDefault 86 = .ok (.iconst 0, 1) := by decide +kernel
theorem dX11_tellDefault_87 : decode cX11_tellDefault 87 = .ok (.invokevirtual 250, 3) := by decide +kernel
theorem dX11_tellDefault_90 : decode cX11_tellDefault 90 = .ok (.goto 333, 3) := by decide +kernel
theorem dX11_tellDefault_93 : decode cX11_tellDefault 93 = .ok (.aload_n 0, 1) := by decide +kernel
theorem dX11_tellDefault_94 : decode cX11_tellDefault 94 = .ok (.aload_n 1, 1) := by decide +kernel
theorem dX11_tellDefault_95 : decode cX11_tellDefault 95 = .ok (.getfield 290, 3) := by decide +kernel
theorem dX11_tellDefault_98 : decode cX11_tellDefault 98 = .ok (.iload_n 2, 1) := by decide +kernel
theorem dX11_tellDefault_99 : decode cX11_tellDefault 99 = .ok (.laload, 1) := by decide +kernel
theorem dX11_tellDefault_100 : decode cX11_tellDefault 100 = .ok (.invokevirtual 273, 3) := by decide +kernel
theorem dX11_tellDefault_103 : decode cX11_tellDefault 103 = .ok (.goto 320, 3) := by decide +kernel
theorem dX11_tellDefault_106 : decode cX11_tellDefault 106 = .ok (.aload_n 0, 1) := by decide +kernel
theorem dX11_tellDefault_107 : decode cX11_tellDefault 107 = .ok (.aload_n 1, 1) := by decide +kernel
theorem dX11_tellDefault_108 : decode cX11_tellDefault 108 = .ok (.getfield 286, 3) := by decide +kernel
theorem dX11_tellDefault_111 : decode cX11_tellDefault 111 = .ok (.iload_n 2, 1) := by decide +kernel
theorem dX11_tellDefault_112 : decode cX11_tellDefault 112 = .ok (.iaload, 1) := by decide +kernel
theorem dX11_tellDefault_113 : decode cX11_tellDefault 113 = .ok (.i2l, 1) := by decide +kernel
theorem dX11_tellDefault_114 : decode cX11_tellDefault 114 = .ok (.invokevirtual 273, 3) := by decide +kernel
theorem dX11_tellDefault_117 : decode cX11_tellDefault 117 = .ok (.aload_n 0, 1) := by decide +kernel
theorem dX11_tellDefault_118 : decode cX11_tellDefault 118 = .ok (.aload_n 1, 1) := by decide +kernel
theorem dX11_tellDefault_119 : decode cX11_tellDefault 119 = .ok (.iload_n 2, 1) := by decide +kernel
theorem dX11_tellDefault_120 : decode cX11_tellDefault 120 = .ok (.invokevirtual 297, 3) := by decide +kernel
theorem dX11_tellDefault_123 : decode cX11_tellDefault 123 = .ok (.goto 300, 3) := by decide +kernel
theorem dX11_tellDefault_126 : decode cX11_tellDefault 126 = .ok (.aload_n 0, 1) := by decide +kernel
theorem dX11_tellDefault_127 : decode cX11_tellDefault 127 = .ok (.aload_n 1, 1) := by decide +kernel
theorem dX11_tellDefault_128 : decode cX11_tellDefault 128 = .ok (.iload_n 2, 1) := by decide +kernel
theorem dX11_tellDefault_129 : decode cX11_tellDefault 129 = .ok (.invokevirtual 297, 3) := by decide +kernel
theorem dX11_tellDefault_132 : decode cX11_tellDefault 132 = .ok (.goto 291, 3) := by decide +kernel
theorem dX11_tellDefault_135 : decode cX11_tellDefault 135 = .ok (.aload_n 0, 1) := by decide +kernel
theorem dX11_tellDefault_136 : decode cX11_tellDefault 136 = .ok (.aload_n 1, 1) := by decide +kernel
theorem dX11_tellDefault_137 : decode cX11_tellDefault 137 = .ok (.iload_n 3, 1) := by decide +kernel
theorem dX11_tellDefault_138 : decode cX11_tellDefault 138 = .ok (.aload_n 1, 1) := by decide +kernel
theorem dX11_tellDefault_139 : decode cX11_tellDefault 139 = .ok (.iload_n 2, 1) := by decide +kernel
theorem dX11_tellDefault_140 : decode cX11_tellDefault 140 = .ok (.invokevirtual 234, 3) := by decide +kernel
theorem dX11_tellDefault_143 : decode cX11_tellDefault 143 = .ok (.i2l, 1) := by decide +kernel
theorem dX11_tellDefault_144 : decode cX11_tellDefault 144 = .ok (.invokevirtual 273, 3) := by decide +kernel
theorem dX11_tellDefault_147 : decode cX11_tellDefault 147 = .ok (.goto 276, 3) := by decide +kernel
theorem dX11_tellDefault_150 : decode cX11_tellDefault 150 = .ok (.aload_n 0, 1) := by decide +kernel
theorem dX11_tellDefault_151 : decode cX11_tellDefault 151 = .ok (.lconst 0, 1) := by decide +kernel
theorem dX11_tellDefault_152 : decode cX11_tellDefault 152 = .ok (.invokevirtual 273, 3) := by decide +kernel
theorem dX11_tellDefault_155 : decode cX11_tellDefault 155 = .ok (.aload_n 0, 1) := by decide +kernel
theorem dX11_tellDefault_156 : decode cX11_tellDefault 156 = .ok (.aload_n 1, 1) := by decide +kernel
theorem dX11_tellDefault_157 : decode cX11_tellDefault 157 = .ok (.iload_n 2, 1) := by decide +kernel
theorem dX11_tellDefault_158 : decode cX11_tellDefault 158 = .ok (.aload_n 1, 1) := by decide +kernel
theorem dX11_tellDefault_159 : decode cX11_tellDefault 159 = .ok (.getfield 149, 3) := by decide +kernel
theorem dX11_tellDefault_162 : decode cX11_tellDefault 162 = .ok (.aload_n 1, 1) := by decide +kernel
theorem dX11_tellDefault_163 : decode cX11_tellDefault 163 = .ok (.getfield 160, 3) := by decide +kernel
theorem dX11_tellDefault_166 : decode cX11_tellDefault 166 = .ok (.iload_n 3, 1) := by decide +kernel
theorem dX11_tellDefault_167 : decode cX11_tellDefault 167 = .ok (.iaload, 1) := by decide +kernel
theorem dX11_tellDefault_168 : decode cX11_tellDefault 168 = .ok (.iaload, 1) := by decide +kernel
theorem dX11_tellDefault_169 : decode cX11_tellDefault 169 = .ok (.invokevirtual 282, 3) := by decide +kernel
theorem dX11_tellDefault_172 : decode cX11_tellDefault 172 = .ok (.goto 251, 3) := by decide +kernel
theorem dX11_tellDefault_175 : decode cX11_tellDefault 175 = .ok (.aload_n 1, 1) := by decide +kernel
theorem dX11_tellDefault_176 : decode cX11_tellDefault 176 = .ok (.getfield 160, 3) := by decide +kernel
theorem dX11_tellDefault_179 : decode cX11_tellDefault 179 = .ok (.iload_n 3, 1) := by decide +kernel
theorem dX11_tellDefault_180 : decode cX11_tellDefault 180 = .ok (.iaload, 1) := by decide +kernel
theorem dX11_tellDefault_181 : decode cX11_tellDefault 181 = .ok (.istore 4, 2) := by decide +kernel
theorem dX11_tellDefault_183 : decode cX11_tellDefault 183 = .ok (.iload 4, 2) := by decide +kernel
theorem dX11_tellDefault_185 : decode cX11_tellDefault 185 = .ok (.ifCond .lt 39, 3) := by decide +kernel
theorem dX11_tellDefault_188 : decode cX11_tellDefault 188 = .ok (.aload_n 0, 1) := by decide +kernel
theorem dX11_tellDefault_189 : decode cX11_tellDefault 189 = .ok (.aload_n 1, 1) := by decide +kernel
theorem dX11_tellDefault_190 : decode cX11_tellDefault 190 = .ok (.aload_n 1, 1) := by decide +kernel
theorem dX11_tellDefault_191 : decode cX11_tellDefault 191 = .ok (.iload_n 2, 1) := by decide +kernel
theorem dX11_tellDefault_192 : decode cX11_tellDefault 192 = .ok (.aload_n 1, 1) := by decide +kernel
theorem dX11_tellDefault_193 : decode cX11_tellDefault 193 = .ok (.getfield 231, 3) := by decide +kernel
theorem dX11_tellDefault_196 : decode cX11_tellDefault 196 = .ok (.iload 4, 2) := by decide +kernel
theorem dX11_tellDefault_198 : decode cX11_tellDefault 198 = .ok (.iaload, 1) := by decide +kernel
theorem dX11_tellDefault_199 : decode cX11_tellDefault 199 = .ok (.invokevirtual 300, 3) := by decide +kernel
theorem dX11_tellDefault_202 : decode cX11_tellDefault 202 = .ok (.aload_n 1, 1) := by decide +kernel
theorem dX11_tellDefault_203 : decode cX11_tellDefault 203 = .ok (.getfield 149, 3) := by decide +kernel
theorem dX11_tellDefault_206 : decode cX11_tellDefault 206 = .ok (.iload 4, 2) := by decide +kernel
theorem dX11_tellDefault_208 : decode cX11_tellDefault 208 = .ok (.iaload, 1) := by decide +kernel
theorem dX11_tellDefault_209 : decode cX11_tellDefault 209 = .ok (.invokevirtual 282, 3) := by decide +kernel
theorem dX11_tellDefault_212 : decode cX11_tellDefault 212 = .ok (.aload_n 1, 1) := by decide +kernel
theorem dX11_tellDefault_213 : decode cX11_tellDefault 213 = .ok (.getfield 163, 3) := by decide +kernel
theorem dX11_tellDefault_216 : decode cX11_tellDefault 216 = .ok (.iload 4, 2) := by decide +kernel
theorem dX11_tellDefault_218 : decode cX11_tellDefault 218 = .ok (.iaload, 1) := by decide +kernel
theorem dX11_tellDefault_219 : decode cX11_tellDefault 219 = .ok (.istore 4, 2) := by decide +kernel
theorem dX11_tellDefault_221 : decode cX11_tellDefault 221 = .ok (.goto (-38), 3) := by decide +kernel
theorem dX11_tellDefault_224 : decode cX11_tellDefault 224 = .ok (.goto 199, 3) := by decide +kernel
theorem dX11_tellDefault_227 : decode cX11_tellDefault 227 = .ok (.aload_n 1, 1) := by decide +kernel
theorem dX11_tellDefault_228 : decode cX11_tellDefault 228 = .ok (.getfield 303, 3) := by decide +kernel
theorem dX11_tellDefault_231 : decode cX11_tellDefault 231 = .ok (.iload_n 2, 1) := by decide +kernel
theorem dX11_tellDefault_232 : decode cX11_tellDefault 232 = .ok (.iaload, 1) := by decide +kernel
theorem dX11_tellDefault_233 : decode cX11_tellDefault 233 = .ok (.ifCond .lt 14, 3) := by decide +kernel
theorem dX11_tellDefault_236 : decode cX11_tellDefault 236 = .ok (.aload_n 0, 1) := by decide +kernel
theorem dX11_tellDefault_237 : decode cX11_tellDefault 237 = .ok (.aload_n 1, 1) := by decide +kernel
theorem dX11_tellDefault_238 : decode cX11_tellDefault 238 = .ok (.getfield 286, 3) := by decide +kernel
theorem dX11_tellDefault_241 : decode cX11_tellDefault 241 = .ok (.iload_n 2, 1) := by decide +kernel
theorem dX11_tellDefault_242 : decode cX11_tellDefault 242 = .ok (.iaload, 1) := by decide +kernel
theorem dX11_tellDefault_243 : decode cX11_tellDefault 243 = .ok (.i2l, 1) := by decide +kernel
theorem dX11_tellDefault_244 : decode cX11_tellDefault 244 = .ok (.invokevirtual 273, 3) := by decide +kernel
theorem dX11_tellDefault_247 : decode cX11_tellDefault 247 = .ok (.aload_n 1, 1) := by decide +kernel
theorem dX11_tellDefault_248 : decode cX11_tellDefault 248 = .ok (.getfield 303, 3) := by decide +kernel
theorem dX11_tellDefault_251 : decode cX11_tellDefault 251 = .ok (.iload_n 2, 1) := by decide +kernel
theorem dX11_tellDefault_252 : decode cX11_tellDefault 252 = .ok (.iaload, 1) := by decide +kernel
theorem dX11_tellDefault_253 : decode cX11_tellDefault 253 = .ok (.istore 4, 2) := by decide +kernel
theorem dX11_tellDefault_255 : decode cX11_tellDefault 255 = .ok (.iload 4, 2) := by decide +kernel
theorem dX11_tellDefault_257 : decode cX11_tellDefault 257 = .ok (.ifCond .lt 33, 3) := by decide +kernel
theorem dX11_tellDefault_260 : decode cX11_tellDefault 260 = .ok (.aload_n 0, 1) := by decide +kernel
theorem dX11_tellDefault_261 : decode cX11_tellDefault 261 = .ok (.aload_n 1, 1) := by decide +kernel
theorem dX11_tellDefault_262 : decode cX11_tellDefault 262 = .ok (.iload 4, 2) := by decide +kernel
theorem dX11_tellDefault_264 : decode cX11_tellDefault 264 = .ok (.aload_n 1, 1) := by decide +kernel
theorem dX11_tellDefault_265 : decode cX11_tellDefault 265 = .ok (.getfield 149, 3) := by decide +kernel
theorem dX11_tellDefault_268 : decode cX11_tellDefault 268 = .ok (.aload_n 1, 1) := by decide +kernel
theorem dX11_tellDefault_269 : decode cX11_tellDefault 269 = .ok (.getfield 160, 3) := by decide +kernel
theorem dX11_tellDefault_272 : decode cX11_tellDefault 272 = .ok (.iload_n 3, 1) := by decide +kernel
theorem dX11_tellDefault_273 : decode cX11_tellDefault 273 = .ok (.iaload, 1) := by decide +kernel
theorem dX11_tellDefault_274 : decode cX11_tellDefault 274 = .ok (.iaload, 1) := by decide +kernel
theorem dX11_tellDefault_275 : decode cX11_tellDefault 275 = .ok (.invokevirtual 282, 3) := by decide +kernel
theorem dX11_tellDefault_278 : decode cX11_tellDefault 278 = .ok (.aload_n 1, 1) := by decide +kernel
theorem dX11_tellDefault_279 : decode cX11_tellDefault 279 = .ok (.getfield 306, 3) := by decide +kernel
theorem dX11_tellDefault_282 : decode cX11_tellDefault 282 = .ok (.iload 4, 2) := by decide +kernel
theorem dX11_tellDefault_284 : decode cX11_tellDefault 284 = .ok (.iaload, 1) := by decide +kernel
theorem dX11_tellDefault_285 : decode cX11_tellDefault 285 = .ok (.istore 4, 2) := by decide +kernel
theorem dX11_tellDefault_287 : decode cX11_tellDefault 287 = .ok (.goto (-32), 3) := by decide +kernel
theorem dX11_tellDefault_290 : decode cX11_tellDefault 290 = .ok (.aload_n 0, 1) := by decide +kernel
theorem dX11_tellDefault_291 : decode cX11_tellDefault 291 = .ok (.lconst 0, 1) := by decide +kernel
theorem dX11_tellDefault_292 : decode cX11_tellDefault 292 = .ok (.invokevirtual 273, 3) := by decide +kernel
theorem dX11_tellDefault_295 : decode cX11_tellDefault 295 = .ok (.goto 128, 3) := by decide +kernel
theorem dX11_tellDefault_298 : decode cX11_tellDefault 298 = .ok (.iconst 0, 1) := by decide +kernel
theorem dX11_tellDefault_299 : decode cX11_tellDefault 299 = .ok (.istore 4, 2) := by decide +kernel
theorem dX11_tellDefault_301 : decode cX11_tellDefault 301 = .ok (.aload_n 1, 1) := by decide +kernel
theorem dX11_tellDefault_302 : decode cX11_tellDefault 302 = .ok (.getfield 303, 3) := by decide +kernel
theorem dX11_tellDefault_305 : decode cX11_tellDefault 305 = .ok (.iload_n 2, 1) := by decide +kernel
theorem dX11_tellDefault_306 : decode cX11_tellDefault 306 = .ok (.iaload, 1) := by decide +kernel
theorem dX11_tellDefault_307 : decode cX11_tellDefault 307 = .ok (.istore 5, 2) := by decide +kernel
theorem dX11_tellDefault_309 : decode cX11_tellDefault 309 = .ok (.iload 5, 2) := by decide +kernel
theorem dX11_tellDefault_311 : decode cX11_tellDefault 311 = .ok (.ifCond .lt 23, 3) := by decide +kernel
theorem dX11_tellDefault_314 : decode cX11_tellDefault 314 = .ok (.iinc 4 1, 3) := by decide +kernel
theorem dX11_tellDefault_317 : decode cX11_tellDefault 317 = .ok (.aload_n 1, 1) := by decide +kernel
theorem dX11_tellDefault_318 : decode cX11_tellDefault 318 = .ok (.getfield 306, 3) := by decide +kernel
theorem dX11_tellDefault_321 : decode cX11_tellDefault 321 = .ok (.aload_n 1, 1) := by decide +kernel
theorem dX11_tellDefault_322 : decode cX11_tellDefault 322 = .ok (.getfield 306, 3) := by decide +kernel
theorem dX11_tellDefault_325 : decode cX11_tellDefault 325 = .ok (.iload 5, 2) := by decide +kernel
theorem dX11_tellDefault_327 : decode cX11_tellDefault 327 = .ok (.iaload, 1) := by decide +kernel
theorem dX11_tellDefault_328 : decode cX11_tellDefault 328 = .ok (.iaload, 1) := by decide +kernel
theorem dX11_tellDefault_329 : decode cX11_tellDefault 329 = .ok (.istore 5, 2) := by decide +kernel
theorem dX11_tellDefault_331 : decode cX11_tellDefault 331 = .ok (.goto (-22), 3) := by decide +kernel
theorem dX11_tellDefault_334 : decode cX11_tellDefault 334 = .ok (.iload 4, 2) := by decide +kernel
theorem dX11_tellDefault_336 : decode cX11_tellDefault 336 = .ok (.ifCond .le 10, 3) := by decide +kernel
theorem dX11_tellDefault_339 : decode cX11_tellDefault 339 = .ok (.aload_n 0, 1) := by decide +kernel
theorem dX11_tellDefault_340 : decode cX11_tellDefault 340 = .ok (.iload 4, 2) := by decide +kernel
theorem dX11_tellDefault_342 : decode cX11_tellDefault 342 = .ok (.i2l, 1) := by decide +kernel
theorem dX11_tellDefault_343 : decode cX11_tellDefault 343 = .ok (.invokevirtual 273, 3) := by decide +kernel
theorem dX11_tellDefault_346 : decode cX11_tellDefault 346 = .ok (.aload_n 1, 1) := by decide +kernel
theorem dX11_tellDefault_347 : decode cX11_tellDefault 347 = .ok (.getfield 303, 3) := by decide +kernel
theorem dX11_tellDefault_350 : decode cX11_tellDefault 350 = .ok (.iload_n 2, 1) := by decide +kernel
theorem dX11_tellDefault_351 : decode cX11_tellDefault 351 = .ok (.iaload, 1) := by decide +kernel
theorem dX11_tellDefault_352 : decode cX11_tellDefault 352 = .ok (.istore 5, 2) := by decide +kernel
theorem dX11_tellDefault_354 : decode cX11_tellDefault 354 = .ok (.iload 5, 2) := by decide +kernel
theorem dX11_tellDefault_356 : decode cX11_tellDefault 356 = .ok (.ifCond .lt 62, 3) := by decide +kernel
theorem dX11_tellDefault_359 : decode cX11_tellDefault 359 = .ok (.aload_n 0, 1) := by decide +kernel
theorem dX11_tellDefault_360 : decode cX11_tellDefault 360 = .ok (.aload_n 1, 1) := by decide +kernel
theorem dX11_tellDefault_361 : decode cX11_tellDefault 361 = .ok (.getfield 286, 3) := by decide +kernel
theorem dX11_tellDefault_364 : decode cX11_tellDefault 364 = .ok (.iload 5, 2) := by decide +kernel
theorem dX11_tellDefault_366 : decode cX11_tellDefault 366 = .ok (.iaload, 1) := by decide +kernel
theorem dX11_tellDefault_367 : decode cX11_tellDefault 367 = .ok (.i2l, 1) := by decide +kernel
theorem dX11_tellDefault_368 : decode cX11_tellDefault 368 = .ok (.invokevirtual 273, 3) := by decide +kernel
theorem dX11_tellDefault_371 : decode cX11_tellDefault 371 = .ok (.aload_n 0, 1) := by decide +kernel
theorem dX11_tellDefault_372 : decode cX11_tellDefault 372 = .ok (.aload_n 1, 1) := by decide +kernel
theorem dX11_tellDefault_373 : decode cX11_tellDefault 373 = .ok (.iload 5, 2) := by decide +kernel
theorem dX11_tellDefault_375 : decode cX11_tellDefault 375 = .ok (.invokevirtual 297, 3) := by decide +kernel
theorem dX11_tellDefault_378 : decode cX11_tellDefault 378 = .ok (.aload_n 0, 1) := by decide +kernel
theorem dX11_tellDefault_379 : decode cX11_tellDefault 379 = .ok (.aload_n 1, 1) := by decide +kernel
theorem dX11_tellDefault_380 : decode cX11_tellDefault 380 = .ok (.aload_n 1, 1) := by decide +kernel
theorem dX11_tellDefault_381 : decode cX11_tellDefault 381 = .ok (.getfield 306, 3) := by decide +kernel
theorem dX11_tellDefault_384 : decode cX11_tellDefault 384 = .ok (.iload 5, 2) := by decide +kernel
theorem dX11_tellDefault_386 : decode cX11_tellDefault 386 = .ok (.iaload, 1) := by decide +kernel
theorem dX11_tellDefault_387 : decode cX11_tellDefault 387 = .ok (.aload_n 1, 1) := by decide +kernel
theorem dX11_tellDefault_388 : decode cX11_tellDefault 388 = .ok (.getfield 149, 3) := by decide +kernel
theorem dX11_tellDefault_391 : decode cX11_tellDefault 391 = .ok (.aload_n 1, 1) := by decide +kernel
theorem dX11_tellDefault_392 : decode cX11_tellDefault 392 = .ok (.getfield 160, 3) := by decide +kernel
theorem dX11_tellDefault_395 : decode cX11_tellDefault 395 = .ok (.iload_n 3, 1) := by decide +kernel
theorem dX11_tellDefault_396 : decode cX11_tellDefault 396 = .ok (.iaload, 1) := by decide +kernel
theorem dX11_tellDefault_397 : decode cX11_tellDefault 397 = .ok (.iaload, 1) := by decide +kernel
theorem dX11_tellDefault_398 : decode cX11_tellDefault 398 = .ok (.invokevirtual 282, 3) := by decide +kernel
theorem dX11_tellDefault_401 : decode cX11_tellDefault 401 = .ok (.aload_n 1, 1) := by decide +kernel
theorem dX11_tellDefault_402 : decode cX11_tellDefault 402 = .ok (.getfield 306, 3) := by decide +kernel
theorem dX11_tellDefault_405 : decode cX11_tellDefault 405 = .ok (.aload_n 1, 1) := by decide +kernel
theorem dX11_tellDefault_406 : decode cX11_tellDefault 406 = .ok (.getfield 306, 3) := by decide +kernel
theorem dX11_tellDefault_409 : decode cX11_tellDefault 409 = .ok (.iload 5, 2) := by decide +kernel
theorem dX11_tellDefault_411 : decode cX11_tellDefault 411 = .ok (.iaload, 1) := by decide +kernel
theorem dX11_tellDefault_412 : decode cX11_tellDefault 412 = .ok (.iaload, 1) := by decide +kernel
theorem dX11_tellDefault_413 : decode cX11_tellDefault 413 = .ok (.istore 5, 2) := by decide +kernel
theorem dX11_tellDefault_415 : decode cX11_tellDefault 415 = .ok (.goto (-61), 3) := by decide +kernel
theorem dX11_tellDefault_418 : decode cX11_tellDefault 418 = .ok (.aload_n 0, 1) := by decide +kernel
theorem dX11_tellDefault_419 : decode cX11_tellDefault 419 = .ok (.lconst 0, 1) := by decide +kernel
theorem dX11_tellDefault_420 : decode cX11_tellDefault 420 = .ok (.invokevirtual 273, 3) := by decide +kernel
theorem dX11_tellDefault_423 : decode cX11_tellDefault 423 = .ok (.return_, 1) := by decide +kernel
theorem dX11_tellRow_0 : decode cX11_tellRow 0 = .ok (.aload_n 0, 1) := by decide +kernel
theorem dX11_tellRow_1 : decode cX11_tellRow 1 = .ok (.aload_n 0, 1) := by decide +kernel
theorem dX11_tellRow_2 : decode cX11_tellRow 2 = .ok (.getfield 115, 3) := by decide +kernel
theorem dX11_tellRow_5 : decode cX11_tellRow 5 = .ok (.iload_n 1, 1) := by decide +kernel
theorem dX11_tellRow_6 : decode cX11_tellRow 6 = .ok (.iadd, 1) := by decide +kernel
theorem dX11_tellRow_7 : decode cX11_tellRow 7 = .ok (.putfield 247, 3) := by decide +kernel
theorem dX11_tellRow_10 : decode cX11_tellRow 10 = .ok (.aload_n 0, 1) := by decide +kernel
theorem dX11_tellRow_11 : decode cX11_tellRow 11 = .ok (.aload_n 0, 1) := by decide +kernel
theorem dX11_tellRow_12 : decode cX11_tellRow 12 = .ok (.getfield 20, 3) := by decide +kernel
theorem dX11_tellRow_15 : decode cX11_tellRow 15 = .ok (.aload_n 0, 1) := by decide +kernel
theorem dX11_tellRow_16 : decode cX11_tellRow 16 = .ok (.getfield 20, 3) := by decide +kernel
theorem dX11_tellRow_19 : decode cX11_tellRow 19 = .ok (.getfield 188, 3) := by decide +kernel
theorem dX11_tellRow_22 : decode cX11_tellRow 22 = .ok (.aload_n 0, 1) := by decide +kernel
theorem dX11_tellRow_23 : decode cX11_tellRow 23 = .ok (.getfield 24, 3) := by decide +kernel
theorem dX11_tellRow_26 : decode cX11_tellRow 26 = .ok (.aload_n 0, 1) := by decide +kernel
theorem dX11_tellRow_27 : decode cX11_tellRow 27 = .ok (.getfield 24, 3) := by decide +kernel
theorem dX11_tellRow_30 : decode cX11_tellRow 30 = .ok (.getfield 188, 3) := by decide +kernel
theorem dX11_tellRow_33 : decode cX11_tellRow 33 = .ok (.invokevirtual 266, 3) := by decide +kernel
theorem dX11_tellRow_36 : decode cX11_tellRow 36 = .ok (.goto 10, 3) := by decide +kernel
theorem dX11_tellRow_39 : decode cX11_tellRow 39 = .ok (.astore_n 2, 1) := by decide +kernel
theorem dX11_tellRow_40 : decode cX11_tellRow 40 = .ok (.aload_n 0, 1) := by decide +kernel
theorem dX11_tellRow_41 : decode cX11_tellRow 41 = .ok (.getfield 87, 3) := by decide +kernel
theorem dX11_tellRow_44 : decode cX11_tellRow 44 = .ok (.ineg, 1) := by decide +kernel
theorem dX11_tellRow_45 : decode cX11_tellRow 45 = .ok (.ireturn, 1) := by decide +kernel
theorem dX11_tellRow_46 : decode cX11_tellRow 46 = .ok (.iconst 0, 1) := by decide +kernel
theorem dX11_tellRow_47 : decode cX11_tellRow 47 = .ok (.ireturn, 1) := by decide +kernel
theorem dX11_read__0 : decode cX11_read_ 0 = .ok (.iload_n 1, 1) := by decide +kernel
theorem dX11_read__1 : decode cX11_read_ 1 = .ok (.invokestatic 76, 3) := by decide +kernel
theorem dX11_read__4 : decode cX11_read_ 4 = .ok (.ifCond .eq 17, 3) := by decide +kernel
theorem dX11_read__7 : decode cX11_read_ 7 = .ok (.iload_n 2, 1) := by decide +kernel
theorem dX11_read__8 : decode cX11_read_ 8 = .ok (.iconst 0, 1) := by decide +kernel
theorem dX11_read__9 : decode cX11_read_ 9 = .ok (.aload_n 0, 1) := by decide +kernel
theorem dX11_read__10 : decode cX11_read_ 10 = .ok (.getfield 81, 3) := by decide +kernel
theorem dX11_read__13 : decode cX11_read_ 13 = .ok (.iconst 1, 1) := by decide +kernel
theorem dX11_read__14 : decode cX11_read_ 14 = .ok (.isub, 1) := by decide +kernel
theorem dX11_read__15 : decode cX11_read_ 15 = .ok (.invokestatic 68, 3) := by decide +kernel
theorem dX11_read__18 : decode cX11_read_ 18 = .ok (.ifCond .ne 7, 3) := by decide +kernel
theorem dX11_read__21 : decode cX11_read_ 21 = .ok (.iconst 1, 1) := by decide +kernel
theorem dX11_read__22 : decode cX11_read_ 22 = .ok (.goto 4, 3) := by decide +kernel
theorem dX11_read__25 : decode cX11_read_ 25 = .ok (.iconst 0, 1) := by decide +kernel
theorem dX11_read__26 : decode cX11_read_ 26 = .ok (.istore_n 3, 1) := by decide +kernel
theorem dX11_read__27 : decode cX11_read_ 27 = .ok (.aload_n 0, 1) := by decide +kernel
theorem dX11_read__28 : decode cX11_read_ 28 = .ok (.iload_n 3, 1) := by decide +kernel
theorem dX11_read__29 : decode cX11_read_ 29 = .ok (.iload_n 3, 1) := by decide +kernel
theorem dX11_read__30 : decode cX11_read_ 30 = .ok (.ifCond .ne 16, 3) := by decide +kernel
theorem dX11_read__33 : decode cX11_read_ 33 = .ok (.aload_n 0, 1) := by decide +kernel
theorem dX11_read__34 : decode cX11_read_ 34 = .ok (.getfield 31, 3) := by decide +kernel
theorem dX11_read__37 : decode cX11_read_ 37 = .ok (.iload_n 1, 1) := by decide +kernel
theorem dX11_read__38 : decode cX11_read_ 38 = .ok (.iaload, 1) := by decide +kernel
theorem dX11_read__39 : decode cX11_read_ 39 = .ok (.ifCond .ge 7, 3) := by decide +kernel
theorem dX11_read__42 : decode cX11_read_ 42 = .ok (.iconst 1, 1) := by decide +kernel
theorem dX11_read__43 : decode cX11_read_ 43 = .ok (.goto 4, 3) := by decide +kernel
theorem dX11_read__46 : decode cX11_read_ 46 = .ok (.iconst 0, 1) := by decide +kernel
theorem dX11_read__47 : decode cX11_read_ 47 = .ok (.invokevirtual 60, 3) := by decide +kernel
theorem dX11_read__50 : decode cX11_read_ 50 = .ok (.ifCond .eq 5, 3) := by decide +kernel
theorem dX11_read__53 : decode cX11_read_ 53 = .ok (.iconst 0, 1) := by decide +kernel
theorem dX11_read__54 : decode cX11_read_ 54 = .ok (.ireturn, 1) := by decide +kernel
theorem dX11_read__55 : decode cX11_read_ 55 = .ok (.aload_n 0, 1) := by decide +kernel
theorem dX11_read__56 : decode cX11_read_ 56 = .ok (.aload_n 0, 1) := by decide +kernel
theorem dX11_read__57 : decode cX11_read_ 57 = .ok (.getfield 20, 3) := by decide +kernel
theorem dX11_read__60 : decode cX11_read_ 60 = .ok (.aload_n 0, 1) := by decide +kernel
theorem dX11_read__61 : decode cX11_read_ 61 = .ok (.getfield 38, 3) := by decide +kernel
theorem dX11_read__64 : decode cX11_read_ 64 = .ok (.invokevirtual 191, 3) := by decide +kernel
theorem dX11_read__67 : decode cX11_read_ 67 = .ok (.aload_n 0, 1) := by decide +kernel
theorem dX11_read__68 : decode cX11_read_ 68 = .ok (.aload_n 0, 1) := by decide +kernel
theorem dX11_read__69 : decode cX11_read_ 69 = .ok (.getfield 24, 3) := by decide +kernel
theorem dX11_read__72 : decode cX11_read_ 72 = .ok (.iload_n 1, 1) := by decide +kernel
theorem dX11_read__73 : decode cX11_read_ 73 = .ok (.invokevirtual 191, 3) := by decide +kernel
theorem dX11_read__76 : decode cX11_read_ 76 = .ok (.aload_n 0, 1) := by decide +kernel
theorem dX11_read__77 : decode cX11_read_ 77 = .ok (.iconst 0, 1) := by decide +kernel
theorem dX11_read__78 : decode cX11_read_ 78 = .ok (.putfield 253, 3) := by decide +kernel
theorem dX11_read__81 : decode cX11_read_ 81 = .ok (.aload_n 0, 1) := by decide +kernel
theorem dX11_read__82 : decode cX11_read_ 82 = .ok (.iconst 0, 1) := by decide +kernel
theorem dX11_read__83 : decode cX11_read_ 83 = .ok (.putfield 198, 3) := by decide +kernel
theorem dX11_read__86 : decode cX11_read_ 86 = .ok (.aload_n 0, 1) := by decide +kernel
theorem dX11_read__87 : decode cX11_read_ 87 = .ok (.iconst 0, 1) := by decide +kernel
theorem dX11_read__88 : decode cX11_read_ 88 = .ok (.putfield 115, 3) := by decide +kernel
theorem dX11_read__91 : decode cX11_read_ 91 = .ok (.aload_n 0, 1) := by decide +kernel
theorem dX11_read__92 : decode cX11_read_ 92 = .ok (.iload_n 2, 1) := by decide +kernel
theorem dX11_read__93 : decode cX11_read_ 93 = .ok (.invokevirtual 309, 3) := by decide +kernel
theorem dX11_read__96 : decode cX11_read_ 96 = .ok (.aload_n 0, 1) := by decide +kernel
theorem dX11_read__97 : decode cX11_read_ 97 = .ok (.sipush 4096, 3) := by decide +kernel
theorem dX11_read__100 : decode cX11_read_ 100 = .ok (.invokevirtual 312, 3) := by decide +kernel
theorem dX11_read__103 : decode cX11_read_ 103 = .ok (.istore 4, 2) := by decide +kernel
theorem dX11_read__105 : decode cX11_read_ 105 = .ok (.iload 4, 2) := by decide +kernel
theorem dX11_read__107 : decode cX11_read_ 107 = .ok (.ifCond .ge 6, 3) := by decide +kernel
theorem dX11_read__110 : decode cX11_read_ 110 = .ok (.iload 4, 2) := by decide +kernel
theorem dX11_read__112 : decode cX11_read_ 112 = .ok (.ireturn, 1) := by decide +kernel
theorem dX11_read__113 : decode cX11_read_ 113 = .ok (.aload_n 0, 1) := by decide +kernel
theorem dX11_read__114 : decode cX11_read_ 114 = .ok (.aload_n 0, 1) := by decide +kernel
theorem dX11_read__115 : decode cX11_read_ 115 = .ok (.getfield 115, 3) := by decide +kernel
theorem dX11_read__118 : decode cX11_read_ 118 = .ok (.putfield 198, 3) := by decide +kernel
theorem dX11_read__121 : decode cX11_read_ 121 = .ok (.iconst 0, 1) := by decide +kernel
theorem dX11_read__122 : decode cX11_read_ 122 = .ok (.istore 5, 2) := by decide +kernel
theorem dX11_read__124 : decode cX11_read_ 124 = .ok (.iload 5, 2) := by decide +kernel
theorem dX11_read__126 : decode cX11_read_ 126 = .ok (.aload_n 0, 1) := by decide +kernel
theorem dX11_read__127 : decode cX11_read_ 127 = .ok (.getfield 198, 3) := by decide +kernel
theorem dX11_read__130 : decode cX11_read_ 130 = .ok (.if_icmp .ge 23, 3) := by decide +kernel
theorem dX11_read__133 : decode cX11_read_ 133 = .ok (.aload_n 0, 1) := by decide +kernel
theorem dX11_read__134 : decode cX11_read_ 134 = .ok (.getfield 41, 3) := by decide +kernel
theorem dX11_read__137 : decode cX11_read_ 137 = .ok (.iload 5, 2) := by decide +kernel
theorem dX11_read__139 : decode cX11_read_ 139 = .ok (.aload_n 0, 1) := by decide +kernel
theorem dX11_read__140 : decode cX11_read_ 140 = .ok (.getfield 44, 3) := by decide +kernel
theorem dX11_read__143 : decode cX11_read_ 143 = .ok (.iload 5, 2) := by decide +kernel
theorem dX11_read__145 : decode cX11_read_ 145 = .ok (.baload, 1) := by decide +kernel
theorem dX11_read__146 : decode cX11_read_ 146 = .ok (.bastore, 1) := by decide +kernel
theorem dX11_read__147 : decode cX11_read_ 147 = .ok (.iinc 5 1, 3) := by decide +kernel
theorem dX11_read__150 : decode cX11_read_ 150 = .ok (.goto (-26), 3) := by decide +kernel
theorem dX11_read__153 : decode cX11_read_ 153 = .ok (.aload_n 0, 1) := by decide +kernel
theorem dX11_read__154 : decode cX11_read_ 154 = .ok (.getfield 198, 3) := by decide +kernel
theorem dX11_read__157 : decode cX11_read_ 157 = .ok (.ireturn, 1) := by decide +kernel
theorem dX11_pass_0 : decode cX11_pass 0 = .ok (.iconst 0, 1) := by decide +kernel
theorem dX11_pass_1 : decode cX11_pass 1 = .ok (.istore_n 2, 1) := by decide +kernel
theorem dX11_pass_2 : decode cX11_pass 2 = .ok (.iload_n 2, 1) := by decide +kernel
theorem dX11_pass_3 : decode cX11_pass 3 = .ok (.iload_n 1, 1) := by decide +kernel
theorem dX11_pass_4 : decode cX11_pass 4 = .ok (.if_icmp .ge 24, 3) := by decide +kernel
theorem dX11_pass_7 : decode cX11_pass 7 = .ok (.aload_n 0, 1) := by decide +kernel
theorem dX11_pass_8 : decode cX11_pass 8 = .ok (.aload_n 0, 1) := by decide +kernel
theorem dX11_pass_9 : decode cX11_pass 9 = .ok (.getfield 20, 3) := by decide +kernel
theorem dX11_pass_12 : decode cX11_pass 12 = .ok (.aload_n 0, 1) := by decide +kernel
theorem dX11_pass_13 : decode cX11_pass 13 = .ok (.getfield 20, 3) := by decide +kernel
theorem dX11_pass_16 : decode cX11_pass 16 = .ok (.getfield 188, 3) := by decide +kernel
theorem dX11_pass_19 : decode cX11_pass 19 = .ok (.invokevirtual 263, 3) := by decide +kernel
theorem dX11_pass_22 : decode cX11_pass 22 = .ok (.iinc 2 1, 3) := by decide +kernel
theorem dX11_pass_25 : decode cX11_pass 25 = .ok (.goto (-23), 3) := by decide +kernel
theorem dX11_pass_28 : decode cX11_pass 28 = .ok (.return_, 1) := by decide +kernel
theorem dX11_all_0 : decode cX11_all 0 = .ok (.aload_n 0, 1) := by decide +kernel
theorem dX11_all_1 : decode cX11_all 1 = .ok (.iload_n 1, 1) := by decide +kernel
theorem dX11_all_2 : decode cX11_all 2 = .ok (.invokestatic 76, 3) := by decide +kernel
theorem dX11_all_5 : decode cX11_all 5 = .ok (.ifCond .ne 7, 3) := by decide +kernel
theorem dX11_all_8 : decode cX11_all 8 = .ok (.iconst 1, 1) := by decide +kernel
theorem dX11_all_9 : decode cX11_all 9 = .ok (.goto 4, 3) := by decide +kernel
theorem dX11_all_12 : decode cX11_all 12 = .ok (.iconst 0, 1) := by decide +kernel
theorem dX11_all_13 : decode cX11_all 13 = .ok (.iload_n 1, 1) := by decide +kernel
theorem dX11_all_14 : decode cX11_all 14 = .ok (.invokestatic 76, 3) := by decide +kernel
theorem dX11_all_17 : decode cX11_all 17 = .ok (.ifCond .eq 16, 3) := by decide +kernel
theorem dX11_all_20 : decode cX11_all 20 = .ok (.aload_n 0, 1) := by decide +kernel
theorem dX11_all_21 : decode cX11_all 21 = .ok (.getfield 31, 3) := by decide +kernel
theorem dX11_all_24 : decode cX11_all 24 = .ok (.iload_n 1, 1) := by decide +kernel
theorem dX11_all_25 : decode cX11_all 25 = .ok (.iaload, 1) := by decide +kernel
theorem dX11_all_26 : decode cX11_all 26 = .ok (.ifCond .ge 7, 3) := by decide +kernel
theorem dX11_all_29 : decode cX11_all 29 = .ok (.iconst 1, 1) := by decide +kernel
theorem dX11_all_30 : decode cX11_all 30 = .ok (.goto 4, 3) := by decide +kernel
theorem dX11_all_33 : decode cX11_all 33 = .ok (.iconst 0, 1) := by decide +kernel
theorem dX11_all_34 : decode cX11_all 34 = .ok (.invokevirtual 60, 3) := by decide +kernel
theorem dX11_all_37 : decode cX11_all 37 = .ok (.ifCond .eq 5, 3) := by decide +kernel
theorem dX11_all_40 : decode cX11_all 40 = .ok (.iconst 0, 1) := by decide +kernel
theorem dX11_all_41 : decode cX11_all 41 = .ok (.ireturn, 1) := by decide +kernel
theorem dX11_all_42 : decode cX11_all 42 = .ok (.aload_n 0, 1) := by decide +kernel
theorem dX11_all_43 : decode cX11_all 43 = .ok (.getfield 81, 3) := by decide +kernel
theorem dX11_all_46 : decode cX11_all 46 = .ok (.ifCond .ne 5, 3) := by decide +kernel
theorem dX11_all_49 : decode cX11_all 49 = .ok (.iconst 0, 1) := by decide +kernel
theorem dX11_all_50 : decode cX11_all 50 = .ok (.ireturn, 1) := by decide +kernel
theorem dX11_all_51 : decode cX11_all 51 = .ok (.aload_n 0, 1) := by decide +kernel
theorem dX11_all_52 : decode cX11_all 52 = .ok (.aload_n 0, 1) := by decide +kernel
theorem dX11_all_53 : decode cX11_all 53 = .ok (.getfield 20, 3) := by decide +kernel
theorem dX11_all_56 : decode cX11_all 56 = .ok (.aload_n 0, 1) := by decide +kernel
theorem dX11_all_57 : decode cX11_all 57 = .ok (.getfield 38, 3) := by decide +kernel
theorem dX11_all_60 : decode cX11_all 60 = .ok (.invokevirtual 191, 3) := by decide +kernel
theorem dX11_all_63 : decode cX11_all 63 = .ok (.aload_n 0, 1) := by decide +kernel
theorem dX11_all_64 : decode cX11_all 64 = .ok (.aload_n 0, 1) := by decide +kernel
theorem dX11_all_65 : decode cX11_all 65 = .ok (.getfield 24, 3) := by decide +kernel
theorem dX11_all_68 : decode cX11_all 68 = .ok (.iload_n 1, 1) := by decide +kernel
theorem dX11_all_69 : decode cX11_all 69 = .ok (.invokevirtual 191, 3) := by decide +kernel
theorem dX11_all_72 : decode cX11_all 72 = .ok (.iconst 0, 1) := by decide +kernel
theorem dX11_all_73 : decode cX11_all 73 = .ok (.istore_n 2, 1) := by decide +kernel
theorem dX11_all_74 : decode cX11_all 74 = .ok (.aload_n 0, 1) := by decide +kernel
theorem dX11_all_75 : decode cX11_all 75 = .ok (.iconst 0, 1) := by decide +kernel
theorem dX11_all_76 : decode cX11_all 76 = .ok (.putfield 253, 3) := by decide +kernel
theorem dX11_all_79 : decode cX11_all 79 = .ok (.iconst 1, 1) := by decide +kernel
theorem dX11_all_80 : decode cX11_all 80 = .ok (.istore_n 3, 1) := by decide +kernel
theorem dX11_all_81 : decode cX11_all 81 = .ok (.iload_n 3, 1) := by decide +kernel
theorem dX11_all_82 : decode cX11_all 82 = .ok (.ifCond .eq 47, 3) := by decide +kernel
theorem dX11_all_85 : decode cX11_all 85 = .ok (.iload_n 2, 1) := by decide +kernel
theorem dX11_all_86 : decode cX11_all 86 = .ok (.aload_n 0, 1) := by decide +kernel
theorem dX11_all_87 : decode cX11_all 87 = .ok (.getfield 81, 3) := by decide +kernel
theorem dX11_all_90 : decode cX11_all 90 = .ok (.if_icmp .ge 39, 3) := by decide +kernel
theorem dX11_all_93 : decode cX11_all 93 = .ok (.aload_n 0, 1) := by decide +kernel
theorem dX11_all_94 : decode cX11_all 94 = .ok (.iconst 0, 1) := by decide +kernel
theorem dX11_all_95 : decode cX11_all 95 = .ok (.putfield 115, 3) := by decide +kernel
theorem dX11_all_98 : decode cX11_all 98 = .ok (.aload_n 0, 1) := by decide +kernel
theorem dX11_all_99 : decode cX11_all 99 = .ok (.sipush 4096, 3) := by decide +kernel
theorem dX11_all_102 : decode cX11_all 102 = .ok (.invokevirtual 312, 3) := by decide +kernel
theorem dX11_all_105 : decode cX11_all 105 = .ok (.ifCond .ne 7, 3) := by decide +kernel
theorem dX11_all_108 : decode cX11_all 108 = .ok (.iconst 1, 1) := by decide +kernel
theorem dX11_all_109 : decode cX11_all 109 = .ok (.goto 4, 3) := by decide +kernel
theorem dX11_all_112 : decode cX11_all 112 = .ok (.iconst 0, 1) := by decide +kernel
theorem dX11_all_113 : decode cX11_all 113 = .ok (.istore_n 3, 1) := by decide +kernel
theorem dX11_all_114 : decode cX11_all 114 = .ok (.iload_n 3, 1) := by decide +kernel
theorem dX11_all_115 : decode cX11_all 115 = .ok (.ifCond .eq 9, 3) := by decide +kernel
theorem dX11_all_118 : decode cX11_all 118 = .ok (.iload_n 2, 1) := by decide +kernel
theorem dX11_all_119 : decode cX11_all 119 = .ok (.iconst 1, 1) := by decide +kernel
theorem dX11_all_120 : decode cX11_all 120 = .ok (.iadd, 1) := by decide +kernel
theorem dX11_all_121 : decode cX11_all 121 = .ok (.goto 4, 3) := by decide +kernel
theorem dX11_all_124 : decode cX11_all 124 = .ok (.iload_n 2, 1) := by decide +kernel
theorem dX11_all_125 : decode cX11_all 125 = .ok (.istore_n 2, 1) := by decide +kernel
theorem dX11_all_126 : decode cX11_all 126 = .ok (.goto (-45), 3) := by decide +kernel
theorem dX11_all_129 : decode cX11_all 129 = .ok (.iload_n 2, 1) := by decide +kernel
theorem dX11_all_130 : decode cX11_all 130 = .ok (.ireturn, 1) := by decide +kernel
theorem dX11_fits_0 : decode cX11_fits 0 = .ok (.aload_n 0, 1) := by decide +kernel
theorem dX11_fits_1 : decode cX11_fits 1 = .ok (.iload_n 1, 1) := by decide +kernel
theorem dX11_fits_2 : decode cX11_fits 2 = .ok (.invokestatic 76, 3) := by decide +kernel
theorem dX11_fits_5 : decode cX11_fits 5 = .ok (.ifCond .eq 10, 3) := by decide +kernel
theorem dX11_fits_8 : decode cX11_fits 8 = .ok (.iload_n 2, 1) := by decide +kernel
theorem dX11_fits_9 : decode cX11_fits 9 = .ok (.invokestatic 76, 3) := by decide +kernel
theorem dX11_fits_12 : decode cX11_fits 12 = .ok (.ifCond .ne 7, 3) := by decide +kernel
theorem dX11_fits_15 : decode cX11_fits 15 = .ok (.iconst 1, 1) := by decide +kernel
theorem dX11_fits_16 : decode cX11_fits 16 = .ok (.goto 4, 3) := by decide +kernel
theorem dX11_fits_19 : decode cX11_fits 19 = .ok (.iconst 0, 1) := by decide +kernel
theorem dX11_fits_20 : decode cX11_fits 20 = .ok (.iload_n 1, 1) := by decide +kernel
theorem dX11_fits_21 : decode cX11_fits 21 = .ok (.invokestatic 76, 3) := by decide +kernel
theorem dX11_fits_24 : decode cX11_fits 24 = .ok (.ifCond .eq 32, 3) := by decide +kernel
theorem dX11_fits_27 : decode cX11_fits 27 = .ok (.iload_n 2, 1) := by decide +kernel
theorem dX11_fits_28 : decode cX11_fits 28 = .ok (.invokestatic 76, 3) := by decide +kernel
theorem dX11_fits_31 : decode cX11_fits 31 = .ok (.ifCond .eq 25, 3) := by decide +kernel
theorem dX11_fits_34 : decode cX11_fits 34 = .ok (.aload_n 0, 1) := by decide +kernel
theorem dX11_fits_35 : decode cX11_fits 35 = .ok (.getfield 31, 3) := by decide +kernel
theorem dX11_fits_38 : decode cX11_fits 38 = .ok (.iload_n 1, 1) := by decide +kernel
theorem dX11_fits_39 : decode cX11_fits 39 = .ok (.iaload, 1) := by decide +kernel
theorem dX11_fits_40 : decode cX11_fits 40 = .ok (.ifCond .lt 12, 3) := by decide +kernel
theorem dX11_fits_43 : decode cX11_fits 43 = .ok (.aload_n 0, 1) := by decide +kernel
theorem dX11_fits_44 : decode cX11_fits 44 = .ok (.getfield 31, 3) := by decide +kernel
theorem dX11_fits_47 : decode cX11_fits 47 = .ok (.iload_n 2, 1) := by decide +kernel
theorem dX11_fits_48 : decode cX11_fits 48 = .ok (.iaload, 1) := by decide +kernel
theorem dX11_fits_49 : decode cX11_fits 49 = .ok (.ifCond .ge 7, 3) := by decide +kernel
theorem dX11_fits_52 : decode cX11_fits 52 = .ok (.iconst 1, 1) := by decide +kernel
theorem dX11_fits_53 : decode cX11_fits 53 = .ok (.goto 4, 3) := by decide +kernel
theorem dX11_fits_56 : decode cX11_fits 56 = .ok (.iconst 0, 1) := by decide +kernel
theorem dX11_fits_57 : decode cX11_fits 57 = .ok (.invokevirtual 60, 3) := by decide +kernel
theorem dX11_fits_60 : decode cX11_fits 60 = .ok (.ifCond .eq 5, 3) := by decide +kernel
theorem dX11_fits_63 : decode cX11_fits 63 = .ok (.iconst 0, 1) := by decide +kernel
theorem dX11_fits_64 : decode cX11_fits 64 = .ok (.ireturn, 1) := by decide +kernel
theorem dX11_fits_65 : decode cX11_fits 65 = .ok (.aload_n 0, 1) := by decide +kernel
theorem dX11_fits_66 : decode cX11_fits 66 = .ok (.aload_n 0, 1) := by decide +kernel
theorem dX11_fits_67 : decode cX11_fits 67 = .ok (.getfield 20, 3) := by decide +kernel
theorem dX11_fits_70 : decode cX11_fits 70 = .ok (.iload_n 1, 1) := by decide +kernel
theorem dX11_fits_71 : decode cX11_fits 71 = .ok (.invokevirtual 191, 3) := by decide +kernel
theorem dX11_fits_74 : decode cX11_fits 74 = .ok (.aload_n 0, 1) := by decide +kernel
theorem dX11_fits_75 : decode cX11_fits 75 = .ok (.aload_n 0, 1) := by decide +kernel
theorem dX11_fits_76 : decode cX11_fits 76 = .ok (.getfield 24, 3) := by decide +kernel
theorem dX11_fits_79 : decode cX11_fits 79 = .ok (.iload_n 2, 1) := by decide +kernel
theorem dX11_fits_80 : decode cX11_fits 80 = .ok (.invokevirtual 191, 3) := by decide +kernel
theorem dX11_fits_83 : decode cX11_fits 83 = .ok (.aload_n 0, 1) := by decide +kernel
theorem dX11_fits_84 : decode cX11_fits 84 = .ok (.aload_n 0, 1) := by decide +kernel
theorem dX11_fits_85 : decode cX11_fits 85 = .ok (.getfield 20, 3) := by decide +kernel
theorem dX11_fits_88 : decode cX11_fits 88 = .ok (.aload_n 0, 1) := by decide +kernel
theorem dX11_fits_89 : decode cX11_fits 89 = .ok (.getfield 24, 3) := by decide +kernel
theorem dX11_fits_92 : decode cX11_fits 92 = .ok (.invokevirtual 316, 3) := by decide +kernel
theorem dX11_fits_95 : decode cX11_fits 95 = .ok (.ireturn, 1) := by decide +kernel
