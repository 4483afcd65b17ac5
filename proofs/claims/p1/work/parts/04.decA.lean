theorem dX0_init_0 : decode cX0_init 0 = .ok (.aload_n 0, 1) := by decide +kernel
theorem dX0_init_1 : decode cX0_init 1 = .ok (.invokespecial 3, 3) := by decide +kernel
theorem dX0_init_4 : decode cX0_init 4 = .ok (.aload_n 0, 1) := by decide +kernel
theorem dX0_init_5 : decode cX0_init 5 = .ok (.iload_n 1, 1) := by decide +kernel
theorem dX0_init_6 : decode cX0_init 6 = .ok (.ifCond .ge 7, 3) := by decide +kernel
theorem dX0_init_9 : decode cX0_init 9 = .ok (.iconst 0, 1) := by decide +kernel
theorem dX0_init_10 : decode cX0_init 10 = .ok (.goto 4, 3) := by decide +kernel
theorem dX0_init_13 : decode cX0_init 13 = .ok (.iload_n 1, 1) := by decide +kernel
theorem dX0_init_14 : decode cX0_init 14 = .ok (.newarray .int, 2) := by decide +kernel
theorem dX0_init_16 : decode cX0_init 16 = .ok (.putfield 9, 3) := by decide +kernel
theorem dX0_init_19 : decode cX0_init 19 = .ok (.return_, 1) := by decide +kernel
theorem dX0_count_0 : decode cX0_count 0 = .ok (.aload_n 0, 1) := by decide +kernel
theorem dX0_count_1 : decode cX0_count 1 = .ok (.getfield 15, 3) := by decide +kernel
theorem dX0_count_4 : decode cX0_count 4 = .ok (.ireturn, 1) := by decide +kernel
theorem dX0_at_0 : decode cX0_at 0 = .ok (.iload_n 1, 1) := by decide +kernel
theorem dX0_at_1 : decode cX0_at 1 = .ok (.ifCond .lt 21, 3) := by decide +kernel
theorem dX0_at_4 : decode cX0_at 4 = .ok (.iload_n 1, 1) := by decide +kernel
theorem dX0_at_5 : decode cX0_at 5 = .ok (.aload_n 0, 1) := by decide +kernel
theorem dX0_at_6 : decode cX0_at 6 = .ok (.getfield 9, 3) := by decide +kernel
theorem dX0_at_9 : decode cX0_at 9 = .ok (.arraylength, 1) := by decide +kernel
theorem dX0_at_10 : decode cX0_at 10 = .ok (.if_icmp .ge 12, 3) := by decide +kernel
theorem dX0_at_13 : decode cX0_at 13 = .ok (.aload_n 0, 1) := by decide +kernel
theorem dX0_at_14 : decode cX0_at 14 = .ok (.getfield 9, 3) := by decide +kernel
theorem dX0_at_17 : decode cX0_at 17 = .ok (.iload_n 1, 1) := by decide +kernel
theorem dX0_at_18 : decode cX0_at 18 = .ok (.iaload, 1) := by decide +kernel
theorem dX0_at_19 : decode cX0_at 19 = .ok (.goto 4, 3) := by decide +kernel
theorem dX0_at_22 : decode cX0_at 22 = .ok (.iconst 0, 1) := by decide +kernel
theorem dX0_at_23 : decode cX0_at 23 = .ok (.ireturn, 1) := by decide +kernel
theorem dX0_peek_0 : decode cX0_peek 0 = .ok (.iload_n 1, 1) := by decide +kernel
theorem dX0_peek_1 : decode cX0_peek 1 = .ok (.ifCond .lt 29, 3) := by decide +kernel
theorem dX0_peek_4 : decode cX0_peek 4 = .ok (.iload_n 1, 1) := by decide +kernel
theorem dX0_peek_5 : decode cX0_peek 5 = .ok (.aload_n 0, 1) := by decide +kernel
theorem dX0_peek_6 : decode cX0_peek 6 = .ok (.getfield 15, 3) := by decide +kernel
theorem dX0_peek_9 : decode cX0_peek 9 = .ok (.if_icmp .ge 21, 3) := by decide +kernel
theorem dX0_peek_12 : decode cX0_peek 12 = .ok (.iload_n 1, 1) := by decide +kernel
theorem dX0_peek_13 : decode cX0_peek 13 = .ok (.aload_n 0, 1) := by decide +kernel
theorem dX0_peek_14 : decode cX0_peek 14 = .ok (.getfield 9, 3) := by decide +kernel
theorem dX0_peek_17 : decode cX0_peek 17 = .ok (.arraylength, 1) := by decide +kernel
theorem dX0_peek_18 : decode cX0_peek 18 = .ok (.if_icmp .ge 12, 3) := by decide +kernel
theorem dX0_peek_21 : decode cX0_peek 21 = .ok (.aload_n 0, 1) := by decide +kernel
theorem dX0_peek_22 : decode cX0_peek 22 = .ok (.getfield 9, 3) := by decide +kernel
theorem dX0_peek_25 : decode cX0_peek 25 = .ok (.iload_n 1, 1) := by decide +kernel
theorem dX0_peek_26 : decode cX0_peek 26 = .ok (.iaload, 1) := by decide +kernel
theorem dX0_peek_27 : decode cX0_peek 27 = .ok (.goto 4, 3) := by decide +kernel
theorem dX0_peek_30 : decode cX0_peek 30 = .ok (.iconst (-1), 1) := by decide +kernel
theorem dX0_peek_31 : decode cX0_peek 31 = .ok (.ireturn, 1) := by decide +kernel
theorem dX0_put_0 : decode cX0_put 0 = .ok (.iload_n 1, 1) := by decide +kernel
theorem dX0_put_1 : decode cX0_put 1 = .ok (.ifCond .lt 19, 3) := by decide +kernel
theorem dX0_put_4 : decode cX0_put 4 = .ok (.iload_n 1, 1) := by decide +kernel
theorem dX0_put_5 : decode cX0_put 5 = .ok (.aload_n 0, 1) := by decide +kernel
theorem dX0_put_6 : decode cX0_put 6 = .ok (.getfield 9, 3) := by decide +kernel
theorem dX0_put_9 : decode cX0_put 9 = .ok (.arraylength, 1) := by decide +kernel
theorem dX0_put_10 : decode cX0_put 10 = .ok (.if_icmp .ge 10, 3) := by decide +kernel
theorem dX0_put_13 : decode cX0_put 13 = .ok (.aload_n 0, 1) := by decide +kernel
theorem dX0_put_14 : decode cX0_put 14 = .ok (.getfield 9, 3) := by decide +kernel
theorem dX0_put_17 : decode cX0_put 17 = .ok (.iload_n 1, 1) := by decide +kernel
theorem dX0_put_18 : decode cX0_put 18 = .ok (.iload_n 2, 1) := by decide +kernel
theorem dX0_put_19 : decode cX0_put 19 = .ok (.iastore, 1) := by decide +kernel
theorem dX0_put_20 : decode cX0_put 20 = .ok (.return_, 1) := by decide +kernel
theorem dX0_add_0 : decode cX0_add 0 = .ok (.aload_n 0, 1) := by decide +kernel
theorem dX0_add_1 : decode cX0_add 1 = .ok (.getfield 15, 3) := by decide +kernel
theorem dX0_add_4 : decode cX0_add 4 = .ok (.ifCond .lt 15, 3) := by decide +kernel
theorem dX0_add_7 : decode cX0_add 7 = .ok (.aload_n 0, 1) := by decide +kernel
theorem dX0_add_8 : decode cX0_add 8 = .ok (.getfield 15, 3) := by decide +kernel
theorem dX0_add_11 : decode cX0_add 11 = .ok (.aload_n 0, 1) := by decide +kernel
theorem dX0_add_12 : decode cX0_add 12 = .ok (.getfield 9, 3) := by decide +kernel
theorem dX0_add_15 : decode cX0_add 15 = .ok (.arraylength, 1) := by decide +kernel
theorem dX0_add_16 : decode cX0_add 16 = .ok (.if_icmp .lt 5, 3) := by decide +kernel
theorem dX0_add_19 : decode cX0_add 19 = .ok (.iconst 0, 1) := by decide +kernel
theorem dX0_add_20 : decode cX0_add 20 = .ok (.ireturn, 1) := by decide +kernel
theorem dX0_add_21 : decode cX0_add 21 = .ok (.aload_n 0, 1) := by decide +kernel
theorem dX0_add_22 : decode cX0_add 22 = .ok (.getfield 9, 3) := by decide +kernel
theorem dX0_add_25 : decode cX0_add 25 = .ok (.aload_n 0, 1) := by decide +kernel
theorem dX0_add_26 : decode cX0_add 26 = .ok (.getfield 15, 3) := by decide +kernel
theorem dX0_add_29 : decode cX0_add 29 = .ok (.iload_n 1, 1) := by decide +kernel
theorem dX0_add_30 : decode cX0_add 30 = .ok (.iastore, 1) := by decide +kernel
theorem dX0_add_31 : decode cX0_add 31 = .ok (.aload_n 0, 1) := by decide +kernel
theorem dX0_add_32 : decode cX0_add 32 = .ok (.dup, 1) := by decide +kernel
theorem dX0_add_33 : decode cX0_add 33 = .ok (.getfield 15, 3) := by decide +kernel
theorem dX0_add_36 : decode cX0_add 36 = .ok (.iconst 1, 1) := by decide +kernel
theorem dX0_add_37 : decode cX0_add 37 = .ok (.iadd, 1) := by decide +kernel
theorem dX0_add_38 : decode cX0_add 38 = .ok (.putfield 15, 3) := by decide +kernel
theorem dX0_add_41 : decode cX0_add 41 = .ok (.iconst 1, 1) := by decide +kernel
theorem dX0_add_42 : decode cX0_add 42 = .ok (.ireturn, 1) := by decide +kernel
theorem dX0_cut_0 : decode cX0_cut 0 = .ok (.iload_n 1, 1) := by decide +kernel
theorem dX0_cut_1 : decode cX0_cut 1 = .ok (.ifCond .lt 17, 3) := by decide +kernel
theorem dX0_cut_4 : decode cX0_cut 4 = .ok (.iload_n 1, 1) := by decide +kernel
theorem dX0_cut_5 : decode cX0_cut 5 = .ok (.aload_n 0, 1) := by decide +kernel
theorem dX0_cut_6 : decode cX0_cut 6 = .ok (.getfield 9, 3) := by decide +kernel
theorem dX0_cut_9 : decode cX0_cut 9 = .ok (.arraylength, 1) := by decide +kernel
theorem dX0_cut_10 : decode cX0_cut 10 = .ok (.if_icmp .gt 8, 3) := by decide +kernel
theorem dX0_cut_13 : decode cX0_cut 13 = .ok (.aload_n 0, 1) := by decide +kernel
theorem dX0_cut_14 : decode cX0_cut 14 = .ok (.iload_n 1, 1) := by decide +kernel
theorem dX0_cut_15 : decode cX0_cut 15 = .ok (.putfield 15, 3) := by decide +kernel
theorem dX0_cut_18 : decode cX0_cut 18 = .ok (.return_, 1) := by decide +kernel
theorem dX0_addPart_0 : decode cX0_addPart 0 = .ok (.aload_n 1, 1) := by decide +kernel
theorem dX0_addPart_1 : decode cX0_addPart 1 = .ok (.ifnull 37, 3) := by decide +kernel
theorem dX0_addPart_4 : decode cX0_addPart 4 = .ok (.iload_n 2, 1) := by decide +kernel
theorem dX0_addPart_5 : decode cX0_addPart 5 = .ok (.ifCond .lt 33, 3) := by decide +kernel
theorem dX0_addPart_8 : decode cX0_addPart 8 = .ok (.iload_n 3, 1) := by decide +kernel
theorem dX0_addPart_9 : decode cX0_addPart 9 = .ok (.iload_n 2, 1) := by decide +kernel
theorem dX0_addPart_10 : decode cX0_addPart 10 = .ok (.if_icmp .lt 28, 3) := by decide +kernel
theorem dX0_addPart_13 : decode cX0_addPart 13 = .ok (.iload_n 3, 1) := by decide +kernel
theorem dX0_addPart_14 : decode cX0_addPart 14 = .ok (.aload_n 1, 1) := by decide +kernel
theorem dX0_addPart_15 : decode cX0_addPart 15 = .ok (.getfield 9, 3) := by decide +kernel
theorem dX0_addPart_18 : decode cX0_addPart 18 = .ok (.arraylength, 1) := by decide +kernel
theorem dX0_addPart_19 : decode cX0_addPart 19 = .ok (.if_icmp .gt 19, 3) := by decide +kernel
theorem dX0_addPart_22 : decode cX0_addPart 22 = .ok (.iload_n 3, 1) := by decide +kernel
theorem dX0_addPart_23 : decode cX0_addPart 23 = .ok (.iload_n 2, 1) := by decide +kernel
theorem dX0_addPart_24 : decode cX0_addPart 24 = .ok (.isub, 1) := by decide +kernel
theorem dX0_addPart_25 : decode cX0_addPart 25 = .ok (.aload_n 0, 1) := by decide +kernel
theorem dX0_addPart_26 : decode cX0_addPart 26 = .ok (.getfield 9, 3) := by decide +kernel
theorem dX0_addPart_29 : decode cX0_addPart 29 = .ok (.arraylength, 1) := by decide +kernel
theorem dX0_addPart_30 : decode cX0_addPart 30 = .ok (.aload_n 0, 1) := by decide +kernel
theorem dX0_addPart_31 : decode cX0_addPart 31 = .ok (.getfield 15, 3) := by decide +kernel
theorem dX0_addPart_34 : decode cX0_addPart 34 = .ok (.isub, 1) := by decide +kernel
theorem dX0_addPart_35 : decode cX0_addPart 35 = .ok (.if_icmp .le 5, 3) := by decide +kernel
theorem dX0_addPart_38 : decode cX0_addPart 38 = .ok (.iconst 0, 1) := by decide +kernel
theorem dX0_addPart_39 : decode cX0_addPart 39 = .ok (.ireturn, 1) := by decide +kernel
theorem dX0_addPart_40 : decode cX0_addPart 40 = .ok (.aload_n 1, 1) := by decide +kernel
theorem dX0_addPart_41 : decode cX0_addPart 41 = .ok (.getfield 9, 3) := by decide +kernel
theorem dX0_addPart_44 : decode cX0_addPart 44 = .ok (.iload_n 2, 1) := by decide +kernel
theorem dX0_addPart_45 : decode cX0_addPart 45 = .ok (.aload_n 0, 1) := by decide +kernel
theorem dX0_addPart_46 : decode cX0_addPart 46 = .ok (.getfield 9, 3) := by decide +kernel
theorem dX0_addPart_49 : decode cX0_addPart 49 = .ok (.aload_n 0, 1) := by decide +kernel
theorem dX0_addPart_50 : decode cX0_addPart 50 = .ok (.getfield 15, 3) := by decide +kernel
theorem dX0_addPart_53 : decode cX0_addPart 53 = .ok (.iload_n 3, 1) := by decide +kernel
theorem dX0_addPart_54 : decode cX0_addPart 54 = .ok (.iload_n 2, 1) := by decide +kernel
theorem dX0_addPart_55 : decode cX0_addPart 55 = .ok (.isub, 1) := by decide +kernel
theorem dX0_addPart_56 : decode cX0_addPart 56 = .ok (.invokestatic 19, 3) := by decide +kernel
theorem dX0_addPart_59 : decode cX0_addPart 59 = .ok (.aload_n 0, 1) := by decide +kernel
theorem dX0_addPart_60 : decode cX0_addPart 60 = .ok (.dup, 1) := by decide +kernel
theorem dX0_addPart_61 : decode cX0_addPart 61 = .ok (.getfield 15, 3) := by decide +kernel
theorem dX0_addPart_64 : decode cX0_addPart 64 = .ok (.iload_n 3, 1) := by decide +kernel
theorem dX0_addPart_65 : decode cX0_addPart 65 = .ok (.iload_n 2, 1) := by decide +kernel
theorem dX0_addPart_66 : decode cX0_addPart 66 = .ok (.isub, 1) := by decide +kernel
theorem dX0_addPart_67 : decode cX0_addPart 67 = .ok (.iadd, 1) := by decide +kernel
theorem dX0_addPart_68 : decode cX0_addPart 68 = .ok (.putfield 15, 3) := by decide +kernel
theorem dX0_addPart_71 : decode cX0_addPart 71 = .ok (.iconst 1, 1) := by decide +kernel
theorem dX0_addPart_72 : decode cX0_addPart 72 = .ok (.ireturn, 1) := by decide +kernel
theorem dX0_addVarint_0 : decode cX0_addVarint 0 = .ok (.lload_n 1, 1) := by decide +kernel
theorem dX0_addVarint_1 : decode cX0_addVarint 1 = .ok (.iconst 1, 1) := by decide +kernel
theorem dX0_addVarint_2 : decode cX0_addVarint 2 = .ok (.lshl, 1) := by decide +kernel
theorem dX0_addVarint_3 : decode cX0_addVarint 3 = .ok (.lload_n 1, 1) := by decide +kernel
theorem dX0_addVarint_4 : decode cX0_addVarint 4 = .ok (.bipush 63, 2) := by decide +kernel
theorem dX0_addVarint_6 : decode cX0_addVarint 6 = .ok (.lshr, 1) := by decide +kernel
theorem dX0_addVarint_7 : decode cX0_addVarint 7 = .ok (.lxor, 1) := by decide +kernel
theorem dX0_addVarint_8 : decode cX0_addVarint 8 = .ok (.lstore_n 3, 1) := by decide +kernel
theorem dX0_addVarint_9 : decode cX0_addVarint 9 = .ok (.iconst 0, 1) := by decide +kernel
theorem dX0_addVarint_10 : decode cX0_addVarint 10 = .ok (.istore 5, 2) := by decide +kernel
theorem dX0_addVarint_12 : decode cX0_addVarint 12 = .ok (.iload 5, 2) := by decide +kernel
theorem dX0_addVarint_14 : decode cX0_addVarint 14 = .ok (.bipush 10, 2) := by decide +kernel
theorem dX0_addVarint_16 : decode cX0_addVarint 16 = .ok (.if_icmp .ge 65, 3) := by decide +kernel
theorem dX0_addVarint_19 : decode cX0_addVarint 19 = .ok (.lload_n 3, 1) := by decide +kernel
theorem dX0_addVarint_20 : decode cX0_addVarint 20 = .ok (.bipush 7, 2) := by decide +kernel
theorem dX0_addVarint_22 : decode cX0_addVarint 22 = .ok (.lushr, 1) := by decide +kernel
theorem dX0_addVarint_23 : decode cX0_addVarint 23 = .ok (.lconst 0, 1) := by decide +kernel
theorem dX0_addVarint_24 : decode cX0_addVarint 24 = .ok (.lcmp, 1) := by decide +kernel
theorem dX0_addVarint_25 : decode cX0_addVarint 25 = .ok (.ifCond .ne 7, 3) := by decide +kernel
theorem dX0_addVarint_28 : decode cX0_addVarint 28 = .ok (.iconst 1, 1) := by decide +kernel
theorem dX0_addVarint_29 : decode cX0_addVarint 29 = .ok (.goto 4, 3) := by decide +kernel
theorem dX0_addVarint_32 : decode cX0_addVarint 32 = .ok (.iconst 0, 1) := by decide +kernel
theorem dX0_addVarint_33 : decode cX0_addVarint 33 = .ok (.istore 6, 2) := by decide +kernel
theorem dX0_addVarint_35 : decode cX0_addVarint 35 = .ok (.aload_n 0, 1) := by decide +kernel
theorem dX0_addVarint_36 : decode cX0_addVarint 36 = .ok (.lload_n 3, 1) := by decide +kernel
theorem dX0_addVarint_37 : decode cX0_addVarint 37 = .ok (.ldc2_w 25, 3) := by decide +kernel
theorem dX0_addVarint_40 : decode cX0_addVarint 40 = .ok (.land, 1) := by decide +kernel
theorem dX0_addVarint_41 : decode cX0_addVarint 41 = .ok (.l2i, 1) := by decide +kernel
theorem dX0_addVarint_42 : decode cX0_addVarint 42 = .ok (.iload 6, 2) := by decide +kernel
theorem dX0_addVarint_44 : decode cX0_addVarint 44 = .ok (.ifCond .eq 7, 3) := by decide +kernel
theorem dX0_addVarint_47 : decode cX0_addVarint 47 = .ok (.iconst 0, 1) := by decide +kernel
theorem dX0_addVarint_48 : decode cX0_addVarint 48 = .ok (.goto 6, 3) := by decide +kernel
theorem dX0_addVarint_51 : decode cX0_addVarint 51 = .ok (.sipush 128, 3) := by decide +kernel
theorem dX0_addVarint_54 : decode cX0_addVarint 54 = .ok (.ior, 1) := by decide +kernel
theorem dX0_addVarint_55 : decode cX0_addVarint 55 = .ok (.invokevirtual 27, 3) := by decide +kernel
theorem dX0_addVarint_58 : decode cX0_addVarint 58 = .ok (.ifCond .ne 5, 3) := by decide +kernel
theorem dX0_addVarint_61 : decode cX0_addVarint 61 = .ok (.iconst 0, 1) := by decide +kernel
theorem dX0_addVarint_62 : decode cX0_addVarint 62 = .ok (.ireturn, 1) := by decide +kernel
theorem dX0_addVarint_63 : decode cX0_addVarint 63 = .ok (.iload 6, 2) := by decide +kernel
theorem dX0_addVarint_65 : decode cX0_addVarint 65 = .ok (.ifCond .eq 5, 3) := by decide +kernel
theorem dX0_addVarint_68 : decode cX0_addVarint 68 = .ok (.iconst 1, 1) := by decide +kernel
theorem dX0_addVarint_69 : decode cX0_addVarint 69 = .ok (.ireturn, 1) := by decide +kernel
theorem dX0_addVarint_70 : decode cX0_addVarint 70 = .ok (.lload_n 3, 1) := by decide +kernel
theorem dX0_addVarint_71 : decode cX0_addVarint 71 = .ok (.bipush 7, 2) := by decide +kernel
theorem dX0_addVarint_73 : decode cX0_addVarint 73 = .ok (.lushr, 1) := by decide +kernel
theorem dX0_addVarint_74 : decode cX0_addVarint 74 = .ok (.lstore_n 3, 1) := by decide +kernel
theorem dX0_addVarint_75 : decode cX0_addVarint 75 = .ok (.iinc 5 1, 3) := by decide +kernel
theorem dX0_addVarint_78 : decode cX0_addVarint 78 = .ok (.goto (-66), 3) := by decide +kernel
theorem dX0_addVarint_81 : decode cX0_addVarint 81 = .ok (.iconst 1, 1) := by decide +kernel
theorem dX0_addVarint_82 : decode cX0_addVarint 82 = .ok (.ireturn, 1) := by decide +kernel
theorem dX0_rotate_0 : decode cX0_rotate 0 = .ok (.aload_n 0, 1) := by decide +kernel
theorem dX0_rotate_1 : decode cX0_rotate 1 = .ok (.iload_n 1, 1) := by decide +kernel
theorem dX0_rotate_2 : decode cX0_rotate 2 = .ok (.iload_n 2, 1) := by decide +kernel
theorem dX0_rotate_3 : decode cX0_rotate 3 = .ok (.invokevirtual 31, 3) := by decide +kernel
theorem dX0_rotate_6 : decode cX0_rotate 6 = .ok (.aload_n 0, 1) := by decide +kernel
theorem dX0_rotate_7 : decode cX0_rotate 7 = .ok (.iload_n 2, 1) := by decide +kernel
theorem dX0_rotate_8 : decode cX0_rotate 8 = .ok (.aload_n 0, 1) := by decide +kernel
theorem dX0_rotate_9 : decode cX0_rotate 9 = .ok (.getfield 15, 3) := by decide +kernel
theorem dX0_rotate_12 : decode cX0_rotate 12 = .ok (.invokevirtual 31, 3) := by decide +kernel
theorem dX0_rotate_15 : decode cX0_rotate 15 = .ok (.aload_n 0, 1) := by decide +kernel
theorem dX0_rotate_16 : decode cX0_rotate 16 = .ok (.iload_n 1, 1) := by decide +kernel
theorem dX0_rotate_17 : decode cX0_rotate 17 = .ok (.aload_n 0, 1) := by decide +kernel
theorem dX0_rotate_18 : decode cX0_rotate 18 = .ok (.getfield 15, 3) := by decide +kernel
theorem dX0_rotate_21 : decode cX0_rotate 21 = .ok (.invokevirtual 31, 3) := by decide +kernel
theorem dX0_rotate_24 : decode cX0_rotate 24 = .ok (.return_, 1) := by decide +kernel
theorem dX0_reverse_0 : decode cX0_reverse 0 = .ok (.iload_n 1, 1) := by decide +kernel
theorem dX0_reverse_1 : decode cX0_reverse 1 = .ok (.istore_n 3, 1) := by decide +kernel
theorem dX0_reverse_2 : decode cX0_reverse 2 = .ok (.iload_n 2, 1) := by decide +kernel
theorem dX0_reverse_3 : decode cX0_reverse 3 = .ok (.iconst 1, 1) := by decide +kernel
theorem dX0_reverse_4 : decode cX0_reverse 4 = .ok (.isub, 1) := by decide +kernel
theorem dX0_reverse_5 : decode cX0_reverse 5 = .ok (.istore 4, 2) := by decide +kernel
theorem dX0_reverse_7 : decode cX0_reverse 7 = .ok (.iload_n 3, 1) := by decide +kernel
theorem dX0_reverse_8 : decode cX0_reverse 8 = .ok (.iload 4, 2) := by decide +kernel
theorem dX0_reverse_10 : decode cX0_reverse 10 = .ok (.if_icmp .ge 38, 3) := by decide +kernel
theorem dX0_reverse_13 : decode cX0_reverse 13 = .ok (.aload_n 0, 1) := by decide +kernel
theorem dX0_reverse_14 : decode cX0_reverse 14 = .ok (.iload_n 3, 1) := by decide +kernel
theorem dX0_reverse_15 : decode cX0_reverse 15 = .ok (.invokevirtual 35, 3) := by decide +kernel
theorem dX0_reverse_18 : decode cX0_reverse 18 = .ok (.istore 5, 2) := by decide +kernel
theorem dX0_reverse_20 : decode cX0_reverse 20 = .ok (.aload_n 0, 1) := by decide +kernel
theorem dX0_reverse_21 : decode cX0_reverse 21 = .ok (.iload_n 3, 1) := by decide +kernel
theorem dX0_reverse_22 : decode cX0_reverse 22 = .ok (.aload_n 0, 1) := by decide +kernel
theorem dX0_reverse_23 : decode cX0_reverse 23 = .ok (.iload 4, 2) := by decide +kernel
theorem dX0_reverse_25 : decode cX0_reverse 25 = .ok (.invokevirtual 35, 3) := by decide +kernel
theorem dX0_reverse_28 : decode cX0_reverse 28 = .ok (.invokevirtual 39, 3) := by decide +kernel
theorem dX0_reverse_31 : decode cX0_reverse 31 = .ok (.aload_n 0, 1) := by decide +kernel
theorem dX0_reverse_32 : decode cX0_reverse 32 = .ok (.iload 4, 2) := by decide +kernel
theorem dX0_reverse_34 : decode cX0_reverse 34 = .ok (.iload 5, 2) := by decide +kernel
theorem dX0_reverse_36 : decode cX0_reverse 36 = .ok (.invokevirtual 39, 3) := by decide +kernel
theorem dX0_reverse_39 : decode cX0_reverse 39 = .ok (.iinc 3 1, 3) := by decide +kernel
theorem dX0_reverse_42 : decode cX0_reverse 42 = .ok (.iinc 4 (-1), 3) := by decide +kernel
theorem dX0_reverse_45 : decode cX0_reverse 45 = .ok (.goto (-38), 3) := by decide +kernel
theorem dX0_reverse_48 : decode cX0_reverse 48 = .ok (.return_, 1) := by decide +kernel
theorem dX0_isWord_0 : decode cX0_isWord 0 = .ok (.aload_n 2, 1) := by decide +kernel
theorem dX0_isWord_1 : decode cX0_isWord 1 = .ok (.ifnull 29, 3) := by decide +kernel
theorem dX0_isWord_4 : decode cX0_isWord 4 = .ok (.iload_n 1, 1) := by decide +kernel
theorem dX0_isWord_5 : decode cX0_isWord 5 = .ok (.ifCond .lt 25, 3) := by decide +kernel
theorem dX0_isWord_8 : decode cX0_isWord 8 = .ok (.iload_n 1, 1) := by decide +kernel
theorem dX0_isWord_9 : decode cX0_isWord 9 = .ok (.aload_n 0, 1) := by decide +kernel
theorem dX0_isWord_10 : decode cX0_isWord 10 = .ok (.getfield 9, 3) := by decide +kernel
theorem dX0_isWord_13 : decode cX0_isWord 13 = .ok (.arraylength, 1) := by decide +kernel
theorem dX0_isWord_14 : decode cX0_isWord 14 = .ok (.if_icmp .ge 16, 3) := by decide +kernel
theorem dX0_isWord_17 : decode cX0_isWord 17 = .ok (.iload_n 3, 1) := by decide +kernel
theorem dX0_isWord_18 : decode cX0_isWord 18 = .ok (.ifCond .lt 12, 3) := by decide +kernel
theorem dX0_isWord_21 : decode cX0_isWord 21 = .ok (.iload_n 3, 1) := by decide +kernel
theorem dX0_isWord_22 : decode cX0_isWord 22 = .ok (.aload_n 2, 1) := by decide +kernel
theorem dX0_isWord_23 : decode cX0_isWord 23 = .ok (.getfield 9, 3) := by decide +kernel
theorem dX0_isWord_26 : decode cX0_isWord 26 = .ok (.arraylength, 1) := by decide +kernel
theorem dX0_isWord_27 : decode cX0_isWord 27 = .ok (.if_icmp .lt 5, 3) := by decide +kernel
theorem dX0_isWord_30 : decode cX0_isWord 30 = .ok (.iconst 0, 1) := by decide +kernel
theorem dX0_isWord_31 : decode cX0_isWord 31 = .ok (.ireturn, 1) := by decide +kernel
theorem dX0_isWord_32 : decode cX0_isWord 32 = .ok (.aload_n 0, 1) := by decide +kernel
theorem dX0_isWord_33 : decode cX0_isWord 33 = .ok (.getfield 9, 3) := by decide +kernel
theorem dX0_isWord_36 : decode cX0_isWord 36 = .ok (.iload_n 1, 1) := by decide +kernel
theorem dX0_isWord_37 : decode cX0_isWord 37 = .ok (.iaload, 1) := by decide +kernel
theorem dX0_isWord_38 : decode cX0_isWord 38 = .ok (.istore 4, 2) := by decide +kernel
theorem dX0_isWord_40 : decode cX0_isWord 40 = .ok (.iload 4, 2) := by decide +kernel
theorem dX0_isWord_42 : decode cX0_isWord 42 = .ok (.aload_n 2, 1) := by decide +kernel
theorem dX0_isWord_43 : decode cX0_isWord 43 = .ok (.getfield 9, 3) := by decide +kernel
theorem dX0_isWord_46 : decode cX0_isWord 46 = .ok (.iload_n 3, 1) := by decide +kernel
theorem dX0_isWord_47 : decode cX0_isWord 47 = .ok (.iaload, 1) := by decide +kernel
theorem dX0_isWord_48 : decode cX0_isWord 48 = .ok (.if_icmp .ne 27, 3) := by decide +kernel
theorem dX0_isWord_51 : decode cX0_isWord 51 = .ok (.iload 4, 2) := by decide +kernel
theorem dX0_isWord_53 : decode cX0_isWord 53 = .ok (.aload_n 0, 1) := by decide +kernel
theorem dX0_isWord_54 : decode cX0_isWord 54 = .ok (.getfield 9, 3) := by decide +kernel
theorem dX0_isWord_57 : decode cX0_isWord 57 = .ok (.arraylength, 1) := by decide +kernel
theorem dX0_isWord_58 : decode cX0_isWord 58 = .ok (.iload_n 1, 1) := by decide +kernel
theorem dX0_isWord_59 : decode cX0_isWord 59 = .ok (.isub, 1) := by decide +kernel
theorem dX0_isWord_60 : decode cX0_isWord 60 = .ok (.if_icmp .ge 15, 3) := by decide +kernel
theorem dX0_isWord_63 : decode cX0_isWord 63 = .ok (.iload 4, 2) := by decide +kernel
theorem dX0_isWord_65 : decode cX0_isWord 65 = .ok (.aload_n 2, 1) := by decide +kernel
theorem dX0_isWord_66 : decode cX0_isWord 66 = .ok (.getfield 9, 3) := by decide +kernel
theorem dX0_isWord_69 : decode cX0_isWord 69 = .ok (.arraylength, 1) := by decide +kernel
theorem dX0_isWord_70 : decode cX0_isWord 70 = .ok (.iload_n 3, 1) := by decide +kernel
theorem dX0_isWord_71 : decode cX0_isWord 71 = .ok (.isub, 1) := by decide +kernel
theorem dX0_isWord_72 : decode cX0_isWord 72 = .ok (.if_icmp .lt 5, 3) := by decide +kernel
theorem dX0_isWord_75 : decode cX0_isWord 75 = .ok (.iconst 0, 1) := by decide +kernel
theorem dX0_isWord_76 : decode cX0_isWord 76 = .ok (.ireturn, 1) := by decide +kernel
theorem dX0_isWord_77 : decode cX0_isWord 77 = .ok (.iconst 1, 1) := by decide +kernel
theorem dX0_isWord_78 : decode cX0_isWord 78 = .ok (.istore 5, 2) := by decide +kernel
theorem dX0_isWord_80 : decode cX0_isWord 80 = .ok (.iload 5, 2) := by decide +kernel
theorem dX0_isWord_82 : decode cX0_isWord 82 = .ok (.iload 4, 2) := by decide +kernel
theorem dX0_isWord_84 : decode cX0_isWord 84 = .ok (.if_icmp .gt 32, 3) := by decide +kernel
theorem dX0_isWord_87 : decode cX0_isWord 87 = .ok (.aload_n 0, 1) := by decide +kernel
theorem dX0_isWord_88 : decode cX0_isWord 88 = .ok (.getfield 9, 3) := by decide +kernel
theorem dX0_isWord_91 : decode cX0_isWord 91 = .ok (.iload_n 1, 1) := by decide +kernel
theorem dX0_isWord_92 : decode cX0_isWord 92 = .ok (.iload 5, 2) := by decide +kernel
theorem dX0_isWord_94 : decode cX0_isWord 94 = .ok (.iadd, 1) := by decide +kernel
theorem dX0_isWord_95 : decode cX0_isWord 95 = .ok (.iaload, 1) := by decide +kernel
theorem dX0_isWord_96 : decode cX0_isWord 96 = .ok (.aload_n 2, 1) := by decide +kernel
theorem dX0_isWord_97 : decode cX0_isWord 97 = .ok (.getfield 9, 3) := by decide +kernel
theorem dX0_isWord_100 : decode cX0_isWord 100 = .ok (.iload_n 3, 1) := by decide +kernel
theorem dX0_isWord_101 : decode cX0_isWord 101 = .ok (.iload 5, 2) := by decide +kernel
theorem dX0_isWord_103 : decode cX0_isWord 103 = .ok (.iadd, 1) := by decide +kernel
theorem dX0_isWord_104 : decode cX0_isWord 104 = .ok (.iaload, 1) := by decide +kernel
theorem dX0_isWord_105 : decode cX0_isWord 105 = .ok (.if_icmp .eq 5, 3) := by decide +kernel
theorem dX0_isWord_108 : decode cX0_isWord 108 = .ok (.iconst 0, 1) := by decide +kernel
theorem dX0_isWord_109 : decode cX0_isWord 109 = .ok (.ireturn, 1) := by decide +kernel
theorem dX0_isWord_110 : decode cX0_isWord 110 = .ok (.iinc 5 1, 3) := by decide +kernel
theorem dX0_isWord_113 : decode cX0_isWord 113 = .ok (.goto (-33), 3) := by decide +kernel
theorem dX0_isWord_116 : decode cX0_isWord 116 = .ok (.iconst 1, 1) := by decide +kernel
theorem dX0_isWord_117 : decode cX0_isWord 117 = .ok (.ireturn, 1) := by decide +kernel
theorem dX0_says_0 : decode cX0_says 0 = .ok (.aload_n 2, 1) := by decide +kernel
theorem dX0_says_1 : decode cX0_says 1 = .ok (.ifnonnull 7, 3) := by decide +kernel
theorem dX0_says_4 : decode cX0_says 4 = .ok (.iconst 0, 1) := by decide +kernel
theorem dX0_says_5 : decode cX0_says 5 = .ok (.goto 7, 3) := by decide +kernel
theorem dX0_says_8 : decode cX0_says 8 = .ok (.aload_n 2, 1) := by decide +kernel
theorem dX0_says_9 : decode cX0_says 9 = .ok (.invokevirtual 42, 3) := by decide +kernel
theorem dX0_says_12 : decode cX0_says 12 = .ok (.istore_n 3, 1) := by decide +kernel
theorem dX0_says_13 : decode cX0_says 13 = .ok (.aload_n 2, 1) := by decide +kernel
theorem dX0_says_14 : decode cX0_says 14 = .ok (.ifnull 37, 3) := by decide +kernel
theorem dX0_says_17 : decode cX0_says 17 = .ok (.iload_n 1, 1) := by decide +kernel
theorem dX0_says_18 : decode cX0_says 18 = .ok (.ifCond .lt 33, 3) := by decide +kernel
theorem dX0_says_21 : decode cX0_says 21 = .ok (.iload_n 1, 1) := by decide +kernel
theorem dX0_says_22 : decode cX0_says 22 = .ok (.aload_n 0, 1) := by decide +kernel
theorem dX0_says_23 : decode cX0_says 23 = .ok (.getfield 9, 3) := by decide +kernel
theorem dX0_says_26 : decode cX0_says 26 = .ok (.arraylength, 1) := by decide +kernel
theorem dX0_says_27 : decode cX0_says 27 = .ok (.if_icmp .ge 24, 3) := by decide +kernel
theorem dX0_says_30 : decode cX0_says 30 = .ok (.aload_n 0, 1) := by decide +kernel
theorem dX0_says_31 : decode cX0_says 31 = .ok (.getfield 9, 3) := by decide +kernel
theorem dX0_says_34 : decode cX0_says 34 = .ok (.iload_n 1, 1) := by decide +kernel
theorem dX0_says_35 : decode cX0_says 35 = .ok (.iaload, 1) := by decide +kernel
theorem dX0_says_36 : decode cX0_says 36 = .ok (.iload_n 3, 1) := by decide +kernel
theorem dX0_says_37 : decode cX0_says 37 = .ok (.if_icmp .ne 14, 3) := by decide +kernel
theorem dX0_says_40 : decode cX0_says 40 = .ok (.iload_n 3, 1) := by decide +kernel
theorem dX0_says_41 : decode cX0_says 41 = .ok (.aload_n 0, 1) := by decide +kernel
theorem dX0_says_42 : decode cX0_says 42 = .ok (.getfield 9, 3) := by decide +kernel
theorem dX0_says_45 : decode cX0_says 45 = .ok (.arraylength, 1) := by decide +kernel
theorem dX0_says_46 : decode cX0_says 46 = .ok (.iload_n 1, 1) := by decide +kernel
theorem dX0_says_47 : decode cX0_says 47 = .ok (.isub, 1) := by decide +kernel
theorem dX0_says_48 : decode cX0_says 48 = .ok (.if_icmp .lt 5, 3) := by decide +kernel
theorem dX0_says_51 : decode cX0_says 51 = .ok (.iconst 0, 1) := by decide +kernel
theorem dX0_says_52 : decode cX0_says 52 = .ok (.ireturn, 1) := by decide +kernel
theorem dX0_says_53 : decode cX0_says 53 = .ok (.iconst 0, 1) := by decide +kernel
theorem dX0_says_54 : decode cX0_says 54 = .ok (.istore 4, 2) := by decide +kernel
theorem dX0_says_56 : decode cX0_says 56 = .ok (.iload 4, 2) := by decide +kernel
theorem dX0_says_58 : decode cX0_says 58 = .ok (.iload_n 3, 1) := by decide +kernel
theorem dX0_says_59 : decode cX0_says 59 = .ok (.if_icmp .ge 31, 3) := by decide +kernel
theorem dX0_says_62 : decode cX0_says 62 = .ok (.aload_n 0, 1) := by decide +kernel
theorem dX0_says_63 : decode cX0_says 63 = .ok (.getfield 9, 3) := by decide +kernel
theorem dX0_says_66 : decode cX0_says 66 = .ok (.iload_n 1, 1) := by decide +kernel
theorem dX0_says_67 : decode cX0_says 67 = .ok (.iconst 1, 1) := by decide +kernel
theorem dX0_says_68 : decode cX0_says 68 = .ok (.iadd, 1) := by decide +kernel
theorem dX0_says_69 : decode cX0_says 69 = .ok (.iload 4, 2) := by decide +kernel
theorem dX0_says_71 : decode cX0_says 71 = .ok (.iadd, 1) := by decide +kernel
theorem dX0_says_72 : decode cX0_says 72 = .ok (.iaload, 1) := by decide +kernel
theorem dX0_says_73 : decode cX0_says 73 = .ok (.aload_n 2, 1) := by decide +kernel
theorem dX0_says_74 : decode cX0_says 74 = .ok (.iload 4, 2) := by decide +kernel
theorem dX0_says_76 : decode cX0_says 76 = .ok (.invokevirtual 48, 3) := by decide +kernel
theorem dX0_says_79 : decode cX0_says 79 = .ok (.if_icmp .eq 5, 3) := by decide +kernel
theorem dX0_says_82 : decode cX0_says 82 = .ok (.iconst 0, 1) := by decide +kernel
theorem dX0_says_83 : decode cX0_says 83 = .ok (.ireturn, 1) := by decide +kernel
theorem dX0_says_84 : decode cX0_says 84 = .ok (.iinc 4 1, 3) := by decide +kernel
theorem dX0_says_87 : decode cX0_says 87 = .ok (.goto (-31), 3) := by decide +kernel
theorem dX0_says_90 : decode cX0_says 90 = .ok (.iconst 1, 1) := by decide +kernel
theorem dX0_says_91 : decode cX0_says 91 = .ok (.ireturn, 1) := by decide +kernel
theorem dX8_init_0 : decode cX8_init 0 = .ok (.aload_n 0, 1) := by decide +kernel
theorem dX8_init_1 : decode cX8_init 1 = .ok (.invokespecial 5, 3) := by decide +kernel
theorem dX8_init_4 : decode cX8_init 4 = .ok (.aload_n 0, 1) := by decide +kernel
theorem dX8_init_5 : decode cX8_init 5 = .ok (.new 11, 3) := by decide +kernel
theorem dX8_init_8 : decode cX8_init 8 = .ok (.dup, 1) := by decide +kernel
theorem dX8_init_9 : decode cX8_init 9 = .ok (.sipush 2073, 3) := by decide +kernel
theorem dX8_init_12 : decode cX8_init 12 = .ok (.invokespecial 13, 3) := by decide +kernel
theorem dX8_init_15 : decode cX8_init 15 = .ok (.putfield 16, 3) := by decide +kernel
theorem dX8_init_18 : decode cX8_init 18 = .ok (.aload_n 0, 1) := by decide +kernel
theorem dX8_init_19 : decode cX8_init 19 = .ok (.new 11, 3) := by decide +kernel
theorem dX8_init_22 : decode cX8_init 22 = .ok (.dup, 1) := by decide +kernel
theorem dX8_init_23 : decode cX8_init 23 = .ok (.sipush 2073, 3) := by decide +kernel
theorem dX8_init_26 : decode cX8_init 26 = .ok (.invokespecial 13, 3) := by decide +kernel
theorem dX8_init_29 : decode cX8_init 29 = .ok (.putfield 20, 3) := by decide +kernel
theorem dX8_init_32 : decode cX8_init 32 = .ok (.aload_n 0, 1) := by decide +kernel
theorem dX8_init_33 : decode cX8_init 33 = .ok (.new 11, 3) := by decide +kernel
theorem dX8_init_36 : decode cX8_init 36 = .ok (.dup, 1) := by decide +kernel
theorem dX8_init_37 : decode cX8_init 37 = .ok (.sipush 2073, 3) := by decide +kernel
theorem dX8_init_40 : decode cX8_init 40 = .ok (.invokespecial 13, 3) := by decide +kernel
theorem dX8_init_43 : decode cX8_init 43 = .ok (.putfield 23, 3) := by decide +kernel
theorem dX8_init_46 : decode cX8_init 46 = .ok (.aload_n 0, 1) := by decide +kernel
theorem dX8_init_47 : decode cX8_init 47 = .ok (.new 11, 3) := by decide +kernel
theorem dX8_init_50 : decode cX8_init 50 = .ok (.dup, 1) := by decide +kernel
theorem dX8_init_51 : decode cX8_init 51 = .ok (.sipush 2073, 3) := by decide +kernel
theorem dX8_init_54 : decode cX8_init 54 = .ok (.invokespecial 13, 3) := by decide +kernel
theorem dX8_init_57 : decode cX8_init 57 = .ok (.putfield 26, 3) := by decide +kernel
theorem dX8_init_60 : decode cX8_init 60 = .ok (.aload_n 0, 1) := by decide +kernel
theorem dX8_init_61 : decode cX8_init 61 = .ok (.new 11, 3) := by decide +kernel
theorem dX8_init_64 : decode cX8_init 64 = .ok (.dup, 1) := by decide +kernel
theorem dX8_init_65 : decode cX8_init 65 = .ok (.sipush 2073, 3) := by decide +kernel
theorem dX8_init_68 : decode cX8_init 68 = .ok (.invokespecial 13, 3) := by decide +kernel
theorem dX8_init_71 : decode cX8_init 71 = .ok (.putfield 29, 3) := by decide +kernel
theorem dX8_init_74 : decode cX8_init 74 = .ok (.aload_n 0, 1) := by decide +kernel
theorem dX8_init_75 : decode cX8_init 75 = .ok (.new 11, 3) := by decide +kernel
theorem dX8_init_78 : decode cX8_init 78 = .ok (.dup, 1) := by decide +kernel
theorem dX8_init_79 : decode cX8_init 79 = .ok (.sipush 2073, 3) := by decide +kernel
theorem dX8_init_82 : decode cX8_init 82 = .ok (.invokespecial 13, 3) := by decide +kernel
theorem dX8_init_85 : decode cX8_init 85 = .ok (.putfield 32, 3) := by decide +kernel
theorem dX8_init_88 : decode cX8_init 88 = .ok (.aload_n 0, 1) := by decide +kernel
theorem dX8_init_89 : decode cX8_init 89 = .ok (.new 11, 3) := by decide +kernel
theorem dX8_init_92 : decode cX8_init 92 = .ok (.dup, 1) := by decide +kernel
theorem dX8_init_93 : decode cX8_init 93 = .ok (.sipush 2073, 3) := by decide +kernel
theorem dX8_init_96 : decode cX8_init 96 = .ok (.invokespecial 13, 3) := by decide +kernel
theorem dX8_init_99 : decode cX8_init 99 = .ok (.putfield 35, 3) := by decide +kernel
theorem dX8_init_102 : decode cX8_init 102 = .ok (.aload_n 0, 1) := by decide +kernel
theorem dX8_init_103 : decode cX8_init 103 = .ok (.sipush 2073, 3) := by decide +kernel
theorem dX8_init_106 : decode cX8_init 106 = .ok (.newarray .long, 2) := by decide +kernel
theorem dX8_init_108 : decode cX8_init 108 = .ok (.putfield 38, 3) := by decide +kernel
theorem dX8_init_111 : decode cX8_init 111 = .ok (.aload_n 0, 1) := by decide +kernel
theorem dX8_init_112 : decode cX8_init 112 = .ok (.new 11, 3) := by decide +kernel
theorem dX8_init_115 : decode cX8_init 115 = .ok (.dup, 1) := by decide +kernel
theorem dX8_init_116 : decode cX8_init 116 = .ok (.sipush 4096, 3) := by decide +kernel
theorem dX8_init_119 : decode cX8_init 119 = .ok (.invokespecial 13, 3) := by decide +kernel
theorem dX8_init_122 : decode cX8_init 122 = .ok (.putfield 42, 3) := by decide +kernel
theorem dX8_init_125 : decode cX8_init 125 = .ok (.return_, 1) := by decide +kernel
theorem dX8_kind_0 : decode cX8_kind 0 = .ok (.aload_n 0, 1) := by decide +kernel
theorem dX8_kind_1 : decode cX8_kind 1 = .ok (.getfield 16, 3) := by decide +kernel
theorem dX8_kind_4 : decode cX8_kind 4 = .ok (.iload_n 1, 1) := by decide +kernel
theorem dX8_kind_5 : decode cX8_kind 5 = .ok (.invokevirtual 45, 3) := by decide +kernel
theorem dX8_kind_8 : decode cX8_kind 8 = .ok (.ireturn, 1) := by decide +kernel
theorem dX8_begin_0 : decode cX8_begin 0 = .ok (.aload_n 0, 1) := by decide +kernel
theorem dX8_begin_1 : decode cX8_begin 1 = .ok (.getfield 20, 3) := by decide +kernel
theorem dX8_begin_4 : decode cX8_begin 4 = .ok (.iload_n 1, 1) := by decide +kernel
theorem dX8_begin_5 : decode cX8_begin 5 = .ok (.invokevirtual 45, 3) := by decide +kernel
theorem dX8_begin_8 : decode cX8_begin 8 = .ok (.ireturn, 1) := by decide +kernel
theorem dX8_first_0 : decode cX8_first 0 = .ok (.aload_n 0, 1) := by decide +kernel
theorem dX8_first_1 : decode cX8_first 1 = .ok (.getfield 26, 3) := by decide +kernel
theorem dX8_first_4 : decode cX8_first 4 = .ok (.iload_n 1, 1) := by decide +kernel
theorem dX8_first_5 : decode cX8_first 5 = .ok (.invokevirtual 45, 3) := by decide +kernel
theorem dX8_first_8 : decode cX8_first 8 = .ok (.ireturn, 1) := by decide +kernel
theorem dX8_next_0 : decode cX8_next 0 = .ok (.aload_n 0, 1) := by decide +kernel
theorem dX8_next_1 : decode cX8_next 1 = .ok (.getfield 23, 3) := by decide +kernel
theorem dX8_next_4 : decode cX8_next 4 = .ok (.iload_n 1, 1) := by decide +kernel
theorem dX8_next_5 : decode cX8_next 5 = .ok (.invokevirtual 45, 3) := by decide +kernel
theorem dX8_next_8 : decode cX8_next 8 = .ok (.ireturn, 1) := by decide +kernel
theorem dX8_parts_0 : decode cX8_parts 0 = .ok (.aload_n 0, 1) := by decide +kernel
theorem dX8_parts_1 : decode cX8_parts 1 = .ok (.getfield 29, 3) := by decide +kernel
theorem dX8_parts_4 : decode cX8_parts 4 = .ok (.iload_n 1, 1) := by decide +kernel
theorem dX8_parts_5 : decode cX8_parts 5 = .ok (.invokevirtual 45, 3) := by decide +kernel
theorem dX8_parts_8 : decode cX8_parts 8 = .ok (.ireturn, 1) := by decide +kernel
theorem dX8_number_0 : decode cX8_number 0 = .ok (.iload_n 1, 1) := by decide +kernel
theorem dX8_number_1 : decode cX8_number 1 = .ok (.ifCond .lt 21, 3) := by decide +kernel
theorem dX8_number_4 : decode cX8_number 4 = .ok (.iload_n 1, 1) := by decide +kernel
theorem dX8_number_5 : decode cX8_number 5 = .ok (.aload_n 0, 1) := by decide +kernel
theorem dX8_number_6 : decode cX8_number 6 = .ok (.getfield 38, 3) := by decide +kernel
theorem dX8_number_9 : decode cX8_number 9 = .ok (.arraylength, 1) := by decide +kernel
theorem dX8_number_10 : decode cX8_number 10 = .ok (.if_icmp .ge 12, 3) := by decide +kernel
theorem dX8_number_13 : decode cX8_number 13 = .ok (.aload_n 0, 1) := by decide +kernel
theorem dX8_number_14 : decode cX8_number 14 = .ok (.getfield 38, 3) := by decide +kernel
theorem dX8_number_17 : decode cX8_number 17 = .ok (.iload_n 1, 1) := by decide +kernel
theorem dX8_number_18 : decode cX8_number 18 = .ok (.laload, 1) := by decide +kernel
theorem dX8_number_19 : decode cX8_number 19 = .ok (.goto 4, 3) := by decide +kernel
theorem dX8_number_22 : decode cX8_number 22 = .ok (.lconst 0, 1) := by decide +kernel
theorem dX8_number_23 : decode cX8_number 23 = .ok (.lreturn, 1) := by decide +kernel
theorem dX8_letters_0 : decode cX8_letters 0 = .ok (.aload_n 0, 1) := by decide +kernel
theorem dX8_letters_1 : decode cX8_letters 1 = .ok (.getfield 42, 3) := by decide +kernel
theorem dX8_letters_4 : decode cX8_letters 4 = .ok (.areturn, 1) := by decide +kernel
theorem dX8_word_0 : decode cX8_word 0 = .ok (.aload_n 0, 1) := by decide +kernel
theorem dX8_word_1 : decode cX8_word 1 = .ok (.getfield 32, 3) := by decide +kernel
theorem dX8_word_4 : decode cX8_word 4 = .ok (.iload_n 1, 1) := by decide +kernel
theorem dX8_word_5 : decode cX8_word 5 = .ok (.invokevirtual 45, 3) := by decide +kernel
theorem dX8_word_8 : decode cX8_word 8 = .ok (.ireturn, 1) := by decide +kernel
theorem dX8_length_0 : decode cX8_length 0 = .ok (.aload_n 0, 1) := by decide +kernel
theorem dX8_length_1 : decode cX8_length 1 = .ok (.getfield 42, 3) := by decide +kernel
theorem dX8_length_4 : decode cX8_length 4 = .ok (.aload_n 0, 1) := by decide +kernel
theorem dX8_length_5 : decode cX8_length 5 = .ok (.getfield 32, 3) := by decide +kernel
theorem dX8_length_8 : decode cX8_length 8 = .ok (.iload_n 1, 1) := by decide +kernel
theorem dX8_length_9 : decode cX8_length 9 = .ok (.invokevirtual 45, 3) := by decide +kernel
theorem dX8_length_12 : decode cX8_length 12 = .ok (.invokevirtual 45, 3) := by decide +kernel
theorem dX8_length_15 : decode cX8_length 15 = .ok (.ireturn, 1) := by decide +kernel
theorem dX8_key_0 : decode cX8_key 0 = .ok (.aload_n 0, 1) := by decide +kernel
theorem dX8_key_1 : decode cX8_key 1 = .ok (.getfield 35, 3) := by decide +kernel
theorem dX8_key_4 : decode cX8_key 4 = .ok (.iload_n 1, 1) := by decide +kernel
theorem dX8_key_5 : decode cX8_key 5 = .ok (.invokevirtual 45, 3) := by decide +kernel
theorem dX8_key_8 : decode cX8_key 8 = .ok (.ireturn, 1) := by decide +kernel
theorem dX8_isString_0 : decode cX8_isString 0 = .ok (.iload_n 1, 1) := by decide +kernel
theorem dX8_isString_1 : decode cX8_isString 1 = .ok (.iconst (-1), 1) := by decide +kernel
theorem dX8_isString_2 : decode cX8_isString 2 = .ok (.if_icmp .eq 19, 3) := by decide +kernel
theorem dX8_isString_5 : decode cX8_isString 5 = .ok (.aload_n 0, 1) := by decide +kernel
theorem dX8_isString_6 : decode cX8_isString 6 = .ok (.getfield 16, 3) := by decide +kernel
theorem dX8_isString_9 : decode cX8_isString 9 = .ok (.iload_n 1, 1) := by decide +kernel
theorem dX8_isString_10 : decode cX8_isString 10 = .ok (.invokevirtual 45, 3) := by decide +kernel
theorem dX8_isString_13 : decode cX8_isString 13 = .ok (.iconst 3, 1) := by decide +kernel
theorem dX8_isString_14 : decode cX8_isString 14 = .ok (.if_icmp .ne 7, 3) := by decide +kernel
theorem dX8_isString_17 : decode cX8_isString 17 = .ok (.iconst 1, 1) := by decide +kernel
theorem dX8_isString_18 : decode cX8_isString 18 = .ok (.goto 4, 3) := by decide +kernel
theorem dX8_isString_21 : decode cX8_isString 21 = .ok (.iconst 0, 1) := by decide +kernel
theorem dX8_isString_22 : decode cX8_isString 22 = .ok (.ireturn, 1) := by decide +kernel
theorem dX8_says_0 : decode cX8_says 0 = .ok (.aload_n 0, 1) := by decide +kernel
theorem dX8_says_1 : decode cX8_says 1 = .ok (.getfield 42, 3) := by decide +kernel
theorem dX8_says_4 : decode cX8_says 4 = .ok (.aload_n 0, 1) := by decide +kernel
theorem dX8_says_5 : decode cX8_says 5 = .ok (.getfield 32, 3) := by decide +kernel
theorem dX8_says_8 : decode cX8_says 8 = .ok (.iload_n 1, 1) := by decide +kernel
theorem dX8_says_9 : decode cX8_says 9 = .ok (.invokevirtual 45, 3) := by decide +kernel
theorem dX8_says_12 : decode cX8_says 12 = .ok (.aload_n 2, 1) := by decide +kernel
theorem dX8_says_13 : decode cX8_says 13 = .ok (.invokevirtual 49, 3) := by decide +kernel
theorem dX8_says_16 : decode cX8_says 16 = .ok (.ireturn, 1) := by decide +kernel
theorem dX8_member_0 : decode cX8_member 0 = .ok (.aload_n 0, 1) := by decide +kernel
theorem dX8_member_1 : decode cX8_member 1 = .ok (.getfield 26, 3) := by decide +kernel
theorem dX8_member_4 : decode cX8_member 4 = .ok (.iload_n 1, 1) := by decide +kernel
theorem dX8_member_5 : decode cX8_member 5 = .ok (.invokevirtual 45, 3) := by decide +kernel
theorem dX8_member_8 : decode cX8_member 8 = .ok (.istore_n 3, 1) := by decide +kernel
theorem dX8_member_9 : decode cX8_member 9 = .ok (.iconst 0, 1) := by decide +kernel
theorem dX8_member_10 : decode cX8_member 10 = .ok (.istore 4, 2) := by decide +kernel
theorem dX8_member_12 : decode cX8_member 12 = .ok (.iload 4, 2) := by decide +kernel
theorem dX8_member_14 : decode cX8_member 14 = .ok (.sipush 2073, 3) := by decide +kernel
theorem dX8_member_17 : decode cX8_member 17 = .ok (.if_icmp .ge 44, 3) := by decide +kernel
theorem dX8_member_20 : decode cX8_member 20 = .ok (.iload_n 3, 1) := by decide +kernel
theorem dX8_member_21 : decode cX8_member 21 = .ok (.iconst (-1), 1) := by decide +kernel
theorem dX8_member_22 : decode cX8_member 22 = .ok (.if_icmp .eq 39, 3) := by decide +kernel
theorem dX8_member_25 : decode cX8_member 25 = .ok (.aload_n 0, 1) := by decide +kernel
theorem dX8_member_26 : decode cX8_member 26 = .ok (.getfield 42, 3) := by decide +kernel
theorem dX8_member_29 : decode cX8_member 29 = .ok (.aload_n 0, 1) := by decide +kernel
theorem dX8_member_30 : decode cX8_member 30 = .ok (.getfield 35, 3) := by decide +kernel
theorem dX8_member_33 : decode cX8_member 33 = .ok (.iload_n 3, 1) := by decide +kernel
theorem dX8_member_34 : decode cX8_member 34 = .ok (.invokevirtual 45, 3) := by decide +kernel
theorem dX8_member_37 : decode cX8_member 37 = .ok (.aload_n 2, 1) := by decide +kernel
theorem dX8_member_38 : decode cX8_member 38 = .ok (.invokevirtual 49, 3) := by decide +kernel
theorem dX8_member_41 : decode cX8_member 41 = .ok (.ifCond .eq 5, 3) := by decide +kernel
theorem dX8_member_44 : decode cX8_member 44 = .ok (.iload_n 3, 1) := by decide +kernel
theorem dX8_member_45 : decode cX8_member 45 = .ok (.ireturn, 1) := by decide +kernel
theorem dX8_member_46 : decode cX8_member 46 = .ok (.aload_n 0, 1) := by decide +kernel
theorem dX8_member_47 : decode cX8_member 47 = .ok (.getfield 23, 3) := by decide +kernel
theorem dX8_member_50 : decode cX8_member 50 = .ok (.iload_n 3, 1) := by decide +kernel
theorem dX8_member_51 : decode cX8_member 51 = .ok (.invokevirtual 45, 3) := by decide +kernel
theorem dX8_member_54 : decode cX8_member 54 = .ok (.istore_n 3, 1) := by decide +kernel
theorem dX8_member_55 : decode cX8_member 55 = .ok (.iinc 4 1, 3) := by decide +kernel
theorem dX8_member_58 : decode cX8_member 58 = .ok (.goto (-46), 3) := by decide +kernel
theorem dX8_member_61 : decode cX8_member 61 = .ok (.iconst (-1), 1) := by decide +kernel
theorem dX8_member_62 : decode cX8_member 62 = .ok (.ireturn, 1) := by decide +kernel
theorem dX8_memberNamed_0 : decode cX8_memberNamed 0 = .ok (.aload_n 0, 1) := by decide +kernel
theorem dX8_memberNamed_1 : decode cX8_memberNamed 1 = .ok (.getfield 26, 3) := by decide +kernel
theorem dX8_memberNamed_4 : decode cX8_memberNamed 4 = .ok (.iload_n 1, 1) := by decide +kernel
theorem dX8_memberNamed_5 : decode cX8_memberNamed 5 = .ok (.invokevirtual 45, 3) := by decide +kernel
theorem dX8_memberNamed_8 : decode cX8_memberNamed 8 = .ok (.istore 4, 2) := by decide +kernel
theorem dX8_memberNamed_10 : decode cX8_memberNamed 10 = .ok (.iconst 0, 1) := by decide +kernel
theorem dX8_memberNamed_11 : decode cX8_memberNamed 11 = .ok (.istore 5, 2) := by decide +kernel
theorem dX8_memberNamed_13 : decode cX8_memberNamed 13 = .ok (.iload 5, 2) := by decide +kernel
theorem dX8_memberNamed_15 : decode cX8_memberNamed 15 = .ok (.sipush 2073, 3) := by decide +kernel
theorem dX8_memberNamed_18 : decode cX8_memberNamed 18 = .ok (.if_icmp .ge 50, 3) := by decide +kernel
theorem dX8_memberNamed_21 : decode cX8_memberNamed 21 = .ok (.iload 4, 2) := by decide +kernel
theorem dX8_memberNamed_23 : decode cX8_memberNamed 23 = .ok (.iconst (-1), 1) := by decide +kernel
theorem dX8_memberNamed_24 : decode cX8_memberNamed 24 = .ok (.if_icmp .eq 44, 3) := by decide +kernel
theorem dX8_memberNamed_27 : decode cX8_memberNamed 27 = .ok (.aload_n 0, 1) := by decide +kernel
theorem dX8_memberNamed_28 : decode cX8_memberNamed 28 = .ok (.getfield 42, 3) := by decide +kernel
theorem dX8_memberNamed_31 : decode cX8_memberNamed 31 = .ok (.aload_n 0, 1) := by decide +kernel
theorem dX8_memberNamed_32 : decode cX8_memberNamed 32 = .ok (.getfield 35, 3) := by decide +kernel
theorem dX8_memberNamed_35 : decode cX8_memberNamed 35 = .ok (.iload 4, 2) := by decide +kernel
theorem dX8_memberNamed_37 : decode cX8_memberNamed 37 = .ok (.invokevirtual 45, 3) := by decide +kernel
theorem dX8_memberNamed_40 : decode cX8_memberNamed 40 = .ok (.aload_n 2, 1) := by decide +kernel
theorem dX8_memberNamed_41 : decode cX8_memberNamed 41 = .ok (.iload_n 3, 1) := by decide +kernel
theorem dX8_memberNamed_42 : decode cX8_memberNamed 42 = .ok (.invokevirtual 53, 3) := by decide +kernel
theorem dX8_memberNamed_45 : decode cX8_memberNamed 45 = .ok (.ifCond .eq 6, 3) := by decide +kernel
theorem dX8_memberNamed_48 : decode cX8_memberNamed 48 = .ok (.iload 4, 2) := by decide +kernel
theorem dX8_memberNamed_50 : decode cX8_memberNamed 50 = .ok (.ireturn, 1) := by decide +kernel
theorem dX8_memberNamed_51 : decode cX8_memberNamed 51 = .ok (.aload_n 0, 1) := by decide +kernel
theorem dX8_memberNamed_52 : decode cX8_memberNamed 52 = .ok (.getfield 23, 3) := by decide +kernel
theorem dX8_memberNamed_55 : decode cX8_memberNamed 55 = .ok (.iload 4, 2) := by decide +kernel
theorem dX8_memberNamed_57 : decode cX8_memberNamed 57 = .ok (.invokevirtual 45, 3) := by decide +kernel
theorem dX8_memberNamed_60 : decode cX8_memberNamed 60 = .ok (.istore 4, 2) := by decide +kernel
theorem dX8_memberNamed_62 : decode cX8_memberNamed 62 = .ok (.iinc 5 1, 3) := by decide +kernel
theorem dX8_memberNamed_65 : decode cX8_memberNamed 65 = .ok (.goto (-52), 3) := by decide +kernel
theorem dX8_memberNamed_68 : decode cX8_memberNamed 68 = .ok (.iconst (-1), 1) := by decide +kernel
theorem dX8_memberNamed_69 : decode cX8_memberNamed 69 = .ok (.ireturn, 1) := by decide +kernel
theorem dX8_parse_0 : decode cX8_parse 0 = .ok (.aload_n 1, 1) := by decide +kernel
theorem dX8_parse_1 : decode cX8_parse 1 = .ok (.ifnonnull 5, 3) := by decide +kernel
theorem dX8_parse_4 : decode cX8_parse 4 = .ok (.iconst 0, 1) := by decide +kernel
theorem dX8_parse_5 : decode cX8_parse 5 = .ok (.ireturn, 1) := by decide +kernel
theorem dX8_parse_6 : decode cX8_parse 6 = .ok (.aload_n 0, 1) := by decide +kernel
theorem dX8_parse_7 : decode cX8_parse 7 = .ok (.aload_n 1, 1) := by decide +kernel
theorem dX8_parse_8 : decode cX8_parse 8 = .ok (.putfield 57, 3) := by decide +kernel
theorem dX8_parse_11 : decode cX8_parse 11 = .ok (.aload_n 0, 1) := by decide +kernel
theorem dX8_parse_12 : decode cX8_parse 12 = .ok (.getfield 42, 3) := by decide +kernel
theorem dX8_parse_15 : decode cX8_parse 15 = .ok (.iconst 0, 1) := by decide +kernel
theorem dX8_parse_16 : decode cX8_parse 16 = .ok (.invokevirtual 60, 3) := by decide +kernel
theorem dX8_parse_19 : decode cX8_parse 19 = .ok (.aload_n 0, 1) := by decide +kernel
theorem dX8_parse_20 : decode cX8_parse 20 = .ok (.iconst 0, 1) := by decide +kernel
theorem dX8_parse_21 : decode cX8_parse 21 = .ok (.putfield 63, 3) := by decide +kernel
theorem dX8_parse_24 : decode cX8_parse 24 = .ok (.aload_n 0, 1) := by decide +kernel
theorem dX8_parse_25 : decode cX8_parse 25 = .ok (.iconst 0, 1) := by decide +kernel
theorem dX8_parse_26 : decode cX8_parse 26 = .ok (.putfield 67, 3) := by decide +kernel
theorem dX8_parse_29 : decode cX8_parse 29 = .ok (.aload_n 0, 1) := by decide +kernel
theorem dX8_parse_30 : decode cX8_parse 30 = .ok (.iconst (-1), 1) := by decide +kernel
theorem dX8_parse_31 : decode cX8_parse 31 = .ok (.putfield 70, 3) := by decide +kernel
theorem dX8_parse_34 : decode cX8_parse 34 = .ok (.aload_n 0, 1) := by decide +kernel
theorem dX8_parse_35 : decode cX8_parse 35 = .ok (.invokevirtual 73, 3) := by decide +kernel
theorem dX8_parse_38 : decode cX8_parse 38 = .ok (.aload_n 0, 1) := by decide +kernel
theorem dX8_parse_39 : decode cX8_parse 39 = .ok (.iconst 0, 1) := by decide +kernel
theorem dX8_parse_40 : decode cX8_parse 40 = .ok (.invokevirtual 76, 3) := by decide +kernel
theorem dX8_parse_43 : decode cX8_parse 43 = .ok (.pop, 1) := by decide +kernel
theorem dX8_parse_44 : decode cX8_parse 44 = .ok (.aload_n 0, 1) := by decide +kernel
theorem dX8_parse_45 : decode cX8_parse 45 = .ok (.invokevirtual 73, 3) := by decide +kernel
theorem dX8_parse_48 : decode cX8_parse 48 = .ok (.aload_n 0, 1) := by decide +kernel
theorem dX8_parse_49 : decode cX8_parse 49 = .ok (.getfield 67, 3) := by decide +kernel
theorem dX8_parse_52 : decode cX8_parse 52 = .ok (.aload_n 0, 1) := by decide +kernel
theorem dX8_parse_53 : decode cX8_parse 53 = .ok (.getfield 57, 3) := by decide +kernel
theorem dX8_parse_56 : decode cX8_parse 56 = .ok (.invokevirtual 79, 3) := by decide +kernel
theorem dX8_parse_59 : decode cX8_parse 59 = .ok (.if_icmp .ge 11, 3) := by decide +kernel
theorem dX8_parse_62 : decode cX8_parse 62 = .ok (.aload_n 0, 1) := by decide +kernel
theorem dX8_parse_63 : decode cX8_parse 63 = .ok (.aload_n 0, 1) := by decide +kernel
theorem dX8_parse_64 : decode cX8_parse 64 = .ok (.getfield 67, 3) := by decide +kernel
theorem dX8_parse_67 : decode cX8_parse 67 = .ok (.invokevirtual 83, 3) := by decide +kernel
theorem dX8_parse_70 : decode cX8_parse 70 = .ok (.aload_n 0, 1) := by decide +kernel
theorem dX8_parse_71 : decode cX8_parse 71 = .ok (.getfield 70, 3) := by decide +kernel
theorem dX8_parse_74 : decode cX8_parse 74 = .ok (.ireturn, 1) := by decide +kernel
theorem dX8_fail_0 : decode cX8_fail 0 = .ok (.aload_n 0, 1) := by decide +kernel
theorem dX8_fail_1 : decode cX8_fail 1 = .ok (.getfield 70, 3) := by decide +kernel
theorem dX8_fail_4 : decode cX8_fail 4 = .ok (.iconst (-1), 1) := by decide +kernel
theorem dX8_fail_5 : decode cX8_fail 5 = .ok (.if_icmp .ne 8, 3) := by decide +kernel
theorem dX8_fail_8 : decode cX8_fail 8 = .ok (.aload_n 0, 1) := by decide +kernel
theorem dX8_fail_9 : decode cX8_fail 9 = .ok (.iload_n 1, 1) := by decide +kernel
theorem dX8_fail_10 : decode cX8_fail 10 = .ok (.putfield 70, 3) := by decide +kernel
theorem dX8_fail_13 : decode cX8_fail 13 = .ok (.return_, 1) := by decide +kernel
theorem dX8_skipBlanks_0 : decode cX8_skipBlanks 0 = .ok (.iconst 0, 1) := by decide +kernel
theorem dX8_skipBlanks_1 : decode cX8_skipBlanks 1 = .ok (.istore_n 1, 1) := by decide +kernel
theorem dX8_skipBlanks_2 : decode cX8_skipBlanks 2 = .ok (.iload_n 1, 1) := by decide +kernel
theorem dX8_skipBlanks_3 : decode cX8_skipBlanks 3 = .ok (.sipush 4096, 3) := by decide +kernel
theorem dX8_skipBlanks_6 : decode cX8_skipBlanks 6 = .ok (.if_icmp .ge 56, 3) := by decide +kernel
theorem dX8_skipBlanks_9 : decode cX8_skipBlanks 9 = .ok (.aload_n 0, 1) := by decide +kernel
theorem dX8_skipBlanks_10 : decode cX8_skipBlanks 10 = .ok (.getfield 57, 3) := by decide +kernel
theorem dX8_skipBlanks_13 : decode cX8_skipBlanks 13 = .ok (.aload_n 0, 1) := by decide +kernel
theorem dX8_skipBlanks_14 : decode cX8_skipBlanks 14 = .ok (.getfield 67, 3) := by decide +kernel
theorem dX8_skipBlanks_17 : decode cX8_skipBlanks 17 = .ok (.invokevirtual 86, 3) := by decide +kernel
theorem dX8_skipBlanks_20 : decode cX8_skipBlanks 20 = .ok (.istore_n 2, 1) := by decide +kernel
theorem dX8_skipBlanks_21 : decode cX8_skipBlanks 21 = .ok (.iload_n 2, 1) := by decide +kernel
theorem dX8_skipBlanks_22 : decode cX8_skipBlanks 22 = .ok (.bipush 9, 2) := by decide +kernel
theorem dX8_skipBlanks_24 : decode cX8_skipBlanks 24 = .ok (.if_icmp .eq 22, 3) := by decide +kernel
theorem dX8_skipBlanks_27 : decode cX8_skipBlanks 27 = .ok (.iload_n 2, 1) := by decide +kernel
theorem dX8_skipBlanks_28 : decode cX8_skipBlanks 28 = .ok (.bipush 10, 2) := by decide +kernel
theorem dX8_skipBlanks_30 : decode cX8_skipBlanks 30 = .ok (.if_icmp .eq 16, 3) := by decide +kernel
theorem dX8_skipBlanks_33 : decode cX8_skipBlanks 33 = .ok (.iload_n 2, 1) := by decide +kernel
theorem dX8_skipBlanks_34 : decode cX8_skipBlanks 34 = .ok (.bipush 13, 2) := by decide +kernel
theorem dX8_skipBlanks_36 : decode cX8_skipBlanks 36 = .ok (.if_icmp .eq 10, 3) := by decide +kernel
theorem dX8_skipBlanks_39 : decode cX8_skipBlanks 39 = .ok (.iload_n 2, 1) := by decide +kernel
theorem dX8_skipBlanks_40 : decode cX8_skipBlanks 40 = .ok (.bipush 32, 2) := by decide +kernel
theorem dX8_skipBlanks_42 : decode cX8_skipBlanks 42 = .ok (.if_icmp .eq 4, 3) := by decide +kernel
theorem dX8_skipBlanks_45 : decode cX8_skipBlanks 45 = .ok (.return_, 1) := by decide +kernel
theorem dX8_skipBlanks_46 : decode cX8_skipBlanks 46 = .ok (.aload_n 0, 1) := by decide +kernel
theorem dX8_skipBlanks_47 : decode cX8_skipBlanks 47 = .ok (.dup, 1) := by decide +kernel
theorem dX8_skipBlanks_48 : decode cX8_skipBlanks 48 = .ok (.getfield 67, 3) := by decide +kernel
theorem dX8_skipBlanks_51 : decode cX8_skipBlanks 51 = .ok (.iconst 1, 1) := by decide +kernel
theorem dX8_skipBlanks_52 : decode cX8_skipBlanks 52 = .ok (.iadd, 1) := by decide +kernel
theorem dX8_skipBlanks_53 : decode cX8_skipBlanks 53 = .ok (.putfield 67, 3) := by decide +kernel
theorem dX8_skipBlanks_56 : decode cX8_skipBlanks 56 = .ok (.iinc 1 1, 3) := by decide +kernel
theorem dX8_skipBlanks_59 : decode cX8_skipBlanks 59 = .ok (.goto (-57), 3) := by decide +kernel
theorem dX8_skipBlanks_62 : decode cX8_skipBlanks 62 = .ok (.return_, 1) := by decide +kernel
theorem dX8_parseValue_0 : decode cX8_parseValue 0 = .ok (.aload_n 0, 1) := by decide +kernel
theorem dX8_parseValue_1 : decode cX8_parseValue 1 = .ok (.getfield 63, 3) := by decide +kernel
theorem dX8_parseValue_4 : decode cX8_parseValue 4 = .ok (.istore_n 2, 1) := by decide +kernel
theorem dX8_parseValue_5 : decode cX8_parseValue 5 = .ok (.aload_n 0, 1) := by decide +kernel
theorem dX8_parseValue_6 : decode cX8_parseValue 6 = .ok (.dup, 1) := by decide +kernel
theorem dX8_parseValue_7 : decode cX8_parseValue 7 = .ok (.getfield 63, 3) := by decide +kernel
theorem dX8_parseValue_10 : decode cX8_parseValue 10 = .ok (.iconst 1, 1) := by decide +kernel
theorem dX8_parseValue_11 : decode cX8_parseValue 11 = .ok (.iadd, 1) := by decide +kernel
theorem dX8_parseValue_12 : decode cX8_parseValue 12 = .ok (.putfield 63, 3) := by decide +kernel
theorem dX8_parseValue_15 : decode cX8_parseValue 15 = .ok (.aload_n 0, 1) := by decide +kernel
theorem dX8_parseValue_16 : decode cX8_parseValue 16 = .ok (.getfield 20, 3) := by decide +kernel
theorem dX8_parseValue_19 : decode cX8_parseValue 19 = .ok (.iload_n 2, 1) := by decide +kernel
theorem dX8_parseValue_20 : decode cX8_parseValue 20 = .ok (.aload_n 0, 1) := by decide +kernel
theorem dX8_parseValue_21 : decode cX8_parseValue 21 = .ok (.getfield 67, 3) := by decide +kernel
theorem dX8_parseValue_24 : decode cX8_parseValue 24 = .ok (.invokevirtual 89, 3) := by decide +kernel
theorem dX8_parseValue_27 : decode cX8_parseValue 27 = .ok (.aload_n 0, 1) := by decide +kernel
theorem dX8_parseValue_28 : decode cX8_parseValue 28 = .ok (.getfield 23, 3) := by decide +kernel
theorem dX8_parseValue_31 : decode cX8_parseValue 31 = .ok (.iload_n 2, 1) := by decide +kernel
theorem dX8_parseValue_32 : decode cX8_parseValue 32 = .ok (.iconst (-1), 1) := by decide +kernel
theorem dX8_parseValue_33 : decode cX8_parseValue 33 = .ok (.invokevirtual 89, 3) := by decide +kernel
theorem dX8_parseValue_36 : decode cX8_parseValue 36 = .ok (.aload_n 0, 1) := by decide +kernel
theorem dX8_parseValue_37 : decode cX8_parseValue 37 = .ok (.getfield 26, 3) := by decide +kernel
theorem dX8_parseValue_40 : decode cX8_parseValue 40 = .ok (.iload_n 2, 1) := by decide +kernel
theorem dX8_parseValue_41 : decode cX8_parseValue 41 = .ok (.iconst (-1), 1) := by decide +kernel
theorem dX8_parseValue_42 : decode cX8_parseValue 42 = .ok (.invokevirtual 89, 3) := by decide +kernel
theorem dX8_parseValue_45 : decode cX8_parseValue 45 = .ok (.aload_n 0, 1) := by decide +kernel
theorem dX8_parseValue_46 : decode cX8_parseValue 46 = .ok (.getfield 29, 3) := by decide +kernel
theorem dX8_parseValue_49 : decode cX8_parseValue 49 = .ok (.iload_n 2, 1) := by decide +kernel
theorem dX8_parseValue_50 : decode cX8_parseValue 50 = .ok (.iconst 0, 1) := by decide +kernel
theorem dX8_parseValue_51 : decode cX8_parseValue 51 = .ok (.invokevirtual 89, 3) := by decide +kernel
theorem dX8_parseValue_54 : decode cX8_parseValue 54 = .ok (.aload_n 0, 1) := by decide +kernel
theorem dX8_parseValue_55 : decode cX8_parseValue 55 = .ok (.getfield 57, 3) := by decide +kernel
theorem dX8_parseValue_58 : decode cX8_parseValue 58 = .ok (.aload_n 0, 1) := by decide +kernel
theorem dX8_parseValue_59 : decode cX8_parseValue 59 = .ok (.getfield 67, 3) := by decide +kernel
theorem dX8_parseValue_62 : decode cX8_parseValue 62 = .ok (.invokevirtual 86, 3) := by decide +kernel
theorem dX8_parseValue_65 : decode cX8_parseValue 65 = .ok (.istore_n 3, 1) := by decide +kernel
theorem dX8_parseValue_66 : decode cX8_parseValue 66 = .ok (.iload_n 3, 1) := by decide +kernel
theorem dX8_parseValue_67 : decode cX8_parseValue 67 = .ok (.bipush 123, 2) := by decide +kernel
theorem dX8_parseValue_69 : decode cX8_parseValue 69 = .ok (.if_icmp .ne 23, 3) := by decide +kernel
theorem dX8_parseValue_72 : decode cX8_parseValue 72 = .ok (.aload_n 0, 1) := by decide +kernel
theorem dX8_parseValue_73 : decode cX8_parseValue 73 = .ok (.getfield 16, 3) := by decide +kernel
theorem dX8_parseValue_76 : decode cX8_parseValue 76 = .ok (.iload_n 2, 1) := by decide +kernel
theorem dX8_parseValue_77 : decode cX8_parseValue 77 = .ok (.iconst 1, 1) := by decide +kernel
theorem dX8_parseValue_78 : decode cX8_parseValue 78 = .ok (.invokevirtual 89, 3) := by decide +kernel
theorem dX8_parseValue_81 : decode cX8_parseValue 81 = .ok (.aload_n 0, 1) := by decide +kernel
theorem dX8_parseValue_82 : decode cX8_parseValue 82 = .ok (.iload_n 2, 1) := by decide +kernel
theorem dX8_parseValue_83 : decode cX8_parseValue 83 = .ok (.bipush 125, 2) := by decide +kernel
theorem dX8_parseValue_85 : decode cX8_parseValue 85 = .ok (.iload_n 1, 1) := by decide +kernel
theorem dX8_parseValue_86 : decode cX8_parseValue 86 = .ok (.invokevirtual 93, 3) := by decide +kernel
theorem dX8_parseValue_89 : decode cX8_parseValue 89 = .ok (.goto 126, 3) := by decide +kernel
theorem dX8_parseValue_92 : decode cX8_parseValue 92 = .ok (.iload_n 3, 1) := by decide +kernel
theorem dX8_parseValue_93 : decode cX8_parseValue 93 = .ok (.bipush 91, 2) := by decide +kernel
theorem dX8_parseValue_95 : decode cX8_parseValue 95 = .ok (.if_icmp .ne 23, 3) := by decide +kernel
theorem dX8_parseValue_98 : decode cX8_parseValue 98 = .ok (.aload_n 0, 1) := by decide +kernel
theorem dX8_parseValue_99 : decode cX8_parseValue 99 = .ok (.getfield 16, 3) := by decide +kernel
theorem dX8_parseValue_102 : decode cX8_parseValue 102 = .ok (.iload_n 2, 1) := by decide +kernel
theorem dX8_parseValue_103 : decode cX8_parseValue 103 = .ok (.iconst 2, 1) := by decide +kernel
theorem dX8_parseValue_104 : decode cX8_parseValue 104 = .ok (.invokevirtual 89, 3) := by decide +kernel
theorem dX8_parseValue_107 : decode cX8_parseValue 107 = .ok (.aload_n 0, 1) := by decide +kernel
theorem dX8_parseValue_108 : decode cX8_parseValue 108 = .ok (.iload_n 2, 1) := by decide +kernel
theorem dX8_parseValue_109 : decode cX8_parseValue 109 = .ok (.bipush 93, 2) := by decide +kernel
theorem dX8_parseValue_111 : decode cX8_parseValue 111 = .ok (.iload_n 1, 1) := by decide +kernel
theorem dX8_parseValue_112 : decode cX8_parseValue 112 = .ok (.invokevirtual 93, 3) := by decide +kernel
theorem dX8_parseValue_115 : decode cX8_parseValue 115 = .ok (.goto 100, 3) := by decide +kernel
theorem dX8_parseValue_118 : decode cX8_parseValue 118 = .ok (.iload_n 3, 1) := by decide +kernel
theorem dX8_parseValue_119 : decode cX8_parseValue 119 = .ok (.bipush 34, 2) := by decide +kernel
theorem dX8_parseValue_121 : decode cX8_parseValue 121 = .ok (.if_icmp .ne 27, 3) := by decide +kernel
theorem dX8_parseValue_124 : decode cX8_parseValue 124 = .ok (.aload_n 0, 1) := by decide +kernel
theorem dX8_parseValue_125 : decode cX8_parseValue 125 = .ok (.getfield 16, 3) := by decide +kernel
theorem dX8_parseValue_128 : decode cX8_parseValue 128 = .ok (.iload_n 2, 1) := by decide +kernel
theorem dX8_parseValue_129 : decode cX8_parseValue 129 = .ok (.iconst 3, 1) := by decide +kernel
theorem dX8_parseValue_130 : decode cX8_parseValue 130 = .ok (.invokevirtual 89, 3) := by decide +kernel
theorem dX8_parseValue_133 : decode cX8_parseValue 133 = .ok (.aload_n 0, 1) := by decide +kernel
theorem dX8_parseValue_134 : decode cX8_parseValue 134 = .ok (.getfield 32, 3) := by decide +kernel
theorem dX8_parseValue_137 : decode cX8_parseValue 137 = .ok (.iload_n 2, 1) := by decide +kernel
theorem dX8_parseValue_138 : decode cX8_parseValue 138 = .ok (.aload_n 0, 1) := by decide +kernel
theorem dX8_parseValue_139 : decode cX8_parseValue 139 = .ok (.invokevirtual 97, 3) := by decide +kernel
theorem dX8_parseValue_142 : decode cX8_parseValue 142 = .ok (.invokevirtual 89, 3) := by decide +kernel
theorem dX8_parseValue_145 : decode cX8_parseValue 145 = .ok (.goto 70, 3) := by decide +kernel
theorem dX8_parseValue_148 : decode cX8_parseValue 148 = .ok (.iload_n 3, 1) := by decide +kernel
theorem dX8_parseValue_149 : decode cX8_parseValue 149 = .ok (.bipush 116, 2) := by decide +kernel
theorem dX8_parseValue_151 : decode cX8_parseValue 151 = .ok (.if_icmp .ne 14, 3) := by decide +kernel
theorem dX8_parseValue_154 : decode cX8_parseValue 154 = .ok (.aload_n 0, 1) := by decide +kernel
theorem dX8_parseValue_155 : decode cX8_parseValue 155 = .ok (.iload_n 2, 1) := by decide +kernel
theorem dX8_parseValue_156 : decode cX8_parseValue 156 = .ok (.iconst 5, 1) := by decide +kernel
theorem dX8_parseValue_157 : decode cX8_parseValue 157 = .ok (.ldc 100, 2) := by decide +kernel
theorem dX8_parseValue_159 : decode cX8_parseValue 159 = .ok (.invokevirtual 102, 3) := by decide +kernel
theorem dX8_parseValue_162 : decode cX8_parseValue 162 = .ok (.goto 53, 3) := by decide +kernel
theorem dX8_parseValue_165 : decode cX8_parseValue 165 = .ok (.iload_n 3, 1) := by decide +kernel
theorem dX8_parseValue_166 : decode cX8_parseValue 166 = .ok (.bipush 102, 2) := by decide +kernel
theorem dX8_parseValue_168 : decode cX8_parseValue 168 = .ok (.if_icmp .ne 15, 3) := by decide +kernel
theorem dX8_parseValue_171 : decode cX8_parseValue 171 = .ok (.aload_n 0, 1) := by decide +kernel
theorem dX8_parseValue_172 : decode cX8_parseValue 172 = .ok (.iload_n 2, 1) := by decide +kernel
theorem dX8_parseValue_173 : decode cX8_parseValue 173 = .ok (.bipush 6, 2) := by decide +kernel
theorem dX8_parseValue_175 : decode cX8_parseValue 175 = .ok (.ldc 106, 2) := by decide +kernel
theorem dX8_parseValue_177 : decode cX8_parseValue 177 = .ok (.invokevirtual 102, 3) := by decide +kernel
theorem dX8_parseValue_180 : decode cX8_parseValue 180 = .ok (.goto 35, 3) := by decide +kernel
theorem dX8_parseValue_183 : decode cX8_parseValue 183 = .ok (.iload_n 3, 1) := by decide +kernel
theorem dX8_parseValue_184 : decode cX8_parseValue 184 = .ok (.bipush 110, 2) := by decide +kernel
theorem dX8_parseValue_186 : decode cX8_parseValue 186 = .ok (.if_icmp .ne 15, 3) := by decide +kernel
theorem dX8_parseValue_189 : decode cX8_parseValue 189 = .ok (.aload_n 0, 1) := by decide +kernel
theorem dX8_parseValue_190 : decode cX8_parseValue 190 = .ok (.iload_n 2, 1) := by decide +kernel
theorem dX8_parseValue_191 : decode cX8_parseValue 191 = .ok (.bipush 7, 2) := by decide +kernel
theorem dX8_parseValue_193 : decode cX8_parseValue 193 = .ok (.ldc 108, 2) := by decide +kernel
theorem dX8_parseValue_195 : decode cX8_parseValue 195 = .ok (.invokevirtual 102, 3) := by decide +kernel
theorem dX8_parseValue_198 : decode cX8_parseValue 198 = .ok (.goto 17, 3) := by decide +kernel
theorem dX8_parseValue_201 : decode cX8_parseValue 201 = .ok (.aload_n 0, 1) := by decide +kernel
theorem dX8_parseValue_202 : decode cX8_parseValue 202 = .ok (.getfield 16, 3) := by decide +kernel
theorem dX8_parseValue_205 : decode cX8_parseValue 205 = .ok (.iload_n 2, 1) := by decide +kernel
theorem dX8_parseValue_206 : decode cX8_parseValue 206 = .ok (.iconst 4, 1) := by decide +kernel
theorem dX8_parseValue_207 : decode cX8_parseValue 207 = .ok (.invokevirtual 89, 3) := by decide +kernel
theorem dX8_parseValue_210 : decode cX8_parseValue 210 = .ok (.aload_n 0, 1) := by decide +kernel
theorem dX8_parseValue_211 : decode cX8_parseValue 211 = .ok (.iload_n 2, 1) := by decide +kernel
theorem dX8_parseValue_212 : decode cX8_parseValue 212 = .ok (.invokevirtual 110, 3) := by decide +kernel
theorem dX8_parseValue_215 : decode cX8_parseValue 215 = .ok (.iload_n 2, 1) := by decide +kernel
theorem dX8_parseValue_216 : decode cX8_parseValue 216 = .ok (.ireturn, 1) := by decide +kernel
theorem dX8_parseParts_0 : decode cX8_parseParts 0 = .ok (.iload_n 3, 1) := by decide +kernel
theorem dX8_parseParts_1 : decode cX8_parseParts 1 = .ok (.bipush 24, 2) := by decide +kernel
theorem dX8_parseParts_3 : decode cX8_parseParts 3 = .ok (.if_icmp .lt 12, 3) := by decide +kernel
theorem dX8_parseParts_6 : decode cX8_parseParts 6 = .ok (.aload_n 0, 1) := by decide +kernel
theorem dX8_parseParts_7 : decode cX8_parseParts 7 = .ok (.aload_n 0, 1) := by decide +kernel
theorem dX8_parseParts_8 : decode cX8_parseParts 8 = .ok (.getfield 67, 3) := by decide +kernel
theorem dX8_parseParts_11 : decode cX8_parseParts 11 = .ok (.invokevirtual 83, 3) := by decide +kernel
theorem dX8_parseParts_14 : decode cX8_parseParts 14 = .ok (.return_, 1) := by decide +kernel
theorem dX8_parseParts_15 : decode cX8_parseParts 15 = .ok (.aload_n 0, 1) := by decide +kernel
theorem dX8_parseParts_16 : decode cX8_parseParts 16 = .ok (.dup, 1) := by decide +kernel
theorem dX8_parseParts_17 : decode cX8_parseParts 17 = .ok (.getfield 67, 3) := by decide +kernel
theorem dX8_parseParts_20 : decode cX8_parseParts 20 = .ok (.iconst 1, 1) := by decide +kernel
theorem dX8_parseParts_21 : decode cX8_parseParts 21 = .ok (.iadd, 1) := by decide +kernel
theorem dX8_parseParts_22 : decode cX8_parseParts 22 = .ok (.putfield 67, 3) := by decide +kernel
theorem dX8_parseParts_25 : decode cX8_parseParts 25 = .ok (.aload_n 0, 1) := by decide +kernel
theorem dX8_parseParts_26 : decode cX8_parseParts 26 = .ok (.invokevirtual 73, 3) := by decide +kernel
theorem dX8_parseParts_29 : decode cX8_parseParts 29 = .ok (.aload_n 0, 1) := by decide +kernel
theorem dX8_parseParts_30 : decode cX8_parseParts 30 = .ok (.getfield 57, 3) := by decide +kernel
theorem dX8_parseParts_33 : decode cX8_parseParts 33 = .ok (.aload_n 0, 1) := by decide +kernel
theorem dX8_parseParts_34 : decode cX8_parseParts 34 = .ok (.getfield 67, 3) := by decide +kernel
theorem dX8_parseParts_37 : decode cX8_parseParts 37 = .ok (.invokevirtual 86, 3) := by decide +kernel
theorem dX8_parseParts_40 : decode cX8_parseParts 40 = .ok (.iload_n 2, 1) := by decide +kernel
theorem dX8_parseParts_41 : decode cX8_parseParts 41 = .ok (.if_icmp .ne 14, 3) := by decide +kernel
theorem dX8_parseParts_44 : decode cX8_parseParts 44 = .ok (.aload_n 0, 1) := by decide +kernel
theorem dX8_parseParts_45 : decode cX8_parseParts 45 = .ok (.dup, 1) := by decide +kernel
theorem dX8_parseParts_46 : decode cX8_parseParts 46 = .ok (.getfield 67, 3) := by decide +kernel
theorem dX8_parseParts_49 : decode cX8_parseParts 49 = .ok (.iconst 1, 1) := by decide +kernel
theorem dX8_parseParts_50 : decode cX8_parseParts 50 = .ok (.iadd, 1) := by decide +kernel
theorem dX8_parseParts_51 : decode cX8_parseParts 51 = .ok (.putfield 67, 3) := by decide +kernel
theorem dX8_parseParts_54 : decode cX8_parseParts 54 = .ok (.return_, 1) := by decide +kernel
theorem dX8_parseParts_55 : decode cX8_parseParts 55 = .ok (.iconst (-1), 1) := by decide +kernel
theorem dX8_parseParts_56 : decode cX8_parseParts 56 = .ok (.istore 4, 2) := by decide +kernel
theorem dX8_parseParts_58 : decode cX8_parseParts 58 = .ok (.iconst 0, 1) := by decide +kernel
theorem dX8_parseParts_59 : decode cX8_parseParts 59 = .ok (.istore 5, 2) := by decide +kernel
theorem dX8_parseParts_61 : decode cX8_parseParts 61 = .ok (.iload 5, 2) := by decide +kernel
theorem dX8_parseParts_63 : decode cX8_parseParts 63 = .ok (.sipush 4096, 3) := by decide +kernel
theorem dX8_parseParts_66 : decode cX8_parseParts 66 = .ok (.if_icmp .ge 119, 3) := by decide +kernel
theorem dX8_parseParts_69 : decode cX8_parseParts 69 = .ok (.aload_n 0, 1) := by decide +kernel
theorem dX8_parseParts_70 : decode cX8_parseParts 70 = .ok (.getfield 70, 3) := by decide +kernel
theorem dX8_parseParts_73 : decode cX8_parseParts 73 = .ok (.iconst (-1), 1) := by decide +kernel
theorem dX8_parseParts_74 : decode cX8_parseParts 74 = .ok (.if_icmp .ne 111, 3) := by decide +kernel
theorem dX8_parseParts_77 : decode cX8_parseParts 77 = .ok (.aload_n 0, 1) := by decide +kernel
theorem dX8_parseParts_78 : decode cX8_parseParts 78 = .ok (.getfield 16, 3) := by decide +kernel
theorem dX8_parseParts_81 : decode cX8_parseParts 81 = .ok (.iload_n 1, 1) := by decide +kernel
theorem dX8_parseParts_82 : decode cX8_parseParts 82 = .ok (.invokevirtual 45, 3) := by decide +kernel
theorem dX8_parseParts_85 : decode cX8_parseParts 85 = .ok (.iconst 1, 1) := by decide +kernel
theorem dX8_parseParts_86 : decode cX8_parseParts 86 = .ok (.if_icmp .ne 8, 3) := by decide +kernel
theorem dX8_parseParts_89 : decode cX8_parseParts 89 = .ok (.aload_n 0, 1) := by decide +kernel
theorem dX8_parseParts_90 : decode cX8_parseParts 90 = .ok (.iload_n 1, 1) := by decide +kernel
theorem dX8_parseParts_91 : decode cX8_parseParts 91 = .ok (.invokevirtual 113, 3) := by decide +kernel
theorem dX8_parseParts_94 : decode cX8_parseParts 94 = .ok (.aload_n 0, 1) := by decide +kernel
theorem dX8_parseParts_95 : decode cX8_parseParts 95 = .ok (.getfield 70, 3) := by decide +kernel
theorem dX8_parseParts_98 : decode cX8_parseParts 98 = .ok (.iconst (-1), 1) := by decide +kernel
theorem dX8_parseParts_99 : decode cX8_parseParts 99 = .ok (.if_icmp .eq 4, 3) := by decide +kernel
theorem dX8_parseParts_102 : decode cX8_parseParts 102 = .ok (.return_, 1) := by decide +kernel
theorem dX8_parseParts_103 : decode cX8_parseParts 103 = .ok (.aload_n 0, 1) := by decide +kernel
theorem dX8_parseParts_104 : decode cX8_parseParts 104 = .ok (.iload_n 1, 1) := by decide +kernel
theorem dX8_parseParts_105 : decode cX8_parseParts 105 = .ok (.iload 4, 2) := by decide +kernel
theorem dX8_parseParts_107 : decode cX8_parseParts 107 = .ok (.aload_n 0, 1) := by decide +kernel
theorem dX8_parseParts_108 : decode cX8_parseParts 108 = .ok (.iload_n 3, 1) := by decide +kernel
theorem dX8_parseParts_109 : decode cX8_parseParts 109 = .ok (.iconst 1, 1) := by decide +kernel
theorem dX8_parseParts_110 : decode cX8_parseParts 110 = .ok (.iadd, 1) := by decide +kernel
theorem dX8_parseParts_111 : decode cX8_parseParts 111 = .ok (.invokevirtual 76, 3) := by decide +kernel
theorem dX8_parseParts_114 : decode cX8_parseParts 114 = .ok (.invokevirtual 116, 3) := by decide +kernel
theorem dX8_parseParts_117 : decode cX8_parseParts 117 = .ok (.istore 4, 2) := by decide +kernel
theorem dX8_parseParts_119 : decode cX8_parseParts 119 = .ok (.aload_n 0, 1) := by decide +kernel
theorem dX8_parseParts_120 : decode cX8_parseParts 120 = .ok (.invokevirtual 73, 3) := by decide +kernel
theorem dX8_parseParts_123 : decode cX8_parseParts 123 = .ok (.aload_n 0, 1) := by decide +kernel
theorem dX8_parseParts_124 : decode cX8_parseParts 124 = .ok (.getfield 57, 3) := by decide +kernel
theorem dX8_parseParts_127 : decode cX8_parseParts 127 = .ok (.aload_n 0, 1) := by decide +kernel
theorem dX8_parseParts_128 : decode cX8_parseParts 128 = .ok (.getfield 67, 3) := by decide +kernel
theorem dX8_parseParts_131 : decode cX8_parseParts 131 = .ok (.invokevirtual 86, 3) := by decide +kernel
theorem dX8_parseParts_134 : decode cX8_parseParts 134 = .ok (.istore 6, 2) := by decide +kernel
theorem dX8_parseParts_136 : decode cX8_parseParts 136 = .ok (.iload 6, 2) := by decide +kernel
theorem dX8_parseParts_138 : decode cX8_parseParts 138 = .ok (.bipush 44, 2) := by decide +kernel
theorem dX8_parseParts_140 : decode cX8_parseParts 140 = .ok (.if_icmp .eq 18, 3) := by decide +kernel
theorem dX8_parseParts_143 : decode cX8_parseParts 143 = .ok (.iload 6, 2) := by decide +kernel
theorem dX8_parseParts_145 : decode cX8_parseParts 145 = .ok (.iload_n 2, 1) := by decide +kernel
theorem dX8_parseParts_146 : decode cX8_parseParts 146 = .ok (.if_icmp .eq 12, 3) := by decide +kernel
theorem dX8_parseParts_149 : decode cX8_parseParts 149 = .ok (.aload_n 0, 1) := by decide +kernel
theorem dX8_parseParts_150 : decode cX8_parseParts 150 = .ok (.aload_n 0, 1) := by decide +kernel
theorem dX8_parseParts_151 : decode cX8_parseParts 151 = .ok (.getfield 67, 3) := by decide +kernel
theorem dX8_parseParts_154 : decode cX8_parseParts 154 = .ok (.invokevirtual 83, 3) := by decide +kernel
theorem dX8_parseParts_157 : decode cX8_parseParts 157 = .ok (.return_, 1) := by decide +kernel
theorem dX8_parseParts_158 : decode cX8_parseParts 158 = .ok (.aload_n 0, 1) := by decide +kernel
theorem dX8_parseParts_159 : decode cX8_parseParts 159 = .ok (.dup, 1) := by decide +kernel
theorem dX8_parseParts_160 : decode cX8_parseParts 160 = .ok (.getfield 67, 3) := by decide +kernel
theorem dX8_parseParts_163 : decode cX8_parseParts 163 = .ok (.iconst 1, 1) := by decide +kernel
theorem dX8_parseParts_164 : decode cX8_parseParts 164 = .ok (.iadd, 1) := by decide +kernel
theorem dX8_parseParts_165 : decode cX8_parseParts 165 = .ok (.putfield 67, 3) := by decide +kernel
theorem dX8_parseParts_168 : decode cX8_parseParts 168 = .ok (.iload 6, 2) := by decide +kernel
theorem dX8_parseParts_170 : decode cX8_parseParts 170 = .ok (.iload_n 2, 1) := by decide +kernel
theorem dX8_parseParts_171 : decode cX8_parseParts 171 = .ok (.if_icmp .ne 4, 3) := by decide +kernel
theorem dX8_parseParts_174 : decode cX8_parseParts 174 = .ok (.return_, 1) := by decide +kernel
theorem dX8_parseParts_175 : decode cX8_parseParts 175 = .ok (.aload_n 0, 1) := by decide +kernel
theorem dX8_parseParts_176 : decode cX8_parseParts 176 = .ok (.invokevirtual 73, 3) := by decide +kernel
theorem dX8_parseParts_179 : decode cX8_parseParts 179 = .ok (.iinc 5 1, 3) := by decide +kernel
theorem dX8_parseParts_182 : decode cX8_parseParts 182 = .ok (.goto (-121), 3) := by decide +kernel
theorem dX8_parseParts_185 : decode cX8_parseParts 185 = .ok (.return_, 1) := by decide +kernel
theorem dX8_link_0 : decode cX8_link 0 = .ok (.iload_n 2, 1) := by decide +kernel
theorem dX8_link_1 : decode cX8_link 1 = .ok (.iconst (-1), 1) := by decide +kernel
theorem dX8_link_2 : decode cX8_link 2 = .ok (.if_icmp .ne 15, 3) := by decide +kernel
theorem dX8_link_5 : decode cX8_link 5 = .ok (.aload_n 0, 1) := by decide +kernel
theorem dX8_link_6 : decode cX8_link 6 = .ok (.getfield 26, 3) := by decide +kernel
theorem dX8_link_9 : decode cX8_link 9 = .ok (.iload_n 1, 1) := by decide +kernel
theorem dX8_link_10 : decode cX8_link 10 = .ok (.iload_n 3, 1) := by decide +kernel
theorem dX8_link_11 : decode cX8_link 11 = .ok (.invokevirtual 89, 3) := by decide +kernel
theorem dX8_link_14 : decode cX8_link 14 = .ok (.goto 12, 3) := by decide +kernel
theorem dX8_link_17 : decode cX8_link 17 = .ok (.aload_n 0, 1) := by decide +kernel
theorem dX8_link_18 : decode cX8_link 18 = .ok (.getfield 23, 3) := by decide +kernel
theorem dX8_link_21 : decode cX8_link 21 = .ok (.iload_n 2, 1) := by decide +kernel
theorem dX8_link_22 : decode cX8_link 22 = .ok (.iload_n 3, 1) := by decide +kernel
theorem dX8_link_23 : decode cX8_link 23 = .ok (.invokevirtual 89, 3) := by decide +kernel
theorem dX8_link_26 : decode cX8_link 26 = .ok (.aload_n 0, 1) := by decide +kernel
theorem dX8_link_27 : decode cX8_link 27 = .ok (.getfield 29, 3) := by decide +kernel
theorem dX8_link_30 : decode cX8_link 30 = .ok (.iload_n 1, 1) := by decide +kernel
theorem dX8_link_31 : decode cX8_link 31 = .ok (.aload_n 0, 1) := by decide +kernel
theorem dX8_link_32 : decode cX8_link 32 = .ok (.getfield 29, 3) := by decide +kernel
theorem dX8_link_35 : decode cX8_link 35 = .ok (.iload_n 1, 1) := by decide +kernel
theorem dX8_link_36 : decode cX8_link 36 = .ok (.invokevirtual 45, 3) := by decide +kernel
theorem dX8_link_39 : decode cX8_link 39 = .ok (.iconst 1, 1) := by decide +kernel
theorem dX8_link_40 : decode cX8_link 40 = .ok (.iadd, 1) := by decide +kernel
theorem dX8_link_41 : decode cX8_link 41 = .ok (.invokevirtual 89, 3) := by decide +kernel
theorem dX8_link_44 : decode cX8_link 44 = .ok (.iload_n 3, 1) := by decide +kernel
theorem dX8_link_45 : decode cX8_link 45 = .ok (.ireturn, 1) := by decide +kernel
theorem dX8_parseKey_0 : decode cX8_parseKey 0 = .ok (.aload_n 0, 1) := by decide +kernel
theorem dX8_parseKey_1 : decode cX8_parseKey 1 = .ok (.getfield 57, 3) := by decide +kernel
theorem dX8_parseKey_4 : decode cX8_parseKey 4 = .ok (.aload_n 0, 1) := by decide +kernel
theorem dX8_parseKey_5 : decode cX8_parseKey 5 = .ok (.getfield 67, 3) := by decide +kernel
theorem dX8_parseKey_8 : decode cX8_parseKey 8 = .ok (.invokevirtual 86, 3) := by decide +kernel
theorem dX8_parseKey_11 : decode cX8_parseKey 11 = .ok (.bipush 34, 2) := by decide +kernel
theorem dX8_parseKey_13 : decode cX8_parseKey 13 = .ok (.if_icmp .eq 12, 3) := by decide +kernel
theorem dX8_parseKey_16 : decode cX8_parseKey 16 = .ok (.aload_n 0, 1) := by decide +kernel
theorem dX8_parseKey_17 : decode cX8_parseKey 17 = .ok (.aload_n 0, 1) := by decide +kernel
theorem dX8_parseKey_18 : decode cX8_parseKey 18 = .ok (.getfield 67, 3) := by decide +kernel
theorem dX8_parseKey_21 : decode cX8_parseKey 21 = .ok (.invokevirtual 83, 3) := by decide +kernel
theorem dX8_parseKey_24 : decode cX8_parseKey 24 = .ok (.return_, 1) := by decide +kernel
theorem dX8_parseKey_25 : decode cX8_parseKey 25 = .ok (.aload_n 0, 1) := by decide +kernel
theorem dX8_parseKey_26 : decode cX8_parseKey 26 = .ok (.getfield 67, 3) := by decide +kernel
theorem dX8_parseKey_29 : decode cX8_parseKey 29 = .ok (.istore_n 2, 1) := by decide +kernel
theorem dX8_parseKey_30 : decode cX8_parseKey 30 = .ok (.aload_n 0, 1) := by decide +kernel
theorem dX8_parseKey_31 : decode cX8_parseKey 31 = .ok (.invokevirtual 97, 3) := by decide +kernel
theorem dX8_parseKey_34 : decode cX8_parseKey 34 = .ok (.istore_n 3, 1) := by decide +kernel
theorem dX8_parseKey_35 : decode cX8_parseKey 35 = .ok (.aload_n 0, 1) := by decide +kernel
theorem dX8_parseKey_36 : decode cX8_parseKey 36 = .ok (.iload_n 1, 1) := by decide +kernel
theorem dX8_parseKey_37 : decode cX8_parseKey 37 = .ok (.aload_n 0, 1) := by decide +kernel
theorem dX8_parseKey_38 : decode cX8_parseKey 38 = .ok (.getfield 42, 3) := by decide +kernel
theorem dX8_parseKey_41 : decode cX8_parseKey 41 = .ok (.iload_n 3, 1) := by decide +kernel
theorem dX8_parseKey_42 : decode cX8_parseKey 42 = .ok (.invokevirtual 120, 3) := by decide +kernel
theorem dX8_parseKey_45 : decode cX8_parseKey 45 = .ok (.iconst (-1), 1) := by decide +kernel
theorem dX8_parseKey_46 : decode cX8_parseKey 46 = .ok (.if_icmp .eq 8, 3) := by decide +kernel
theorem dX8_parseKey_49 : decode cX8_parseKey 49 = .ok (.aload_n 0, 1) := by decide +kernel
theorem dX8_parseKey_50 : decode cX8_parseKey 50 = .ok (.iload_n 2, 1) := by decide +kernel
theorem dX8_parseKey_51 : decode cX8_parseKey 51 = .ok (.invokevirtual 83, 3) := by decide +kernel
theorem dX8_parseKey_54 : decode cX8_parseKey 54 = .ok (.aload_n 0, 1) := by decide +kernel
theorem dX8_parseKey_55 : decode cX8_parseKey 55 = .ok (.getfield 35, 3) := by decide +kernel
theorem dX8_parseKey_58 : decode cX8_parseKey 58 = .ok (.aload_n 0, 1) := by decide +kernel
theorem dX8_parseKey_59 : decode cX8_parseKey 59 = .ok (.getfield 63, 3) := by decide +kernel
theorem dX8_parseKey_62 : decode cX8_parseKey 62 = .ok (.iload_n 3, 1) := by decide +kernel
theorem dX8_parseKey_63 : decode cX8_parseKey 63 = .ok (.invokevirtual 89, 3) := by decide +kernel
theorem dX8_parseKey_66 : decode cX8_parseKey 66 = .ok (.aload_n 0, 1) := by decide +kernel
theorem dX8_parseKey_67 : decode cX8_parseKey 67 = .ok (.invokevirtual 73, 3) := by decide +kernel
theorem dX8_parseKey_70 : decode cX8_parseKey 70 = .ok (.aload_n 0, 1) := by decide +kernel
theorem dX8_parseKey_71 : decode cX8_parseKey 71 = .ok (.getfield 57, 3) := by decide +kernel
theorem dX8_parseKey_74 : decode cX8_parseKey 74 = .ok (.aload_n 0, 1) := by decide +kernel
theorem dX8_parseKey_75 : decode cX8_parseKey 75 = .ok (.getfield 67, 3) := by decide +kernel
theorem dX8_parseKey_78 : decode cX8_parseKey 78 = .ok (.invokevirtual 86, 3) := by decide +kernel
theorem dX8_parseKey_81 : decode cX8_parseKey 81 = .ok (.bipush 58, 2) := by decide +kernel
theorem dX8_parseKey_83 : decode cX8_parseKey 83 = .ok (.if_icmp .eq 12, 3) := by decide +kernel
theorem dX8_parseKey_86 : decode cX8_parseKey 86 = .ok (.aload_n 0, 1) := by decide +kernel
theorem dX8_parseKey_87 : decode cX8_parseKey 87 = .ok (.aload_n 0, 1) := by decide +kernel
theorem dX8_parseKey_88 : decode cX8_parseKey 88 = .ok (.getfield 67, 3) := by decide +kernel
theorem dX8_parseKey_91 : decode cX8_parseKey 91 = .ok (.invokevirtual 83, 3) := by decide +kernel
theorem dX8_parseKey_94 : decode cX8_parseKey 94 = .ok (.return_, 1) := by decide +kernel
theorem dX8_parseKey_95 : decode cX8_parseKey 95 = .ok (.aload_n 0, 1) := by decide +kernel
theorem dX8_parseKey_96 : decode cX8_parseKey 96 = .ok (.dup, 1) := by decide +kernel
theorem dX8_parseKey_97 : decode cX8_parseKey 97 = .ok (.getfield 67, 3) := by decide +kernel
theorem dX8_parseKey_100 : decode cX8_parseKey 100 = .ok (.iconst 1, 1) := by decide +kernel
theorem dX8_parseKey_101 : decode cX8_parseKey 101 = .ok (.iadd, 1) := by decide +kernel
theorem dX8_parseKey_102 : decode cX8_parseKey 102 = .ok (.putfield 67, 3) := by decide +kernel
theorem dX8_parseKey_105 : decode cX8_parseKey 105 = .ok (.aload_n 0, 1) := by decide +kernel
theorem dX8_parseKey_106 : decode cX8_parseKey 106 = .ok (.invokevirtual 73, 3) := by decide +kernel
theorem dX8_parseKey_109 : decode cX8_parseKey 109 = .ok (.return_, 1) := by decide +kernel
theorem dX8_parseWord_0 : decode cX8_parseWord 0 = .ok (.aload_n 0, 1) := by decide +kernel
theorem dX8_parseWord_1 : decode cX8_parseWord 1 = .ok (.getfield 16, 3) := by decide +kernel
theorem dX8_parseWord_4 : decode cX8_parseWord 4 = .ok (.iload_n 1, 1) := by decide +kernel
theorem dX8_parseWord_5 : decode cX8_parseWord 5 = .ok (.iload_n 2, 1) := by decide +kernel
theorem dX8_parseWord_6 : decode cX8_parseWord 6 = .ok (.invokevirtual 89, 3) := by decide +kernel
theorem dX8_parseWord_9 : decode cX8_parseWord 9 = .ok (.iconst 0, 1) := by decide +kernel
theorem dX8_parseWord_10 : decode cX8_parseWord 10 = .ok (.istore 4, 2) := by decide +kernel
theorem dX8_parseWord_12 : decode cX8_parseWord 12 = .ok (.iload 4, 2) := by decide +kernel
theorem dX8_parseWord_14 : decode cX8_parseWord 14 = .ok (.aload_n 3, 1) := by decide +kernel
theorem dX8_parseWord_15 : decode cX8_parseWord 15 = .ok (.invokevirtual 124, 3) := by decide +kernel
theorem dX8_parseWord_18 : decode cX8_parseWord 18 = .ok (.if_icmp .ge 48, 3) := by decide +kernel
theorem dX8_parseWord_21 : decode cX8_parseWord 21 = .ok (.aload_n 0, 1) := by decide +kernel
theorem dX8_parseWord_22 : decode cX8_parseWord 22 = .ok (.getfield 57, 3) := by decide +kernel
theorem dX8_parseWord_25 : decode cX8_parseWord 25 = .ok (.aload_n 0, 1) := by decide +kernel
theorem dX8_parseWord_26 : decode cX8_parseWord 26 = .ok (.getfield 67, 3) := by decide +kernel
theorem dX8_parseWord_29 : decode cX8_parseWord 29 = .ok (.invokevirtual 86, 3) := by decide +kernel
theorem dX8_parseWord_32 : decode cX8_parseWord 32 = .ok (.aload_n 3, 1) := by decide +kernel
theorem dX8_parseWord_33 : decode cX8_parseWord 33 = .ok (.iload 4, 2) := by decide +kernel
theorem dX8_parseWord_35 : decode cX8_parseWord 35 = .ok (.invokevirtual 129, 3) := by decide +kernel
theorem dX8_parseWord_38 : decode cX8_parseWord 38 = .ok (.if_icmp .eq 12, 3) := by decide +kernel
theorem dX8_parseWord_41 : decode cX8_parseWord 41 = .ok (.aload_n 0, 1) := by decide +kernel
theorem dX8_parseWord_42 : decode cX8_parseWord 42 = .ok (.aload_n 0, 1) := by decide +kernel
theorem dX8_parseWord_43 : decode cX8_parseWord 43 = .ok (.getfield 67, 3) := by decide +kernel
theorem dX8_parseWord_46 : decode cX8_parseWord 46 = .ok (.invokevirtual 83, 3) := by decide +kernel
theorem dX8_parseWord_49 : decode cX8_parseWord 49 = .ok (.return_, 1) := by decide +kernel
theorem dX8_parseWord_50 : decode cX8_parseWord 50 = .ok (.aload_n 0, 1) := by decide +kernel
theorem dX8_parseWord_51 : decode cX8_parseWord 51 = .ok (.dup, 1) := by decide +kernel
theorem dX8_parseWord_52 : decode cX8_parseWord 52 = .ok (.getfield 67, 3) := by decide +kernel
theorem dX8_parseWord_55 : decode cX8_parseWord 55 = .ok (.iconst 1, 1) := by decide +kernel
theorem dX8_parseWord_56 : decode cX8_parseWord 56 = .ok (.iadd, 1) := by decide +kernel
theorem dX8_parseWord_57 : decode cX8_parseWord 57 = .ok (.putfield 67, 3) := by decide +kernel
theorem dX8_parseWord_60 : decode cX8_parseWord 60 = .ok (.iinc 4 1, 3) := by decide +kernel
theorem dX8_parseWord_63 : decode cX8_parseWord 63 = .ok (.goto (-51), 3) := by decide +kernel
theorem dX8_parseWord_66 : decode cX8_parseWord 66 = .ok (.return_, 1) := by decide +kernel
theorem dX8_parseNumber_0 : decode cX8_parseNumber 0 = .ok (.aload_n 0, 1) := by decide +kernel
theorem dX8_parseNumber_1 : decode cX8_parseNumber 1 = .ok (.getfield 67, 3) := by decide +kernel
theorem dX8_parseNumber_4 : decode cX8_parseNumber 4 = .ok (.istore_n 2, 1) := by decide +kernel
theorem dX8_parseNumber_5 : decode cX8_parseNumber 5 = .ok (.aload_n 0, 1) := by decide +kernel
theorem dX8_parseNumber_6 : decode cX8_parseNumber 6 = .ok (.getfield 57, 3) := by decide +kernel
theorem dX8_parseNumber_9 : decode cX8_parseNumber 9 = .ok (.aload_n 0, 1) := by decide +kernel
theorem dX8_parseNumber_10 : decode cX8_parseNumber 10 = .ok (.getfield 67, 3) := by decide +kernel
theorem dX8_parseNumber_13 : decode cX8_parseNumber 13 = .ok (.invokevirtual 86, 3) := by decide +kernel
theorem dX8_parseNumber_16 : decode cX8_parseNumber 16 = .ok (.bipush 45, 2) := by decide +kernel
theorem dX8_parseNumber_18 : decode cX8_parseNumber 18 = .ok (.if_icmp .ne 7, 3) := by decide +kernel
theorem dX8_parseNumber_21 : decode cX8_parseNumber 21 = .ok (.iconst 1, 1) := by decide +kernel
theorem dX8_parseNumber_22 : decode cX8_parseNumber 22 = .ok (.goto 4, 3) := by decide +kernel
theorem dX8_parseNumber_25 : decode cX8_parseNumber 25 = .ok (.iconst 0, 1) := by decide +kernel
theorem dX8_parseNumber_26 : decode cX8_parseNumber 26 = .ok (.istore_n 3, 1) := by decide +kernel
theorem dX8_parseNumber_27 : decode cX8_parseNumber 27 = .ok (.iload_n 3, 1) := by decide +kernel
theorem dX8_parseNumber_28 : decode cX8_parseNumber 28 = .ok (.ifCond .eq 13, 3) := by decide +kernel
theorem dX8_parseNumber_31 : decode cX8_parseNumber 31 = .ok (.aload_n 0, 1) := by decide +kernel
theorem dX8_parseNumber_32 : decode cX8_parseNumber 32 = .ok (.dup, 1) := by decide +kernel
theorem dX8_parseNumber_33 : decode cX8_parseNumber 33 = .ok (.getfield 67, 3) := by decide +kernel
theorem dX8_parseNumber_36 : decode cX8_parseNumber 36 = .ok (.iconst 1, 1) := by decide +kernel
theorem dX8_parseNumber_37 : decode cX8_parseNumber 37 = .ok (.iadd, 1) := by decide +kernel
theorem dX8_parseNumber_38 : decode cX8_parseNumber 38 = .ok (.putfield 67, 3) := by decide +kernel
theorem dX8_parseNumber_41 : decode cX8_parseNumber 41 = .ok (.aload_n 0, 1) := by decide +kernel
theorem dX8_parseNumber_42 : decode cX8_parseNumber 42 = .ok (.getfield 57, 3) := by decide +kernel
theorem dX8_parseNumber_45 : decode cX8_parseNumber 45 = .ok (.aload_n 0, 1) := by decide +kernel
theorem dX8_parseNumber_46 : decode cX8_parseNumber 46 = .ok (.getfield 67, 3) := by decide +kernel
theorem dX8_parseNumber_49 : decode cX8_parseNumber 49 = .ok (.invokevirtual 86, 3) := by decide +kernel
theorem dX8_parseNumber_52 : decode cX8_parseNumber 52 = .ok (.invokestatic 133, 3) := by decide +kernel
theorem dX8_parseNumber_55 : decode cX8_parseNumber 55 = .ok (.ifCond .ne 12, 3) := by decide +kernel
theorem dX8_parseNumber_58 : decode cX8_parseNumber 58 = .ok (.aload_n 0, 1) := by decide +kernel
theorem dX8_parseNumber_59 : decode cX8_parseNumber 59 = .ok (.aload_n 0, 1) := by decide +kernel
theorem dX8_parseNumber_60 : decode cX8_parseNumber 60 = .ok (.getfield 67, 3) := by decide +kernel
theorem dX8_parseNumber_63 : decode cX8_parseNumber 63 = .ok (.invokevirtual 83, 3) := by decide +kernel
theorem dX8_parseNumber_66 : decode cX8_parseNumber 66 = .ok (.return_, 1) := by decide +kernel
theorem dX8_parseNumber_67 : decode cX8_parseNumber 67 = .ok (.iload_n 3, 1) := by decide +kernel
theorem dX8_parseNumber_68 : decode cX8_parseNumber 68 = .ok (.ifCond .eq 9, 3) := by decide +kernel
theorem dX8_parseNumber_71 : decode cX8_parseNumber 71 = .ok (.ldc2_w 139, 3) := by decide +kernel
theorem dX8_parseNumber_74 : decode cX8_parseNumber 74 = .ok (.goto 6, 3) := by decide +kernel
theorem dX8_parseNumber_77 : decode cX8_parseNumber 77 = .ok (.ldc2_w 141, 3) := by decide +kernel
theorem dX8_parseNumber_80 : decode cX8_parseNumber 80 = .ok (.lstore 4, 2) := by decide +kernel
theorem dX8_parseNumber_82 : decode cX8_parseNumber 82 = .ok (.iconst 1, 1) := by decide +kernel
theorem dX8_parseNumber_83 : decode cX8_parseNumber 83 = .ok (.istore 6, 2) := by decide +kernel
theorem dX8_parseNumber_85 : decode cX8_parseNumber 85 = .ok (.lconst 0, 1) := by decide +kernel
theorem dX8_parseNumber_86 : decode cX8_parseNumber 86 = .ok (.lstore 7, 2) := by decide +kernel
theorem dX8_parseNumber_88 : decode cX8_parseNumber 88 = .ok (.aload_n 0, 1) := by decide +kernel
theorem dX8_parseNumber_89 : decode cX8_parseNumber 89 = .ok (.getfield 57, 3) := by decide +kernel
theorem dX8_parseNumber_92 : decode cX8_parseNumber 92 = .ok (.aload_n 0, 1) := by decide +kernel
theorem dX8_parseNumber_93 : decode cX8_parseNumber 93 = .ok (.getfield 67, 3) := by decide +kernel
theorem dX8_parseNumber_96 : decode cX8_parseNumber 96 = .ok (.invokevirtual 86, 3) := by decide +kernel
theorem dX8_parseNumber_99 : decode cX8_parseNumber 99 = .ok (.bipush 48, 2) := by decide +kernel
theorem dX8_parseNumber_101 : decode cX8_parseNumber 101 = .ok (.if_icmp .ne 7, 3) := by decide +kernel
theorem dX8_parseNumber_104 : decode cX8_parseNumber 104 = .ok (.iconst 1, 1) := by decide +kernel
theorem dX8_parseNumber_105 : decode cX8_parseNumber 105 = .ok (.goto 6, 3) := by decide +kernel
theorem dX8_parseNumber_108 : decode cX8_parseNumber 108 = .ok (.sipush 4096, 3) := by decide +kernel
theorem dX8_parseNumber_111 : decode cX8_parseNumber 111 = .ok (.istore 9, 2) := by decide +kernel
theorem dX8_parseNumber_113 : decode cX8_parseNumber 113 = .ok (.iconst 0, 1) := by decide +kernel
theorem dX8_parseNumber_114 : decode cX8_parseNumber 114 = .ok (.istore 10, 2) := by decide +kernel
theorem dX8_parseNumber_116 : decode cX8_parseNumber 116 = .ok (.iload 10, 2) := by decide +kernel
theorem dX8_parseNumber_118 : decode cX8_parseNumber 118 = .ok (.iload 9, 2) := by decide +kernel
theorem dX8_parseNumber_120 : decode cX8_parseNumber 120 = .ok (.if_icmp .ge 101, 3) := by decide +kernel
theorem dX8_parseNumber_123 : decode cX8_parseNumber 123 = .ok (.aload_n 0, 1) := by decide +kernel
theorem dX8_parseNumber_124 : decode cX8_parseNumber 124 = .ok (.getfield 57, 3) := by decide +kernel
theorem dX8_parseNumber_127 : decode cX8_parseNumber 127 = .ok (.aload_n 0, 1) := by decide +kernel
theorem dX8_parseNumber_128 : decode cX8_parseNumber 128 = .ok (.getfield 67, 3) := by decide +kernel
theorem dX8_parseNumber_131 : decode cX8_parseNumber 131 = .ok (.invokevirtual 86, 3) := by decide +kernel
theorem dX8_parseNumber_134 : decode cX8_parseNumber 134 = .ok (.invokestatic 133, 3) := by decide +kernel
theorem dX8_parseNumber_137 : decode cX8_parseNumber 137 = .ok (.ifCond .eq 84, 3) := by decide +kernel
theorem dX8_parseNumber_140 : decode cX8_parseNumber 140 = .ok (.aload_n 0, 1) := by decide +kernel
theorem dX8_parseNumber_141 : decode cX8_parseNumber 141 = .ok (.getfield 57, 3) := by decide +kernel
theorem dX8_parseNumber_144 : decode cX8_parseNumber 144 = .ok (.aload_n 0, 1) := by decide +kernel
theorem dX8_parseNumber_145 : decode cX8_parseNumber 145 = .ok (.getfield 67, 3) := by decide +kernel
theorem dX8_parseNumber_148 : decode cX8_parseNumber 148 = .ok (.invokevirtual 86, 3) := by decide +kernel
theorem dX8_parseNumber_151 : decode cX8_parseNumber 151 = .ok (.bipush 48, 2) := by decide +kernel
theorem dX8_parseNumber_153 : decode cX8_parseNumber 153 = .ok (.isub, 1) := by decide +kernel
theorem dX8_parseNumber_154 : decode cX8_parseNumber 154 = .ok (.istore 11, 2) := by decide +kernel
theorem dX8_parseNumber_156 : decode cX8_parseNumber 156 = .ok (.iload 6, 2) := by decide +kernel
theorem dX8_parseNumber_158 : decode cX8_parseNumber 158 = .ok (.ifCond .eq 23, 3) := by decide +kernel
theorem dX8_parseNumber_161 : decode cX8_parseNumber 161 = .ok (.lload 7, 2) := by decide +kernel
theorem dX8_parseNumber_163 : decode cX8_parseNumber 163 = .ok (.lload 4, 2) := by decide +kernel
theorem dX8_parseNumber_165 : decode cX8_parseNumber 165 = .ok (.iload 11, 2) := by decide +kernel
theorem dX8_parseNumber_167 : decode cX8_parseNumber 167 = .ok (.i2l, 1) := by decide +kernel
theorem dX8_parseNumber_168 : decode cX8_parseNumber 168 = .ok (.ladd, 1) := by decide +kernel
theorem dX8_parseNumber_169 : decode cX8_parseNumber 169 = .ok (.ldc2_w 143, 3) := by decide +kernel
theorem dX8_parseNumber_172 : decode cX8_parseNumber 172 = .ok (.ldiv, 1) := by decide +kernel
theorem dX8_parseNumber_173 : decode cX8_parseNumber 173 = .ok (.lcmp, 1) := by decide +kernel
theorem dX8_parseNumber_174 : decode cX8_parseNumber 174 = .ok (.ifCond .lt 7, 3) := by decide +kernel
theorem dX8_parseNumber_177 : decode cX8_parseNumber 177 = .ok (.iconst 1, 1) := by decide +kernel
theorem dX8_parseNumber_178 : decode cX8_parseNumber 178 = .ok (.goto 4, 3) := by decide +kernel
theorem dX8_parseNumber_181 : decode cX8_parseNumber 181 = .ok (.iconst 0, 1) := by decide +kernel
theorem dX8_parseNumber_182 : decode cX8_parseNumber 182 = .ok (.istore 6, 2) := by decide +kernel
theorem dX8_parseNumber_184 : decode cX8_parseNumber 184 = .ok (.iload 6, 2) := by decide +kernel
theorem dX8_parseNumber_186 : decode cX8_parseNumber 186 = .ok (.ifCond .eq 16, 3) := by decide +kernel
theorem dX8_parseNumber_189 : decode cX8_parseNumber 189 = .ok (.lload 7, 2) := by decide +kernel
theorem dX8_parseNumber_191 : decode cX8_parseNumber 191 = .ok (.ldc2_w 143, 3) := by decide +kernel
theorem dX8_parseNumber_194 : decode cX8_parseNumber 194 = .ok (.lmul, 1) := by decide +kernel
theorem dX8_parseNumber_195 : decode cX8_parseNumber 195 = .ok (.iload 11, 2) := by decide +kernel
theorem dX8_parseNumber_197 : decode cX8_parseNumber 197 = .ok (.i2l, 1) := by decide +kernel
theorem dX8_parseNumber_198 : decode cX8_parseNumber 198 = .ok (.lsub, 1) := by decide +kernel
theorem dX8_parseNumber_199 : decode cX8_parseNumber 199 = .ok (.goto 4, 3) := by decide +kernel
theorem dX8_parseNumber_202 : decode cX8_parseNumber 202 = .ok (.lconst 0, 1) := by decide +kernel
theorem dX8_parseNumber_203 : decode cX8_parseNumber 203 = .ok (.lstore 7, 2) := by decide +kernel
theorem dX8_parseNumber_205 : decode cX8_parseNumber 205 = .ok (.aload_n 0, 1) := by decide +kernel
theorem dX8_parseNumber_206 : decode cX8_parseNumber 206 = .ok (.dup, 1) := by decide +kernel
theorem dX8_parseNumber_207 : decode cX8_parseNumber 207 = .ok (.getfield 67, 3) := by decide +kernel
theorem dX8_parseNumber_210 : decode cX8_parseNumber 210 = .ok (.iconst 1, 1) := by decide +kernel
theorem dX8_parseNumber_211 : decode cX8_parseNumber 211 = .ok (.iadd, 1) := by decide +kernel
theorem dX8_parseNumber_212 : decode cX8_parseNumber 212 = .ok (.putfield 67, 3) := by decide +kernel
theorem dX8_parseNumber_215 : decode cX8_parseNumber 215 = .ok (.iinc 10 1, 3) := by decide +kernel
theorem dX8_parseNumber_218 : decode cX8_parseNumber 218 = .ok (.goto (-102), 3) := by decide +kernel
theorem dX8_parseNumber_221 : decode cX8_parseNumber 221 = .ok (.iload 6, 2) := by decide +kernel
theorem dX8_parseNumber_223 : decode cX8_parseNumber 223 = .ok (.ifCond .ne 8, 3) := by decide +kernel
theorem dX8_parseNumber_226 : decode cX8_parseNumber 226 = .ok (.aload_n 0, 1) := by decide +kernel
theorem dX8_parseNumber_227 : decode cX8_parseNumber 227 = .ok (.iload_n 2, 1) := by decide +kernel
theorem dX8_parseNumber_228 : decode cX8_parseNumber 228 = .ok (.invokevirtual 83, 3) := by decide +kernel
theorem dX8_parseNumber_231 : decode cX8_parseNumber 231 = .ok (.iload_n 1, 1) := by decide +kernel
theorem dX8_parseNumber_232 : decode cX8_parseNumber 232 = .ok (.ifCond .lt 30, 3) := by decide +kernel
theorem dX8_parseNumber_235 : decode cX8_parseNumber 235 = .ok (.iload_n 1, 1) := by decide +kernel
theorem dX8_parseNumber_236 : decode cX8_parseNumber 236 = .ok (.aload_n 0, 1) := by decide +kernel
theorem dX8_parseNumber_237 : decode cX8_parseNumber 237 = .ok (.getfield 38, 3) := by decide +kernel
theorem dX8_parseNumber_240 : decode cX8_parseNumber 240 = .ok (.arraylength, 1) := by decide +kernel
theorem dX8_parseNumber_241 : decode cX8_parseNumber 241 = .ok (.if_icmp .ge 21, 3) := by decide +kernel
theorem dX8_parseNumber_244 : decode cX8_parseNumber 244 = .ok (.aload_n 0, 1) := by decide +kernel
theorem dX8_parseNumber_245 : decode cX8_parseNumber 245 = .ok (.getfield 38, 3) := by decide +kernel
theorem dX8_parseNumber_248 : decode cX8_parseNumber 248 = .ok (.iload_n 1, 1) := by decide +kernel
theorem dX8_parseNumber_249 : decode cX8_parseNumber 249 = .ok (.iload_n 3, 1) := by decide +kernel
theorem dX8_parseNumber_250 : decode cX8_parseNumber 250 = .ok (.ifCond .eq 8, 3) := by decide +kernel
theorem dX8_parseNumber_253 : decode cX8_parseNumber 253 = .ok (.lload 7, 2) := by decide +kernel
theorem dX8_parseNumber_255 : decode cX8_parseNumber 255 = .ok (.goto 6, 3) := by decide +kernel
theorem dX8_parseNumber_258 : decode cX8_parseNumber 258 = .ok (.lload 7, 2) := by decide +kernel
theorem dX8_parseNumber_260 : decode cX8_parseNumber 260 = .ok (.lneg, 1) := by decide +kernel
theorem dX8_parseNumber_261 : decode cX8_parseNumber 261 = .ok (.lastore, 1) := by decide +kernel
theorem dX8_parseNumber_262 : decode cX8_parseNumber 262 = .ok (.return_, 1) := by decide +kernel
theorem dX8_isDigit_0 : decode cX8_isDigit 0 = .ok (.iload_n 0, 1) := by decide +kernel
theorem dX8_isDigit_1 : decode cX8_isDigit 1 = .ok (.bipush 48, 2) := by decide +kernel
theorem dX8_isDigit_3 : decode cX8_isDigit 3 = .ok (.if_icmp .lt 13, 3) := by decide +kernel
theorem dX8_isDigit_6 : decode cX8_isDigit 6 = .ok (.iload_n 0, 1) := by decide +kernel
theorem dX8_isDigit_7 : decode cX8_isDigit 7 = .ok (.bipush 57, 2) := by decide +kernel
theorem dX8_isDigit_9 : decode cX8_isDigit 9 = .ok (.if_icmp .gt 7, 3) := by decide +kernel
theorem dX8_isDigit_12 : decode cX8_isDigit 12 = .ok (.iconst 1, 1) := by decide +kernel
theorem dX8_isDigit_13 : decode cX8_isDigit 13 = .ok (.goto 4, 3) := by decide +kernel
theorem dX8_isDigit_16 : decode cX8_isDigit 16 = .ok (.iconst 0, 1) := by decide +kernel
theorem dX8_isDigit_17 : decode cX8_isDigit 17 = .ok (.ireturn, 1) := by decide +kernel
theorem dX8_parseString_0 : decode cX8_parseString 0 = .ok (.aload_n 0, 1) := by decide +kernel
theorem dX8_parseString_1 : decode cX8_parseString 1 = .ok (.getfield 42, 3) := by decide +kernel
theorem dX8_parseString_4 : decode cX8_parseString 4 = .ok (.invokevirtual 79, 3) := by decide +kernel
theorem dX8_parseString_7 : decode cX8_parseString 7 = .ok (.istore_n 1, 1) := by decide +kernel
theorem dX8_parseString_8 : decode cX8_parseString 8 = .ok (.aload_n 0, 1) := by decide +kernel
theorem dX8_parseString_9 : decode cX8_parseString 9 = .ok (.getfield 42, 3) := by decide +kernel
theorem dX8_parseString_12 : decode cX8_parseString 12 = .ok (.iconst 0, 1) := by decide +kernel
theorem dX8_parseString_13 : decode cX8_parseString 13 = .ok (.invokevirtual 145, 3) := by decide +kernel
theorem dX8_parseString_16 : decode cX8_parseString 16 = .ok (.pop, 1) := by decide +kernel
theorem dX8_parseString_17 : decode cX8_parseString 17 = .ok (.aload_n 0, 1) := by decide +kernel
theorem dX8_parseString_18 : decode cX8_parseString 18 = .ok (.dup, 1) := by decide +kernel
theorem dX8_parseString_19 : decode cX8_parseString 19 = .ok (.getfield 67, 3) := by decide +kernel
theorem dX8_parseString_22 : decode cX8_parseString 22 = .ok (.iconst 1, 1) := by decide +kernel
theorem dX8_parseString_23 : decode cX8_parseString 23 = .ok (.iadd, 1) := by decide +kernel
theorem dX8_parseString_24 : decode cX8_parseString 24 = .ok (.putfield 67, 3) := by decide +kernel
theorem dX8_parseString_27 : decode cX8_parseString 27 = .ok (.iconst 0, 1) := by decide +kernel
theorem dX8_parseString_28 : decode cX8_parseString 28 = .ok (.istore_n 2, 1) := by decide +kernel
theorem dX8_parseString_29 : decode cX8_parseString 29 = .ok (.iload_n 2, 1) := by decide +kernel
theorem dX8_parseString_30 : decode cX8_parseString 30 = .ok (.sipush 4096, 3) := by decide +kernel
theorem dX8_parseString_33 : decode cX8_parseString 33 = .ok (.if_icmp .gt 134, 3) := by decide +kernel
theorem dX8_parseString_36 : decode cX8_parseString 36 = .ok (.aload_n 0, 1) := by decide +kernel
theorem dX8_parseString_37 : decode cX8_parseString 37 = .ok (.getfield 70, 3) := by decide +kernel
theorem dX8_parseString_40 : decode cX8_parseString 40 = .ok (.iconst (-1), 1) := by decide +kernel
theorem dX8_parseString_41 : decode cX8_parseString 41 = .ok (.if_icmp .ne 126, 3) := by decide +kernel
theorem dX8_parseString_44 : decode cX8_parseString 44 = .ok (.aload_n 0, 1) := by decide +kernel
theorem dX8_parseString_45 : decode cX8_parseString 45 = .ok (.getfield 57, 3) := by decide +kernel
theorem dX8_parseString_48 : decode cX8_parseString 48 = .ok (.aload_n 0, 1) := by decide +kernel
theorem dX8_parseString_49 : decode cX8_parseString 49 = .ok (.getfield 67, 3) := by decide +kernel
theorem dX8_parseString_52 : decode cX8_parseString 52 = .ok (.invokevirtual 86, 3) := by decide +kernel
theorem dX8_parseString_55 : decode cX8_parseString 55 = .ok (.istore_n 3, 1) := by decide +kernel
theorem dX8_parseString_56 : decode cX8_parseString 56 = .ok (.iload_n 3, 1) := by decide +kernel
theorem dX8_parseString_57 : decode cX8_parseString 57 = .ok (.bipush 34, 2) := by decide +kernel
theorem dX8_parseString_59 : decode cX8_parseString 59 = .ok (.if_icmp .ne 16, 3) := by decide +kernel
theorem dX8_parseString_62 : decode cX8_parseString 62 = .ok (.aload_n 0, 1) := by decide +kernel
theorem dX8_parseString_63 : decode cX8_parseString 63 = .ok (.dup, 1) := by decide +kernel
theorem dX8_parseString_64 : decode cX8_parseString 64 = .ok (.getfield 67, 3) := by decide +kernel
theorem dX8_parseString_67 : decode cX8_parseString 67 = .ok (.iconst 1, 1) := by decide +kernel
theorem dX8_parseString_68 : decode cX8_parseString 68 = .ok (.iadd, 1) := by decide +kernel
theorem dX8_parseString_69 : decode cX8_parseString 69 = .ok (.putfield 67, 3) := by decide +kernel
theorem dX8_parseString_72 : decode cX8_parseString 72 = .ok (.goto 95, 3) := by decide +kernel
theorem dX8_parseString_75 : decode cX8_parseString 75 = .ok (.iload_n 3, 1) := by decide +kernel
theorem dX8_parseString_76 : decode cX8_parseString 76 = .ok (.bipush 92, 2) := by decide +kernel
theorem dX8_parseString_78 : decode cX8_parseString 78 = .ok (.if_icmp .ne 28, 3) := by decide +kernel
theorem dX8_parseString_81 : decode cX8_parseString 81 = .ok (.aload_n 0, 1) := by decide +kernel
theorem dX8_parseString_82 : decode cX8_parseString 82 = .ok (.getfield 57, 3) := by decide +kernel
theorem dX8_parseString_85 : decode cX8_parseString 85 = .ok (.aload_n 0, 1) := by decide +kernel
theorem dX8_parseString_86 : decode cX8_parseString 86 = .ok (.getfield 67, 3) := by decide +kernel
theorem dX8_parseString_89 : decode cX8_parseString 89 = .ok (.iconst 1, 1) := by decide +kernel
theorem dX8_parseString_90 : decode cX8_parseString 90 = .ok (.iadd, 1) := by decide +kernel
theorem dX8_parseString_91 : decode cX8_parseString 91 = .ok (.invokevirtual 86, 3) := by decide +kernel
theorem dX8_parseString_94 : decode cX8_parseString 94 = .ok (.bipush 117, 2) := by decide +kernel
theorem dX8_parseString_96 : decode cX8_parseString 96 = .ok (.if_icmp .ne 10, 3) := by decide +kernel
theorem dX8_parseString_99 : decode cX8_parseString 99 = .ok (.aload_n 0, 1) := by decide +kernel
theorem dX8_parseString_100 : decode cX8_parseString 100 = .ok (.invokevirtual 148, 3) := by decide +kernel
theorem dX8_parseString_103 : decode cX8_parseString 103 = .ok (.goto 58, 3) := by decide +kernel
theorem dX8_parseString_106 : decode cX8_parseString 106 = .ok (.iload_n 3, 1) := by decide +kernel
theorem dX8_parseString_107 : decode cX8_parseString 107 = .ok (.bipush 92, 2) := by decide +kernel
theorem dX8_parseString_109 : decode cX8_parseString 109 = .ok (.if_icmp .ne 10, 3) := by decide +kernel
theorem dX8_parseString_112 : decode cX8_parseString 112 = .ok (.aload_n 0, 1) := by decide +kernel
theorem dX8_parseString_113 : decode cX8_parseString 113 = .ok (.invokevirtual 151, 3) := by decide +kernel
theorem dX8_parseString_116 : decode cX8_parseString 116 = .ok (.goto 45, 3) := by decide +kernel
theorem dX8_parseString_119 : decode cX8_parseString 119 = .ok (.iload_n 3, 1) := by decide +kernel
theorem dX8_parseString_120 : decode cX8_parseString 120 = .ok (.bipush 32, 2) := by decide +kernel
theorem dX8_parseString_122 : decode cX8_parseString 122 = .ok (.if_icmp .lt 9, 3) := by decide +kernel
theorem dX8_parseString_125 : decode cX8_parseString 125 = .ok (.iload_n 3, 1) := by decide +kernel
theorem dX8_parseString_126 : decode cX8_parseString 126 = .ok (.bipush 126, 2) := by decide +kernel
theorem dX8_parseString_128 : decode cX8_parseString 128 = .ok (.if_icmp .le 14, 3) := by decide +kernel
theorem dX8_parseString_131 : decode cX8_parseString 131 = .ok (.aload_n 0, 1) := by decide +kernel
theorem dX8_parseString_132 : decode cX8_parseString 132 = .ok (.aload_n 0, 1) := by decide +kernel
theorem dX8_parseString_133 : decode cX8_parseString 133 = .ok (.getfield 67, 3) := by decide +kernel
theorem dX8_parseString_136 : decode cX8_parseString 136 = .ok (.invokevirtual 83, 3) := by decide +kernel
theorem dX8_parseString_139 : decode cX8_parseString 139 = .ok (.goto 22, 3) := by decide +kernel
theorem dX8_parseString_142 : decode cX8_parseString 142 = .ok (.aload_n 0, 1) := by decide +kernel
theorem dX8_parseString_143 : decode cX8_parseString 143 = .ok (.getfield 42, 3) := by decide +kernel
theorem dX8_parseString_146 : decode cX8_parseString 146 = .ok (.iload_n 3, 1) := by decide +kernel
theorem dX8_parseString_147 : decode cX8_parseString 147 = .ok (.invokevirtual 145, 3) := by decide +kernel
theorem dX8_parseString_150 : decode cX8_parseString 150 = .ok (.pop, 1) := by decide +kernel
theorem dX8_parseString_151 : decode cX8_parseString 151 = .ok (.aload_n 0, 1) := by decide +kernel
theorem dX8_parseString_152 : decode cX8_parseString 152 = .ok (.dup, 1) := by decide +kernel
theorem dX8_parseString_153 : decode cX8_parseString 153 = .ok (.getfield 67, 3) := by decide +kernel
theorem dX8_parseString_156 : decode cX8_parseString 156 = .ok (.iconst 1, 1) := by decide +kernel
theorem dX8_parseString_157 : decode cX8_parseString 157 = .ok (.iadd, 1) := by decide +kernel
theorem dX8_parseString_158 : decode cX8_parseString 158 = .ok (.putfield 67, 3) := by decide +kernel
theorem dX8_parseString_161 : decode cX8_parseString 161 = .ok (.iinc 2 1, 3) := by decide +kernel
theorem dX8_parseString_164 : decode cX8_parseString 164 = .ok (.goto (-135), 3) := by decide +kernel
theorem dX8_parseString_167 : decode cX8_parseString 167 = .ok (.aload_n 0, 1) := by decide +kernel
theorem dX8_parseString_168 : decode cX8_parseString 168 = .ok (.getfield 42, 3) := by decide +kernel
theorem dX8_parseString_171 : decode cX8_parseString 171 = .ok (.iload_n 1, 1) := by decide +kernel
theorem dX8_parseString_172 : decode cX8_parseString 172 = .ok (.aload_n 0, 1) := by decide +kernel
theorem dX8_parseString_173 : decode cX8_parseString 173 = .ok (.getfield 42, 3) := by decide +kernel
theorem dX8_parseString_176 : decode cX8_parseString 176 = .ok (.invokevirtual 79, 3) := by decide +kernel
theorem dX8_parseString_179 : decode cX8_parseString 179 = .ok (.iload_n 1, 1) := by decide +kernel
theorem dX8_parseString_180 : decode cX8_parseString 180 = .ok (.isub, 1) := by decide +kernel
theorem dX8_parseString_181 : decode cX8_parseString 181 = .ok (.iconst 1, 1) := by decide +kernel
theorem dX8_parseString_182 : decode cX8_parseString 182 = .ok (.isub, 1) := by decide +kernel
theorem dX8_parseString_183 : decode cX8_parseString 183 = .ok (.invokevirtual 89, 3) := by decide +kernel
theorem dX8_parseString_186 : decode cX8_parseString 186 = .ok (.iload_n 1, 1) := by decide +kernel
theorem dX8_parseString_187 : decode cX8_parseString 187 = .ok (.ireturn, 1) := by decide +kernel
theorem dX8_parseEscape_0 : decode cX8_parseEscape 0 = .ok (.aload_n 0, 1) := by decide +kernel
theorem dX8_parseEscape_1 : decode cX8_parseEscape 1 = .ok (.dup, 1) := by decide +kernel
theorem dX8_parseEscape_2 : decode cX8_parseEscape 2 = .ok (.getfield 67, 3) := by decide +kernel
theorem dX8_parseEscape_5 : decode cX8_parseEscape 5 = .ok (.iconst 1, 1) := by decide +kernel
theorem dX8_parseEscape_6 : decode cX8_parseEscape 6 = .ok (.iadd, 1) := by decide +kernel
theorem dX8_parseEscape_7 : decode cX8_parseEscape 7 = .ok (.putfield 67, 3) := by decide +kernel
theorem dX8_parseEscape_10 : decode cX8_parseEscape 10 = .ok (.aload_n 0, 1) := by decide +kernel
theorem dX8_parseEscape_11 : decode cX8_parseEscape 11 = .ok (.getfield 57, 3) := by decide +kernel
theorem dX8_parseEscape_14 : decode cX8_parseEscape 14 = .ok (.aload_n 0, 1) := by decide +kernel
theorem dX8_parseEscape_15 : decode cX8_parseEscape 15 = .ok (.getfield 67, 3) := by decide +kernel
theorem dX8_parseEscape_18 : decode cX8_parseEscape 18 = .ok (.invokevirtual 86, 3) := by decide +kernel
theorem dX8_parseEscape_21 : decode cX8_parseEscape 21 = .ok (.invokestatic 154, 3) := by decide +kernel
theorem dX8_parseEscape_24 : decode cX8_parseEscape 24 = .ok (.istore_n 1, 1) := by decide +kernel
theorem dX8_parseEscape_25 : decode cX8_parseEscape 25 = .ok (.iload_n 1, 1) := by decide +kernel
theorem dX8_parseEscape_26 : decode cX8_parseEscape 26 = .ok (.iconst (-1), 1) := by decide +kernel
theorem dX8_parseEscape_27 : decode cX8_parseEscape 27 = .ok (.if_icmp .ne 12, 3) := by decide +kernel
theorem dX8_parseEscape_30 : decode cX8_parseEscape 30 = .ok (.aload_n 0, 1) := by decide +kernel
theorem dX8_parseEscape_31 : decode cX8_parseEscape 31 = .ok (.aload_n 0, 1) := by decide +kernel
theorem dX8_parseEscape_32 : decode cX8_parseEscape 32 = .ok (.getfield 67, 3) := by decide +kernel
theorem dX8_parseEscape_35 : decode cX8_parseEscape 35 = .ok (.invokevirtual 83, 3) := by decide +kernel
theorem dX8_parseEscape_38 : decode cX8_parseEscape 38 = .ok (.return_, 1) := by decide +kernel
theorem dX8_parseEscape_39 : decode cX8_parseEscape 39 = .ok (.aload_n 0, 1) := by decide +kernel
theorem dX8_parseEscape_40 : decode cX8_parseEscape 40 = .ok (.getfield 42, 3) := by decide +kernel
theorem dX8_parseEscape_43 : decode cX8_parseEscape 43 = .ok (.iload_n 1, 1) := by decide +kernel
theorem dX8_parseEscape_44 : decode cX8_parseEscape 44 = .ok (.invokevirtual 145, 3) := by decide +kernel
theorem dX8_parseEscape_47 : decode cX8_parseEscape 47 = .ok (.pop, 1) := by decide +kernel
theorem dX8_parseEscape_48 : decode cX8_parseEscape 48 = .ok (.aload_n 0, 1) := by decide +kernel
theorem dX8_parseEscape_49 : decode cX8_parseEscape 49 = .ok (.dup, 1) := by decide +kernel
theorem dX8_parseEscape_50 : decode cX8_parseEscape 50 = .ok (.getfield 67, 3) := by decide +kernel
theorem dX8_parseEscape_53 : decode cX8_parseEscape 53 = .ok (.iconst 1, 1) := by decide +kernel
theorem dX8_parseEscape_54 : decode cX8_parseEscape 54 = .ok (.iadd, 1) := by decide +kernel
theorem dX8_parseEscape_55 : decode cX8_parseEscape 55 = .ok (.putfield 67, 3) := by decide +kernel
theorem dX8_parseEscape_58 : decode cX8_parseEscape 58 = .ok (.return_, 1) := by decide +kernel
theorem dX8_escaped_0 : decode cX8_escaped 0 = .ok (.iload_n 0, 1) := by decide +kernel
theorem dX8_escaped_1 : decode cX8_escaped 1 = .ok (.lookupswitch 92 #[(34, 75), (47, 75), (92, 75), (98, 77), (102, 80), (110, 83), (114, 86), (116, 89)], 75) := by decide +kernel
theorem dX8_escaped_76 : decode cX8_escaped 76 = .ok (.iload_n 0, 1) := by decide +kernel
theorem dX8_escaped_77 : decode cX8_escaped 77 = .ok (.ireturn, 1) := by decide +kernel
theorem dX8_escaped_78 : decode cX8_escaped 78 = .ok (.bipush 8, 2) := by decide +kernel
theorem dX8_escaped_80 : decode cX8_escaped 80 = .ok (.ireturn, 1) := by decide +kernel
theorem dX8_escaped_81 : decode cX8_escaped 81 = .ok (.bipush 12, 2) := by decide +kernel
theorem dX8_escaped_83 : decode cX8_escaped 83 = .ok (.ireturn, 1) := by decide +kernel
theorem dX8_escaped_84 : decode cX8_escaped 84 = .ok (.bipush 10, 2) := by decide +kernel
theorem dX8_escaped_86 : decode cX8_escaped 86 = .ok (.ireturn, 1) := by decide +kernel
theorem dX8_escaped_87 : decode cX8_escaped 87 = .ok (.bipush 13, 2) := by decide +kernel
theorem dX8_escaped_89 : decode cX8_escaped 89 = .ok (.ireturn, 1) := by decide +kernel
theorem dX8_escaped_90 : decode cX8_escaped 90 = .ok (.bipush 9, 2) := by decide +kernel
theorem dX8_escaped_92 : decode cX8_escaped 92 = .ok (.ireturn, 1) := by decide +kernel
theorem dX8_escaped_93 : decode cX8_escaped 93 = .ok (.iconst (-1), 1) := by decide +kernel
theorem dX8_escaped_94 : decode cX8_escaped 94 = .ok (.ireturn, 1) := by decide +kernel
theorem dX8_parseFourDigits_0 : decode cX8_parseFourDigits 0 = .ok (.aload_n 0, 1) := by decide +kernel
theorem dX8_parseFourDigits_1 : decode cX8_parseFourDigits 1 = .ok (.getfield 67, 3) := by decide +kernel
theorem dX8_parseFourDigits_4 : decode cX8_parseFourDigits 4 = .ok (.istore_n 1, 1) := by decide +kernel
theorem dX8_parseFourDigits_5 : decode cX8_parseFourDigits 5 = .ok (.iconst 0, 1) := by decide +kernel
theorem dX8_parseFourDigits_6 : decode cX8_parseFourDigits 6 = .ok (.istore_n 2, 1) := by decide +kernel
theorem dX8_parseFourDigits_7 : decode cX8_parseFourDigits 7 = .ok (.aload_n 0, 1) := by decide +kernel
theorem dX8_parseFourDigits_8 : decode cX8_parseFourDigits 8 = .ok (.dup, 1) := by decide +kernel
theorem dX8_parseFourDigits_9 : decode cX8_parseFourDigits 9 = .ok (.getfield 67, 3) := by decide +kernel
theorem dX8_parseFourDigits_12 : decode cX8_parseFourDigits 12 = .ok (.iconst 2, 1) := by decide +kernel
theorem dX8_parseFourDigits_13 : decode cX8_parseFourDigits 13 = .ok (.iadd, 1) := by decide +kernel
theorem dX8_parseFourDigits_14 : decode cX8_parseFourDigits 14 = .ok (.putfield 67, 3) := by decide +kernel
theorem dX8_parseFourDigits_17 : decode cX8_parseFourDigits 17 = .ok (.iconst 0, 1) := by decide +kernel
theorem dX8_parseFourDigits_18 : decode cX8_parseFourDigits 18 = .ok (.istore_n 3, 1) := by decide +kernel
theorem dX8_parseFourDigits_19 : decode cX8_parseFourDigits 19 = .ok (.iload_n 3, 1) := by decide +kernel
theorem dX8_parseFourDigits_20 : decode cX8_parseFourDigits 20 = .ok (.iconst 4, 1) := by decide +kernel
theorem dX8_parseFourDigits_21 : decode cX8_parseFourDigits 21 = .ok (.if_icmp .ge 58, 3) := by decide +kernel
theorem dX8_parseFourDigits_24 : decode cX8_parseFourDigits 24 = .ok (.aload_n 0, 1) := by decide +kernel
theorem dX8_parseFourDigits_25 : decode cX8_parseFourDigits 25 = .ok (.getfield 57, 3) := by decide +kernel
theorem dX8_parseFourDigits_28 : decode cX8_parseFourDigits 28 = .ok (.aload_n 0, 1) := by decide +kernel
theorem dX8_parseFourDigits_29 : decode cX8_parseFourDigits 29 = .ok (.getfield 67, 3) := by decide +kernel
theorem dX8_parseFourDigits_32 : decode cX8_parseFourDigits 32 = .ok (.invokevirtual 86, 3) := by decide +kernel
theorem dX8_parseFourDigits_35 : decode cX8_parseFourDigits 35 = .ok (.invokestatic 157, 3) := by decide +kernel
theorem dX8_parseFourDigits_38 : decode cX8_parseFourDigits 38 = .ok (.istore 4, 2) := by decide +kernel
theorem dX8_parseFourDigits_40 : decode cX8_parseFourDigits 40 = .ok (.iload 4, 2) := by decide +kernel
theorem dX8_parseFourDigits_42 : decode cX8_parseFourDigits 42 = .ok (.iconst (-1), 1) := by decide +kernel
theorem dX8_parseFourDigits_43 : decode cX8_parseFourDigits 43 = .ok (.if_icmp .ne 12, 3) := by decide +kernel
theorem dX8_parseFourDigits_46 : decode cX8_parseFourDigits 46 = .ok (.aload_n 0, 1) := by decide +kernel
theorem dX8_parseFourDigits_47 : decode cX8_parseFourDigits 47 = .ok (.aload_n 0, 1) := by decide +kernel
theorem dX8_parseFourDigits_48 : decode cX8_parseFourDigits 48 = .ok (.getfield 67, 3) := by decide +kernel
theorem dX8_parseFourDigits_51 : decode cX8_parseFourDigits 51 = .ok (.invokevirtual 83, 3) := by decide +kernel
theorem dX8_parseFourDigits_54 : decode cX8_parseFourDigits 54 = .ok (.return_, 1) := by decide +kernel
theorem dX8_parseFourDigits_55 : decode cX8_parseFourDigits 55 = .ok (.iload_n 2, 1) := by decide +kernel
theorem dX8_parseFourDigits_56 : decode cX8_parseFourDigits 56 = .ok (.bipush 16, 2) := by decide +kernel
theorem dX8_parseFourDigits_58 : decode cX8_parseFourDigits 58 = .ok (.imul, 1) := by decide +kernel
theorem dX8_parseFourDigits_59 : decode cX8_parseFourDigits 59 = .ok (.iload 4, 2) := by decide +kernel
theorem dX8_parseFourDigits_61 : decode cX8_parseFourDigits 61 = .ok (.iadd, 1) := by decide +kernel
theorem dX8_parseFourDigits_62 : decode cX8_parseFourDigits 62 = .ok (.istore_n 2, 1) := by decide +kernel
theorem dX8_parseFourDigits_63 : decode cX8_parseFourDigits 63 = .ok (.aload_n 0, 1) := by decide +kernel
theorem dX8_parseFourDigits_64 : decode cX8_parseFourDigits 64 = .ok (.dup, 1) := by decide +kernel
theorem dX8_parseFourDigits_65 : decode cX8_parseFourDigits 65 = .ok (.getfield 67, 3) := by decide +kernel
theorem dX8_parseFourDigits_68 : decode cX8_parseFourDigits 68 = .ok (.iconst 1, 1) := by decide +kernel
theorem dX8_parseFourDigits_69 : decode cX8_parseFourDigits 69 = .ok (.iadd, 1) := by decide +kernel
theorem dX8_parseFourDigits_70 : decode cX8_parseFourDigits 70 = .ok (.putfield 67, 3) := by decide +kernel
theorem dX8_parseFourDigits_73 : decode cX8_parseFourDigits 73 = .ok (.iinc 3 1, 3) := by decide +kernel
theorem dX8_parseFourDigits_76 : decode cX8_parseFourDigits 76 = .ok (.goto (-57), 3) := by decide +kernel
theorem dX8_parseFourDigits_79 : decode cX8_parseFourDigits 79 = .ok (.iload_n 2, 1) := by decide +kernel
theorem dX8_parseFourDigits_80 : decode cX8_parseFourDigits 80 = .ok (.sipush 255, 3) := by decide +kernel
theorem dX8_parseFourDigits_83 : decode cX8_parseFourDigits 83 = .ok (.if_icmp .le 11, 3) := by decide +kernel
theorem dX8_parseFourDigits_86 : decode cX8_parseFourDigits 86 = .ok (.aload_n 0, 1) := by decide +kernel
theorem dX8_parseFourDigits_87 : decode cX8_parseFourDigits 87 = .ok (.iload_n 1, 1) := by decide +kernel
theorem dX8_parseFourDigits_88 : decode cX8_parseFourDigits 88 = .ok (.invokevirtual 83, 3) := by decide +kernel
theorem dX8_parseFourDigits_91 : decode cX8_parseFourDigits 91 = .ok (.goto 12, 3) := by decide +kernel
theorem dX8_parseFourDigits_94 : decode cX8_parseFourDigits 94 = .ok (.aload_n 0, 1) := by decide +kernel
theorem dX8_parseFourDigits_95 : decode cX8_parseFourDigits 95 = .ok (.getfield 42, 3) := by decide +kernel
theorem dX8_parseFourDigits_98 : decode cX8_parseFourDigits 98 = .ok (.iload_n 2, 1) := by decide +kernel
theorem dX8_parseFourDigits_99 : decode cX8_parseFourDigits 99 = .ok (.invokevirtual 145, 3) := by decide +kernel
theorem dX8_parseFourDigits_102 : decode cX8_parseFourDigits 102 = .ok (.pop, 1) := by decide +kernel
theorem dX8_parseFourDigits_103 : decode cX8_parseFourDigits 103 = .ok (.return_, 1) := by decide +kernel
theorem dX8_hexDigit_0 : decode cX8_hexDigit 0 = .ok (.iload_n 0, 1) := by decide +kernel
theorem dX8_hexDigit_1 : decode cX8_hexDigit 1 = .ok (.bipush 48, 2) := by decide +kernel
theorem dX8_hexDigit_3 : decode cX8_hexDigit 3 = .ok (.if_icmp .lt 14, 3) := by decide +kernel
theorem dX8_hexDigit_6 : decode cX8_hexDigit 6 = .ok (.iload_n 0, 1) := by decide +kernel
theorem dX8_hexDigit_7 : decode cX8_hexDigit 7 = .ok (.bipush 57, 2) := by decide +kernel
theorem dX8_hexDigit_9 : decode cX8_hexDigit 9 = .ok (.if_icmp .gt 8, 3) := by decide +kernel
theorem dX8_hexDigit_12 : decode cX8_hexDigit 12 = .ok (.iload_n 0, 1) := by decide +kernel
theorem dX8_hexDigit_13 : decode cX8_hexDigit 13 = .ok (.bipush 48, 2) := by decide +kernel
theorem dX8_hexDigit_15 : decode cX8_hexDigit 15 = .ok (.isub, 1) := by decide +kernel
theorem dX8_hexDigit_16 : decode cX8_hexDigit 16 = .ok (.ireturn, 1) := by decide +kernel
theorem dX8_hexDigit_17 : decode cX8_hexDigit 17 = .ok (.iload_n 0, 1) := by decide +kernel
theorem dX8_hexDigit_18 : decode cX8_hexDigit 18 = .ok (.bipush 97, 2) := by decide +kernel
theorem dX8_hexDigit_20 : decode cX8_hexDigit 20 = .ok (.if_icmp .lt 17, 3) := by decide +kernel
theorem dX8_hexDigit_23 : decode cX8_hexDigit 23 = .ok (.iload_n 0, 1) := by decide +kernel
theorem dX8_hexDigit_24 : decode cX8_hexDigit 24 = .ok (.bipush 102, 2) := by decide +kernel
theorem dX8_hexDigit_26 : decode cX8_hexDigit 26 = .ok (.if_icmp .gt 11, 3) := by decide +kernel
theorem dX8_hexDigit_29 : decode cX8_hexDigit 29 = .ok (.iload_n 0, 1) := by decide +kernel
theorem dX8_hexDigit_30 : decode cX8_hexDigit 30 = .ok (.bipush 97, 2) := by decide +kernel
theorem dX8_hexDigit_32 : decode cX8_hexDigit 32 = .ok (.isub, 1) := by decide +kernel
theorem dX8_hexDigit_33 : decode cX8_hexDigit 33 = .ok (.bipush 10, 2) := by decide +kernel
theorem dX8_hexDigit_35 : decode cX8_hexDigit 35 = .ok (.iadd, 1) := by decide +kernel
theorem dX8_hexDigit_36 : decode cX8_hexDigit 36 = .ok (.ireturn, 1) := by decide +kernel
theorem dX8_hexDigit_37 : decode cX8_hexDigit 37 = .ok (.iload_n 0, 1) := by decide +kernel
theorem dX8_hexDigit_38 : decode cX8_hexDigit 38 = .ok (.bipush 65, 2) := by decide +kernel
theorem dX8_hexDigit_40 : decode cX8_hexDigit 40 = .ok (.if_icmp .lt 17, 3) := by decide +kernel
theorem dX8_hexDigit_43 : decode cX8_hexDigit 43 = .ok (.iload_n 0, 1) := by decide +kernel
theorem dX8_hexDigit_44 : decode cX8_hexDigit 44 = .ok (.bipush 70, 2) := by decide +kernel
theorem dX8_hexDigit_46 : decode cX8_hexDigit 46 = .ok (.if_icmp .gt 11, 3) := by decide +kernel
theorem dX8_hexDigit_49 : decode cX8_hexDigit 49 = .ok (.iload_n 0, 1) := by decide +kernel
theorem dX8_hexDigit_50 : decode cX8_hexDigit 50 = .ok (.bipush 65, 2) := by decide +kernel
theorem dX8_hexDigit_52 : decode cX8_hexDigit 52 = .ok (.isub, 1) := by decide +kernel
theorem dX8_hexDigit_53 : decode cX8_hexDigit 53 = .ok (.bipush 10, 2) := by decide +kernel
theorem dX8_hexDigit_55 : decode cX8_hexDigit 55 = .ok (.iadd, 1) := by decide +kernel
theorem dX8_hexDigit_56 : decode cX8_hexDigit 56 = .ok (.ireturn, 1) := by decide +kernel
theorem dX8_hexDigit_57 : decode cX8_hexDigit 57 = .ok (.iconst (-1), 1) := by decide +kernel
theorem dX8_hexDigit_58 : decode cX8_hexDigit 58 = .ok (.ireturn, 1) := by decide +kernel
theorem dX9_init_0 : decode cX9_init 0 = .ok (.aload_n 0, 1) := by decide +kernel
theorem dX9_init_1 : decode cX9_init 1 = .ok (.invokespecial 1, 3) := by decide +kernel
theorem dX9_init_4 : decode cX9_init 4 = .ok (.aload_n 0, 1) := by decide +kernel
theorem dX9_init_5 : decode cX9_init 5 = .ok (.new 7, 3) := by decide +kernel
theorem dX9_init_8 : decode cX9_init 8 = .ok (.dup, 1) := by decide +kernel
theorem dX9_init_9 : decode cX9_init 9 = .ok (.sipush 4096, 3) := by decide +kernel
theorem dX9_init_12 : decode cX9_init 12 = .ok (.invokespecial 11, 3) := by decide +kernel
theorem dX9_init_15 : decode cX9_init 15 = .ok (.putfield 14, 3) := by decide +kernel
theorem dX9_init_18 : decode cX9_init 18 = .ok (.aload_n 0, 1) := by decide +kernel
theorem dX9_init_19 : decode cX9_init 19 = .ok (.new 7, 3) := by decide +kernel
theorem dX9_init_22 : decode cX9_init 22 = .ok (.dup, 1) := by decide +kernel
theorem dX9_init_23 : decode cX9_init 23 = .ok (.sipush 4096, 3) := by decide +kernel
theorem dX9_init_26 : decode cX9_init 26 = .ok (.invokespecial 11, 3) := by decide +kernel
theorem dX9_init_29 : decode cX9_init 29 = .ok (.putfield 18, 3) := by decide +kernel
theorem dX9_init_32 : decode cX9_init 32 = .ok (.aload_n 0, 1) := by decide +kernel
theorem dX9_init_33 : decode cX9_init 33 = .ok (.bipush 8, 2) := by decide +kernel
theorem dX9_init_35 : decode cX9_init 35 = .ok (.anewarray 21, 3) := by decide +kernel
theorem dX9_init_38 : decode cX9_init 38 = .ok (.putfield 23, 3) := by decide +kernel
theorem dX9_init_41 : decode cX9_init 41 = .ok (.aload_n 0, 1) := by decide +kernel
theorem dX9_init_42 : decode cX9_init 42 = .ok (.new 27, 3) := by decide +kernel
theorem dX9_init_45 : decode cX9_init 45 = .ok (.dup, 1) := by decide +kernel
theorem dX9_init_46 : decode cX9_init 46 = .ok (.invokespecial 29, 3) := by decide +kernel
theorem dX9_init_49 : decode cX9_init 49 = .ok (.putfield 30, 3) := by decide +kernel
theorem dX9_init_52 : decode cX9_init 52 = .ok (.aload_n 0, 1) := by decide +kernel
theorem dX9_init_53 : decode cX9_init 53 = .ok (.new 34, 3) := by decide +kernel
theorem dX9_init_56 : decode cX9_init 56 = .ok (.dup, 1) := by decide +kernel
theorem dX9_init_57 : decode cX9_init 57 = .ok (.invokespecial 36, 3) := by decide +kernel
theorem dX9_init_60 : decode cX9_init 60 = .ok (.putfield 37, 3) := by decide +kernel
theorem dX9_init_63 : decode cX9_init 63 = .ok (.aload_n 0, 1) := by decide +kernel
theorem dX9_init_64 : decode cX9_init 64 = .ok (.new 41, 3) := by decide +kernel
theorem dX9_init_67 : decode cX9_init 67 = .ok (.dup, 1) := by decide +kernel
theorem dX9_init_68 : decode cX9_init 68 = .ok (.invokespecial 43, 3) := by decide +kernel
theorem dX9_init_71 : decode cX9_init 71 = .ok (.putfield 44, 3) := by decide +kernel
theorem dX9_init_74 : decode cX9_init 74 = .ok (.aload_n 0, 1) := by decide +kernel
theorem dX9_init_75 : decode cX9_init 75 = .ok (.new 48, 3) := by decide +kernel
theorem dX9_init_78 : decode cX9_init 78 = .ok (.dup, 1) := by decide +kernel
theorem dX9_init_79 : decode cX9_init 79 = .ok (.invokespecial 50, 3) := by decide +kernel
theorem dX9_init_82 : decode cX9_init 82 = .ok (.putfield 51, 3) := by decide +kernel
theorem dX9_init_85 : decode cX9_init 85 = .ok (.aload_n 0, 1) := by decide +kernel
theorem dX9_init_86 : decode cX9_init 86 = .ok (.new 55, 3) := by decide +kernel
theorem dX9_init_89 : decode cX9_init 89 = .ok (.dup, 1) := by decide +kernel
theorem dX9_init_90 : decode cX9_init 90 = .ok (.invokespecial 57, 3) := by decide +kernel
theorem dX9_init_93 : decode cX9_init 93 = .ok (.putfield 58, 3) := by decide +kernel
theorem dX9_init_96 : decode cX9_init 96 = .ok (.aload_n 0, 1) := by decide +kernel
theorem dX9_init_97 : decode cX9_init 97 = .ok (.new 62, 3) := by decide +kernel
theorem dX9_init_100 : decode cX9_init 100 = .ok (.dup, 1) := by decide +kernel
theorem dX9_init_101 : decode cX9_init 101 = .ok (.invokespecial 64, 3) := by decide +kernel
theorem dX9_init_104 : decode cX9_init 104 = .ok (.putfield 65, 3) := by decide +kernel
theorem dX9_init_107 : decode cX9_init 107 = .ok (.aload_n 0, 1) := by decide +kernel
theorem dX9_init_108 : decode cX9_init 108 = .ok (.new 62, 3) := by decide +kernel
theorem dX9_init_111 : decode cX9_init 111 = .ok (.dup, 1) := by decide +kernel
theorem dX9_init_112 : decode cX9_init 112 = .ok (.invokespecial 64, 3) := by decide +kernel
theorem dX9_init_115 : decode cX9_init 115 = .ok (.putfield 69, 3) := by decide +kernel
theorem dX9_init_118 : decode cX9_init 118 = .ok (.aload_n 0, 1) := by decide +kernel
theorem dX9_init_119 : decode cX9_init 119 = .ok (.iconst (-1), 1) := by decide +kernel
theorem dX9_init_120 : decode cX9_init 120 = .ok (.putfield 72, 3) := by decide +kernel
theorem dX9_init_123 : decode cX9_init 123 = .ok (.aload_n 0, 1) := by decide +kernel
theorem dX9_init_124 : decode cX9_init 124 = .ok (.iconst (-1), 1) := by decide +kernel
theorem dX9_init_125 : decode cX9_init 125 = .ok (.putfield 76, 3) := by decide +kernel
theorem dX9_init_128 : decode cX9_init 128 = .ok (.return_, 1) := by decide +kernel
theorem dX9_feed_0 : decode cX9_feed 0 = .ok (.aload_n 0, 1) := by decide +kernel
theorem dX9_feed_1 : decode cX9_feed 1 = .ok (.getfield 14, 3) := by decide +kernel
theorem dX9_feed_4 : decode cX9_feed 4 = .ok (.invokevirtual 79, 3) := by decide +kernel
theorem dX9_feed_7 : decode cX9_feed 7 = .ok (.bipush 20, 2) := by decide +kernel
theorem dX9_feed_9 : decode cX9_feed 9 = .ok (.iadd, 1) := by decide +kernel
theorem dX9_feed_10 : decode cX9_feed 10 = .ok (.sipush 4096, 3) := by decide +kernel
theorem dX9_feed_13 : decode cX9_feed 13 = .ok (.if_icmp .le 11, 3) := by decide +kernel
theorem dX9_feed_16 : decode cX9_feed 16 = .ok (.new 83, 3) := by decide +kernel
theorem dX9_feed_19 : decode cX9_feed 19 = .ok (.dup, 1) := by decide +kernel
theorem dX9_feed_20 : decode cX9_feed 20 = .ok (.invokespecial 85, 3) := by decide +kernel
theorem dX9_feed_23 : decode cX9_feed 23 = .ok (.athrow, 1) := by decide +kernel
theorem dX9_feed_24 : decode cX9_feed 24 = .ok (.aload_n 0, 1) := by decide +kernel
theorem dX9_feed_25 : decode cX9_feed 25 = .ok (.iload_n 1, 1) := by decide +kernel
theorem dX9_feed_26 : decode cX9_feed 26 = .ok (.invokevirtual 86, 3) := by decide +kernel
theorem dX9_feed_29 : decode cX9_feed 29 = .ok (.aload_n 0, 1) := by decide +kernel
theorem dX9_feed_30 : decode cX9_feed 30 = .ok (.iload_n 2, 1) := by decide +kernel
theorem dX9_feed_31 : decode cX9_feed 31 = .ok (.invokevirtual 86, 3) := by decide +kernel
theorem dX9_feed_34 : decode cX9_feed 34 = .ok (.aload_n 0, 1) := by decide +kernel
theorem dX9_feed_35 : decode cX9_feed 35 = .ok (.iload_n 3, 1) := by decide +kernel
theorem dX9_feed_36 : decode cX9_feed 36 = .ok (.invokevirtual 86, 3) := by decide +kernel
theorem dX9_feed_39 : decode cX9_feed 39 = .ok (.aload_n 0, 1) := by decide +kernel
theorem dX9_feed_40 : decode cX9_feed 40 = .ok (.iload 4, 2) := by decide +kernel
theorem dX9_feed_42 : decode cX9_feed 42 = .ok (.invokevirtual 86, 3) := by decide +kernel
theorem dX9_feed_45 : decode cX9_feed 45 = .ok (.aload_n 0, 1) := by decide +kernel
theorem dX9_feed_46 : decode cX9_feed 46 = .ok (.iload 5, 2) := by decide +kernel
theorem dX9_feed_48 : decode cX9_feed 48 = .ok (.invokevirtual 86, 3) := by decide +kernel
theorem dX9_feed_51 : decode cX9_feed 51 = .ok (.aload_n 0, 1) := by decide +kernel
theorem dX9_feed_52 : decode cX9_feed 52 = .ok (.getfield 14, 3) := by decide +kernel
theorem dX9_feed_55 : decode cX9_feed 55 = .ok (.invokevirtual 79, 3) := by decide +kernel
theorem dX9_feed_58 : decode cX9_feed 58 = .ok (.ireturn, 1) := by decide +kernel
theorem dX9_end_0 : decode cX9_end 0 = .ok (.iload_n 1, 1) := by decide +kernel
theorem dX9_end_1 : decode cX9_end 1 = .ok (.ifCond .lt 14, 3) := by decide +kernel
theorem dX9_end_4 : decode cX9_end 4 = .ok (.iload_n 1, 1) := by decide +kernel
theorem dX9_end_5 : decode cX9_end 5 = .ok (.aload_n 0, 1) := by decide +kernel
theorem dX9_end_6 : decode cX9_end 6 = .ok (.getfield 14, 3) := by decide +kernel
theorem dX9_end_9 : decode cX9_end 9 = .ok (.invokevirtual 79, 3) := by decide +kernel
theorem dX9_end_12 : decode cX9_end 12 = .ok (.if_icmp .le 11, 3) := by decide +kernel
theorem dX9_end_15 : decode cX9_end 15 = .ok (.new 89, 3) := by decide +kernel
theorem dX9_end_18 : decode cX9_end 18 = .ok (.dup, 1) := by decide +kernel
theorem dX9_end_19 : decode cX9_end 19 = .ok (.invokespecial 91, 3) := by decide +kernel
theorem dX9_end_22 : decode cX9_end 22 = .ok (.athrow, 1) := by decide +kernel
theorem dX9_end_23 : decode cX9_end 23 = .ok (.aload_n 0, 1) := by decide +kernel
theorem dX9_end_24 : decode cX9_end 24 = .ok (.getfield 14, 3) := by decide +kernel
theorem dX9_end_27 : decode cX9_end 27 = .ok (.iload_n 1, 1) := by decide +kernel
theorem dX9_end_28 : decode cX9_end 28 = .ok (.invokevirtual 92, 3) := by decide +kernel
theorem dX9_end_31 : decode cX9_end 31 = .ok (.return_, 1) := by decide +kernel
theorem dX9_schema_0 : decode cX9_schema 0 = .ok (.iload_n 1, 1) := by decide +kernel
theorem dX9_schema_1 : decode cX9_schema 1 = .ok (.ifCond .lt 9, 3) := by decide +kernel
theorem dX9_schema_4 : decode cX9_schema 4 = .ok (.iload_n 1, 1) := by decide +kernel
theorem dX9_schema_5 : decode cX9_schema 5 = .ok (.bipush 8, 2) := by decide +kernel
theorem dX9_schema_7 : decode cX9_schema 7 = .ok (.if_icmp .lt 11, 3) := by decide +kernel
theorem dX9_schema_10 : decode cX9_schema 10 = .ok (.new 95, 3) := by decide +kernel
theorem dX9_schema_13 : decode cX9_schema 13 = .ok (.dup, 1) := by decide +kernel
theorem dX9_schema_14 : decode cX9_schema 14 = .ok (.invokespecial 97, 3) := by decide +kernel
theorem dX9_schema_17 : decode cX9_schema 17 = .ok (.athrow, 1) := by decide +kernel
theorem dX9_schema_18 : decode cX9_schema 18 = .ok (.aload_n 0, 1) := by decide +kernel
theorem dX9_schema_19 : decode cX9_schema 19 = .ok (.aload_n 0, 1) := by decide +kernel
theorem dX9_schema_20 : decode cX9_schema 20 = .ok (.getfield 30, 3) := by decide +kernel
theorem dX9_schema_23 : decode cX9_schema 23 = .ok (.aload_n 0, 1) := by decide +kernel
theorem dX9_schema_24 : decode cX9_schema 24 = .ok (.getfield 14, 3) := by decide +kernel
theorem dX9_schema_27 : decode cX9_schema 27 = .ok (.invokevirtual 98, 3) := by decide +kernel
theorem dX9_schema_30 : decode cX9_schema 30 = .ok (.putfield 76, 3) := by decide +kernel
theorem dX9_schema_33 : decode cX9_schema 33 = .ok (.aload_n 0, 1) := by decide +kernel
theorem dX9_schema_34 : decode cX9_schema 34 = .ok (.getfield 76, 3) := by decide +kernel
theorem dX9_schema_37 : decode cX9_schema 37 = .ok (.iconst (-1), 1) := by decide +kernel
theorem dX9_schema_38 : decode cX9_schema 38 = .ok (.if_icmp .eq 5, 3) := by decide +kernel
theorem dX9_schema_41 : decode cX9_schema 41 = .ok (.iconst 1, 1) := by decide +kernel
theorem dX9_schema_42 : decode cX9_schema 42 = .ok (.ireturn, 1) := by decide +kernel
theorem dX9_schema_43 : decode cX9_schema 43 = .ok (.aload_n 0, 1) := by decide +kernel
theorem dX9_schema_44 : decode cX9_schema 44 = .ok (.getfield 37, 3) := by decide +kernel
theorem dX9_schema_47 : decode cX9_schema 47 = .ok (.aload_n 0, 1) := by decide +kernel
theorem dX9_schema_48 : decode cX9_schema 48 = .ok (.getfield 30, 3) := by decide +kernel
theorem dX9_schema_51 : decode cX9_schema 51 = .ok (.invokevirtual 102, 3) := by decide +kernel
theorem dX9_schema_54 : decode cX9_schema 54 = .ok (.istore_n 2, 1) := by decide +kernel
theorem dX9_schema_55 : decode cX9_schema 55 = .ok (.aload_n 0, 1) := by decide +kernel
theorem dX9_schema_56 : decode cX9_schema 56 = .ok (.aload_n 0, 1) := by decide +kernel
theorem dX9_schema_57 : decode cX9_schema 57 = .ok (.getfield 37, 3) := by decide +kernel
theorem dX9_schema_60 : decode cX9_schema 60 = .ok (.invokevirtual 106, 3) := by decide +kernel
theorem dX9_schema_63 : decode cX9_schema 63 = .ok (.putfield 76, 3) := by decide +kernel
theorem dX9_schema_66 : decode cX9_schema 66 = .ok (.iload_n 2, 1) := by decide +kernel
theorem dX9_schema_67 : decode cX9_schema 67 = .ok (.ifCond .eq 5, 3) := by decide +kernel
theorem dX9_schema_70 : decode cX9_schema 70 = .ok (.iload_n 2, 1) := by decide +kernel
theorem dX9_schema_71 : decode cX9_schema 71 = .ok (.ireturn, 1) := by decide +kernel
theorem dX9_schema_72 : decode cX9_schema 72 = .ok (.aload_n 0, 1) := by decide +kernel
theorem dX9_schema_73 : decode cX9_schema 73 = .ok (.getfield 23, 3) := by decide +kernel
theorem dX9_schema_76 : decode cX9_schema 76 = .ok (.iload_n 1, 1) := by decide +kernel
theorem dX9_schema_77 : decode cX9_schema 77 = .ok (.aload_n 0, 1) := by decide +kernel
theorem dX9_schema_78 : decode cX9_schema 78 = .ok (.getfield 37, 3) := by decide +kernel
theorem dX9_schema_81 : decode cX9_schema 81 = .ok (.aload_n 0, 1) := by decide +kernel
theorem dX9_schema_82 : decode cX9_schema 82 = .ok (.getfield 23, 3) := by decide +kernel
theorem dX9_schema_85 : decode cX9_schema 85 = .ok (.iload_n 1, 1) := by decide +kernel
theorem dX9_schema_86 : decode cX9_schema 86 = .ok (.aaload, 1) := by decide +kernel
theorem dX9_schema_87 : decode cX9_schema 87 = .ok (.invokevirtual 109, 3) := by decide +kernel
theorem dX9_schema_90 : decode cX9_schema 90 = .ok (.aastore, 1) := by decide +kernel
theorem dX9_schema_91 : decode cX9_schema 91 = .ok (.aload_n 0, 1) := by decide +kernel
theorem dX9_schema_92 : decode cX9_schema 92 = .ok (.getfield 72, 3) := by decide +kernel
theorem dX9_schema_95 : decode cX9_schema 95 = .ok (.iload_n 1, 1) := by decide +kernel
theorem dX9_schema_96 : decode cX9_schema 96 = .ok (.if_icmp .ne 15, 3) := by decide +kernel
theorem dX9_schema_99 : decode cX9_schema 99 = .ok (.aload_n 0, 1) := by decide +kernel
theorem dX9_schema_100 : decode cX9_schema 100 = .ok (.getfield 65, 3) := by decide +kernel
theorem dX9_schema_103 : decode cX9_schema 103 = .ok (.invokevirtual 113, 3) := by decide +kernel
theorem dX9_schema_106 : decode cX9_schema 106 = .ok (.aload_n 0, 1) := by decide +kernel
theorem dX9_schema_107 : decode cX9_schema 107 = .ok (.iconst (-1), 1) := by decide +kernel
theorem dX9_schema_108 : decode cX9_schema 108 = .ok (.putfield 72, 3) := by decide +kernel
theorem dX9_schema_111 : decode cX9_schema 111 = .ok (.aload_n 0, 1) := by decide +kernel
theorem dX9_schema_112 : decode cX9_schema 112 = .ok (.getfield 14, 3) := by decide +kernel
theorem dX9_schema_115 : decode cX9_schema 115 = .ok (.iconst 0, 1) := by decide +kernel
theorem dX9_schema_116 : decode cX9_schema 116 = .ok (.invokevirtual 92, 3) := by decide +kernel
theorem dX9_schema_119 : decode cX9_schema 119 = .ok (.iconst 0, 1) := by decide +kernel
theorem dX9_schema_120 : decode cX9_schema 120 = .ok (.ireturn, 1) := by decide +kernel
theorem dX9_load_0 : decode cX9_load 0 = .ok (.iload_n 1, 1) := by decide +kernel
theorem dX9_load_1 : decode cX9_load 1 = .ok (.ifCond .lt 9, 3) := by decide +kernel
theorem dX9_load_4 : decode cX9_load 4 = .ok (.iload_n 1, 1) := by decide +kernel
theorem dX9_load_5 : decode cX9_load 5 = .ok (.bipush 8, 2) := by decide +kernel
theorem dX9_load_7 : decode cX9_load 7 = .ok (.if_icmp .lt 11, 3) := by decide +kernel
theorem dX9_load_10 : decode cX9_load 10 = .ok (.new 95, 3) := by decide +kernel
theorem dX9_load_13 : decode cX9_load 13 = .ok (.dup, 1) := by decide +kernel
theorem dX9_load_14 : decode cX9_load 14 = .ok (.invokespecial 97, 3) := by decide +kernel
theorem dX9_load_17 : decode cX9_load 17 = .ok (.athrow, 1) := by decide +kernel
theorem dX9_load_18 : decode cX9_load 18 = .ok (.aload_n 0, 1) := by decide +kernel
theorem dX9_load_19 : decode cX9_load 19 = .ok (.getfield 23, 3) := by decide +kernel
theorem dX9_load_22 : decode cX9_load 22 = .ok (.iload_n 1, 1) := by decide +kernel
theorem dX9_load_23 : decode cX9_load 23 = .ok (.aaload, 1) := by decide +kernel
theorem dX9_load_24 : decode cX9_load 24 = .ok (.astore_n 2, 1) := by decide +kernel
theorem dX9_load_25 : decode cX9_load 25 = .ok (.aload_n 2, 1) := by decide +kernel
theorem dX9_load_26 : decode cX9_load 26 = .ok (.ifnonnull 11, 3) := by decide +kernel
theorem dX9_load_29 : decode cX9_load 29 = .ok (.new 83, 3) := by decide +kernel
theorem dX9_load_32 : decode cX9_load 32 = .ok (.dup, 1) := by decide +kernel
theorem dX9_load_33 : decode cX9_load 33 = .ok (.invokespecial 85, 3) := by decide +kernel
theorem dX9_load_36 : decode cX9_load 36 = .ok (.athrow, 1) := by decide +kernel
theorem dX9_load_37 : decode cX9_load 37 = .ok (.aload_n 0, 1) := by decide +kernel
theorem dX9_load_38 : decode cX9_load 38 = .ok (.getfield 44, 3) := by decide +kernel
theorem dX9_load_41 : decode cX9_load 41 = .ok (.aload_n 0, 1) := by decide +kernel
theorem dX9_load_42 : decode cX9_load 42 = .ok (.getfield 14, 3) := by decide +kernel
theorem dX9_load_45 : decode cX9_load 45 = .ok (.aload_n 2, 1) := by decide +kernel
theorem dX9_load_46 : decode cX9_load 46 = .ok (.aload_n 0, 1) := by decide +kernel
theorem dX9_load_47 : decode cX9_load 47 = .ok (.getfield 69, 3) := by decide +kernel
theorem dX9_load_50 : decode cX9_load 50 = .ok (.invokevirtual 116, 3) := by decide +kernel
theorem dX9_load_53 : decode cX9_load 53 = .ok (.istore_n 3, 1) := by decide +kernel
theorem dX9_load_54 : decode cX9_load 54 = .ok (.aload_n 0, 1) := by decide +kernel
theorem dX9_load_55 : decode cX9_load 55 = .ok (.aload_n 0, 1) := by decide +kernel
theorem dX9_load_56 : decode cX9_load 56 = .ok (.getfield 44, 3) := by decide +kernel
theorem dX9_load_59 : decode cX9_load 59 = .ok (.invokevirtual 120, 3) := by decide +kernel
theorem dX9_load_62 : decode cX9_load 62 = .ok (.putfield 76, 3) := by decide +kernel
theorem dX9_load_65 : decode cX9_load 65 = .ok (.iload_n 3, 1) := by decide +kernel
theorem dX9_load_66 : decode cX9_load 66 = .ok (.ifCond .ge 5, 3) := by decide +kernel
theorem dX9_load_69 : decode cX9_load 69 = .ok (.iload_n 3, 1) := by decide +kernel
theorem dX9_load_70 : decode cX9_load 70 = .ok (.ireturn, 1) := by decide +kernel
theorem dX9_load_71 : decode cX9_load 71 = .ok (.aload_n 0, 1) := by decide +kernel
theorem dX9_load_72 : decode cX9_load 72 = .ok (.getfield 65, 3) := by decide +kernel
theorem dX9_load_75 : decode cX9_load 75 = .ok (.astore 4, 2) := by decide +kernel
theorem dX9_load_77 : decode cX9_load 77 = .ok (.aload_n 0, 1) := by decide +kernel
theorem dX9_load_78 : decode cX9_load 78 = .ok (.aload_n 0, 1) := by decide +kernel
theorem dX9_load_79 : decode cX9_load 79 = .ok (.getfield 69, 3) := by decide +kernel
theorem dX9_load_82 : decode cX9_load 82 = .ok (.putfield 65, 3) := by decide +kernel
theorem dX9_load_85 : decode cX9_load 85 = .ok (.aload_n 0, 1) := by decide +kernel
theorem dX9_load_86 : decode cX9_load 86 = .ok (.aload 4, 2) := by decide +kernel
theorem dX9_load_88 : decode cX9_load 88 = .ok (.putfield 69, 3) := by decide +kernel
theorem dX9_load_91 : decode cX9_load 91 = .ok (.aload_n 0, 1) := by decide +kernel
theorem dX9_load_92 : decode cX9_load 92 = .ok (.iload_n 1, 1) := by decide +kernel
theorem dX9_load_93 : decode cX9_load 93 = .ok (.putfield 72, 3) := by decide +kernel
theorem dX9_load_96 : decode cX9_load 96 = .ok (.aload_n 0, 1) := by decide +kernel
theorem dX9_load_97 : decode cX9_load 97 = .ok (.getfield 14, 3) := by decide +kernel
theorem dX9_load_100 : decode cX9_load 100 = .ok (.iconst 0, 1) := by decide +kernel
theorem dX9_load_101 : decode cX9_load 101 = .ok (.invokevirtual 92, 3) := by decide +kernel
theorem dX9_load_104 : decode cX9_load 104 = .ok (.iload_n 3, 1) := by decide +kernel
theorem dX9_load_105 : decode cX9_load 105 = .ok (.ireturn, 1) := by decide +kernel
theorem dX9_place_0 : decode cX9_place 0 = .ok (.aload_n 0, 1) := by decide +kernel
theorem dX9_place_1 : decode cX9_place 1 = .ok (.getfield 76, 3) := by decide +kernel
theorem dX9_place_4 : decode cX9_place 4 = .ok (.ireturn, 1) := by decide +kernel
theorem dX9_rows_0 : decode cX9_rows 0 = .ok (.aload_n 0, 1) := by decide +kernel
theorem dX9_rows_1 : decode cX9_rows 1 = .ok (.getfield 65, 3) := by decide +kernel
theorem dX9_rows_4 : decode cX9_rows 4 = .ok (.invokevirtual 121, 3) := by decide +kernel
theorem dX9_rows_7 : decode cX9_rows 7 = .ok (.ireturn, 1) := by decide +kernel
theorem dX9_size_0 : decode cX9_size 0 = .ok (.iload_n 1, 1) := by decide +kernel
theorem dX9_size_1 : decode cX9_size 1 = .ok (.ifCond .eq 16, 3) := by decide +kernel
theorem dX9_size_4 : decode cX9_size 4 = .ok (.iload_n 1, 1) := by decide +kernel
theorem dX9_size_5 : decode cX9_size 5 = .ok (.iconst 1, 1) := by decide +kernel
theorem dX9_size_6 : decode cX9_size 6 = .ok (.if_icmp .eq 11, 3) := by decide +kernel
theorem dX9_size_9 : decode cX9_size 9 = .ok (.new 89, 3) := by decide +kernel
theorem dX9_size_12 : decode cX9_size 12 = .ok (.dup, 1) := by decide +kernel
theorem dX9_size_13 : decode cX9_size 13 = .ok (.invokespecial 91, 3) := by decide +kernel
theorem dX9_size_16 : decode cX9_size 16 = .ok (.athrow, 1) := by decide +kernel
theorem dX9_size_17 : decode cX9_size 17 = .ok (.aload_n 0, 1) := by decide +kernel
theorem dX9_size_18 : decode cX9_size 18 = .ok (.iload_n 1, 1) := by decide +kernel
theorem dX9_size_19 : decode cX9_size 19 = .ok (.invokevirtual 122, 3) := by decide +kernel
theorem dX9_size_22 : decode cX9_size 22 = .ok (.invokevirtual 79, 3) := by decide +kernel
theorem dX9_size_25 : decode cX9_size 25 = .ok (.ireturn, 1) := by decide +kernel
theorem dX9_letter_0 : decode cX9_letter 0 = .ok (.iload_n 2, 1) := by decide +kernel
theorem dX9_letter_1 : decode cX9_letter 1 = .ok (.ifCond .eq 16, 3) := by decide +kernel
theorem dX9_letter_4 : decode cX9_letter 4 = .ok (.iload_n 2, 1) := by decide +kernel
theorem dX9_letter_5 : decode cX9_letter 5 = .ok (.iconst 1, 1) := by decide +kernel
theorem dX9_letter_6 : decode cX9_letter 6 = .ok (.if_icmp .eq 11, 3) := by decide +kernel
theorem dX9_letter_9 : decode cX9_letter 9 = .ok (.new 89, 3) := by decide +kernel
theorem dX9_letter_12 : decode cX9_letter 12 = .ok (.dup, 1) := by decide +kernel
theorem dX9_letter_13 : decode cX9_letter 13 = .ok (.invokespecial 91, 3) := by decide +kernel
theorem dX9_letter_16 : decode cX9_letter 16 = .ok (.athrow, 1) := by decide +kernel
theorem dX9_letter_17 : decode cX9_letter 17 = .ok (.aload_n 0, 1) := by decide +kernel
theorem dX9_letter_18 : decode cX9_letter 18 = .ok (.iload_n 2, 1) := by decide +kernel
theorem dX9_letter_19 : decode cX9_letter 19 = .ok (.invokevirtual 122, 3) := by decide +kernel
theorem dX9_letter_22 : decode cX9_letter 22 = .ok (.astore_n 3, 1) := by decide +kernel
theorem dX9_letter_23 : decode cX9_letter 23 = .ok (.iload_n 1, 1) := by decide +kernel
theorem dX9_letter_24 : decode cX9_letter 24 = .ok (.ifCond .lt 11, 3) := by decide +kernel
theorem dX9_letter_27 : decode cX9_letter 27 = .ok (.iload_n 1, 1) := by decide +kernel
theorem dX9_letter_28 : decode cX9_letter 28 = .ok (.aload_n 3, 1) := by decide +kernel
theorem dX9_letter_29 : decode cX9_letter 29 = .ok (.invokevirtual 79, 3) := by decide +kernel
theorem dX9_letter_32 : decode cX9_letter 32 = .ok (.if_icmp .lt 11, 3) := by decide +kernel
theorem dX9_letter_35 : decode cX9_letter 35 = .ok (.new 95, 3) := by decide +kernel
theorem dX9_letter_38 : decode cX9_letter 38 = .ok (.dup, 1) := by decide +kernel
theorem dX9_letter_39 : decode cX9_letter 39 = .ok (.invokespecial 97, 3) := by decide +kernel
theorem dX9_letter_42 : decode cX9_letter 42 = .ok (.athrow, 1) := by decide +kernel
theorem dX9_letter_43 : decode cX9_letter 43 = .ok (.aload_n 3, 1) := by decide +kernel
theorem dX9_letter_44 : decode cX9_letter 44 = .ok (.iload_n 1, 1) := by decide +kernel
theorem dX9_letter_45 : decode cX9_letter 45 = .ok (.invokevirtual 126, 3) := by decide +kernel
theorem dX9_letter_48 : decode cX9_letter 48 = .ok (.ireturn, 1) := by decide +kernel
theorem dX9_read_0 : decode cX9_read 0 = .ok (.iload_n 1, 1) := by decide +kernel
theorem dX9_read_1 : decode cX9_read 1 = .ok (.ifCond .lt 24, 3) := by decide +kernel
theorem dX9_read_4 : decode cX9_read 4 = .ok (.iload_n 1, 1) := by decide +kernel
theorem dX9_read_5 : decode cX9_read 5 = .ok (.bipush 8, 2) := by decide +kernel
theorem dX9_read_7 : decode cX9_read 7 = .ok (.if_icmp .ge 18, 3) := by decide +kernel
theorem dX9_read_10 : decode cX9_read 10 = .ok (.iload_n 2, 1) := by decide +kernel
theorem dX9_read_11 : decode cX9_read 11 = .ok (.ifCond .lt 14, 3) := by decide +kernel
theorem dX9_read_14 : decode cX9_read 14 = .ok (.iload_n 2, 1) := by decide +kernel
theorem dX9_read_15 : decode cX9_read 15 = .ok (.aload_n 0, 1) := by decide +kernel
theorem dX9_read_16 : decode cX9_read 16 = .ok (.getfield 65, 3) := by decide +kernel
theorem dX9_read_19 : decode cX9_read 19 = .ok (.invokevirtual 121, 3) := by decide +kernel
theorem dX9_read_22 : decode cX9_read 22 = .ok (.if_icmp .lt 11, 3) := by decide +kernel
theorem dX9_read_25 : decode cX9_read 25 = .ok (.new 95, 3) := by decide +kernel
theorem dX9_read_28 : decode cX9_read 28 = .ok (.dup, 1) := by decide +kernel
theorem dX9_read_29 : decode cX9_read 29 = .ok (.invokespecial 97, 3) := by decide +kernel
theorem dX9_read_32 : decode cX9_read 32 = .ok (.athrow, 1) := by decide +kernel
theorem dX9_read_33 : decode cX9_read 33 = .ok (.aload_n 0, 1) := by decide +kernel
theorem dX9_read_34 : decode cX9_read 34 = .ok (.getfield 23, 3) := by decide +kernel
theorem dX9_read_37 : decode cX9_read 37 = .ok (.iload_n 1, 1) := by decide +kernel
theorem dX9_read_38 : decode cX9_read 38 = .ok (.aaload, 1) := by decide +kernel
theorem dX9_read_39 : decode cX9_read 39 = .ok (.astore_n 3, 1) := by decide +kernel
theorem dX9_read_40 : decode cX9_read 40 = .ok (.aload_n 3, 1) := by decide +kernel
theorem dX9_read_41 : decode cX9_read 41 = .ok (.ifnonnull 11, 3) := by decide +kernel
theorem dX9_read_44 : decode cX9_read 44 = .ok (.new 83, 3) := by decide +kernel
theorem dX9_read_47 : decode cX9_read 47 = .ok (.dup, 1) := by decide +kernel
theorem dX9_read_48 : decode cX9_read 48 = .ok (.invokespecial 85, 3) := by decide +kernel
theorem dX9_read_51 : decode cX9_read 51 = .ok (.athrow, 1) := by decide +kernel
theorem dX9_read_52 : decode cX9_read 52 = .ok (.aload_n 0, 1) := by decide +kernel
theorem dX9_read_53 : decode cX9_read 53 = .ok (.getfield 18, 3) := by decide +kernel
theorem dX9_read_56 : decode cX9_read 56 = .ok (.iconst 0, 1) := by decide +kernel
theorem dX9_read_57 : decode cX9_read 57 = .ok (.invokevirtual 92, 3) := by decide +kernel
theorem dX9_read_60 : decode cX9_read 60 = .ok (.aload_n 0, 1) := by decide +kernel
theorem dX9_read_61 : decode cX9_read 61 = .ok (.getfield 51, 3) := by decide +kernel
theorem dX9_read_64 : decode cX9_read 64 = .ok (.aload_n 0, 1) := by decide +kernel
theorem dX9_read_65 : decode cX9_read 65 = .ok (.getfield 65, 3) := by decide +kernel
theorem dX9_read_68 : decode cX9_read 68 = .ok (.iload_n 2, 1) := by decide +kernel
theorem dX9_read_69 : decode cX9_read 69 = .ok (.aload_n 0, 1) := by decide +kernel
theorem dX9_read_70 : decode cX9_read 70 = .ok (.invokevirtual 130, 3) := by decide +kernel
theorem dX9_read_73 : decode cX9_read 73 = .ok (.aload_n 3, 1) := by decide +kernel
theorem dX9_read_74 : decode cX9_read 74 = .ok (.invokevirtual 134, 3) := by decide +kernel
theorem dX9_read_77 : decode cX9_read 77 = .ok (.istore 4, 2) := by decide +kernel
theorem dX9_read_79 : decode cX9_read 79 = .ok (.iload 4, 2) := by decide +kernel
theorem dX9_read_81 : decode cX9_read 81 = .ok (.ifCond .eq 6, 3) := by decide +kernel
theorem dX9_read_84 : decode cX9_read 84 = .ok (.iload 4, 2) := by decide +kernel
theorem dX9_read_86 : decode cX9_read 86 = .ok (.ireturn, 1) := by decide +kernel
theorem dX9_read_87 : decode cX9_read 87 = .ok (.aload_n 0, 1) := by decide +kernel
theorem dX9_read_88 : decode cX9_read 88 = .ok (.getfield 18, 3) := by decide +kernel
theorem dX9_read_91 : decode cX9_read 91 = .ok (.aload_n 0, 1) := by decide +kernel
theorem dX9_read_92 : decode cX9_read 92 = .ok (.getfield 51, 3) := by decide +kernel
theorem dX9_read_95 : decode cX9_read 95 = .ok (.invokevirtual 138, 3) := by decide +kernel
theorem dX9_read_98 : decode cX9_read 98 = .ok (.iconst 0, 1) := by decide +kernel
theorem dX9_read_99 : decode cX9_read 99 = .ok (.aload_n 0, 1) := by decide +kernel
theorem dX9_read_100 : decode cX9_read 100 = .ok (.getfield 51, 3) := by decide +kernel
theorem dX9_read_103 : decode cX9_read 103 = .ok (.invokevirtual 138, 3) := by decide +kernel
theorem dX9_read_106 : decode cX9_read 106 = .ok (.invokevirtual 79, 3) := by decide +kernel
theorem dX9_read_109 : decode cX9_read 109 = .ok (.invokevirtual 142, 3) := by decide +kernel
theorem dX9_read_112 : decode cX9_read 112 = .ok (.pop, 1) := by decide +kernel
theorem dX9_read_113 : decode cX9_read 113 = .ok (.aload_n 0, 1) := by decide +kernel
theorem dX9_read_114 : decode cX9_read 114 = .ok (.getfield 18, 3) := by decide +kernel
theorem dX9_read_117 : decode cX9_read 117 = .ok (.invokevirtual 79, 3) := by decide +kernel
theorem dX9_read_120 : decode cX9_read 120 = .ok (.ireturn, 1) := by decide +kernel
theorem dX9_all_0 : decode cX9_all 0 = .ok (.iload_n 1, 1) := by decide +kernel
theorem dX9_all_1 : decode cX9_all 1 = .ok (.ifCond .lt 9, 3) := by decide +kernel
theorem dX9_all_4 : decode cX9_all 4 = .ok (.iload_n 1, 1) := by decide +kernel
theorem dX9_all_5 : decode cX9_all 5 = .ok (.bipush 8, 2) := by decide +kernel
theorem dX9_all_7 : decode cX9_all 7 = .ok (.if_icmp .lt 11, 3) := by decide +kernel
theorem dX9_all_10 : decode cX9_all 10 = .ok (.new 95, 3) := by decide +kernel
theorem dX9_all_13 : decode cX9_all 13 = .ok (.dup, 1) := by decide +kernel
theorem dX9_all_14 : decode cX9_all 14 = .ok (.invokespecial 97, 3) := by decide +kernel
theorem dX9_all_17 : decode cX9_all 17 = .ok (.athrow, 1) := by decide +kernel
theorem dX9_all_18 : decode cX9_all 18 = .ok (.aload_n 0, 1) := by decide +kernel
theorem dX9_all_19 : decode cX9_all 19 = .ok (.getfield 23, 3) := by decide +kernel
theorem dX9_all_22 : decode cX9_all 22 = .ok (.iload_n 1, 1) := by decide +kernel
theorem dX9_all_23 : decode cX9_all 23 = .ok (.aaload, 1) := by decide +kernel
theorem dX9_all_24 : decode cX9_all 24 = .ok (.astore_n 2, 1) := by decide +kernel
theorem dX9_all_25 : decode cX9_all 25 = .ok (.aload_n 2, 1) := by decide +kernel
theorem dX9_all_26 : decode cX9_all 26 = .ok (.ifnonnull 11, 3) := by decide +kernel
theorem dX9_all_29 : decode cX9_all 29 = .ok (.new 83, 3) := by decide +kernel
theorem dX9_all_32 : decode cX9_all 32 = .ok (.dup, 1) := by decide +kernel
theorem dX9_all_33 : decode cX9_all 33 = .ok (.invokespecial 85, 3) := by decide +kernel
theorem dX9_all_36 : decode cX9_all 36 = .ok (.athrow, 1) := by decide +kernel
theorem dX9_all_37 : decode cX9_all 37 = .ok (.iconst 0, 1) := by decide +kernel
theorem dX9_all_38 : decode cX9_all 38 = .ok (.istore_n 3, 1) := by decide +kernel
theorem dX9_all_39 : decode cX9_all 39 = .ok (.iload_n 3, 1) := by decide +kernel
theorem dX9_all_40 : decode cX9_all 40 = .ok (.aload_n 0, 1) := by decide +kernel
theorem dX9_all_41 : decode cX9_all 41 = .ok (.getfield 65, 3) := by decide +kernel
theorem dX9_all_44 : decode cX9_all 44 = .ok (.invokevirtual 121, 3) := by decide +kernel
theorem dX9_all_47 : decode cX9_all 47 = .ok (.if_icmp .ge 31, 3) := by decide +kernel
theorem dX9_all_50 : decode cX9_all 50 = .ok (.aload_n 0, 1) := by decide +kernel
theorem dX9_all_51 : decode cX9_all 51 = .ok (.getfield 51, 3) := by decide +kernel
theorem dX9_all_54 : decode cX9_all 54 = .ok (.aload_n 0, 1) := by decide +kernel
theorem dX9_all_55 : decode cX9_all 55 = .ok (.getfield 65, 3) := by decide +kernel
theorem dX9_all_58 : decode cX9_all 58 = .ok (.iload_n 3, 1) := by decide +kernel
theorem dX9_all_59 : decode cX9_all 59 = .ok (.aload_n 0, 1) := by decide +kernel
theorem dX9_all_60 : decode cX9_all 60 = .ok (.invokevirtual 130, 3) := by decide +kernel
theorem dX9_all_63 : decode cX9_all 63 = .ok (.aload_n 2, 1) := by decide +kernel
theorem dX9_all_64 : decode cX9_all 64 = .ok (.invokevirtual 134, 3) := by decide +kernel
theorem dX9_all_67 : decode cX9_all 67 = .ok (.ifCond .eq 5, 3) := by decide +kernel
theorem dX9_all_70 : decode cX9_all 70 = .ok (.iload_n 3, 1) := by decide +kernel
theorem dX9_all_71 : decode cX9_all 71 = .ok (.ireturn, 1) := by decide +kernel
theorem dX9_all_72 : decode cX9_all 72 = .ok (.iinc 3 1, 3) := by decide +kernel
theorem dX9_all_75 : decode cX9_all 75 = .ok (.goto (-36), 3) := by decide +kernel
theorem dX9_all_78 : decode cX9_all 78 = .ok (.aload_n 0, 1) := by decide +kernel
theorem dX9_all_79 : decode cX9_all 79 = .ok (.getfield 65, 3) := by decide +kernel
theorem dX9_all_82 : decode cX9_all 82 = .ok (.invokevirtual 121, 3) := by decide +kernel
theorem dX9_all_85 : decode cX9_all 85 = .ok (.ireturn, 1) := by decide +kernel
theorem dX9_fits_0 : decode cX9_fits 0 = .ok (.iload_n 1, 1) := by decide +kernel
theorem dX9_fits_1 : decode cX9_fits 1 = .ok (.ifCond .lt 19, 3) := by decide +kernel
theorem dX9_fits_4 : decode cX9_fits 4 = .ok (.iload_n 1, 1) := by decide +kernel
theorem dX9_fits_5 : decode cX9_fits 5 = .ok (.bipush 8, 2) := by decide +kernel
theorem dX9_fits_7 : decode cX9_fits 7 = .ok (.if_icmp .ge 13, 3) := by decide +kernel
theorem dX9_fits_10 : decode cX9_fits 10 = .ok (.iload_n 2, 1) := by decide +kernel
theorem dX9_fits_11 : decode cX9_fits 11 = .ok (.ifCond .lt 9, 3) := by decide +kernel
theorem dX9_fits_14 : decode cX9_fits 14 = .ok (.iload_n 2, 1) := by decide +kernel
theorem dX9_fits_15 : decode cX9_fits 15 = .ok (.bipush 8, 2) := by decide +kernel
theorem dX9_fits_17 : decode cX9_fits 17 = .ok (.if_icmp .lt 11, 3) := by decide +kernel
theorem dX9_fits_20 : decode cX9_fits 20 = .ok (.new 95, 3) := by decide +kernel
theorem dX9_fits_23 : decode cX9_fits 23 = .ok (.dup, 1) := by decide +kernel
theorem dX9_fits_24 : decode cX9_fits 24 = .ok (.invokespecial 97, 3) := by decide +kernel
theorem dX9_fits_27 : decode cX9_fits 27 = .ok (.athrow, 1) := by decide +kernel
theorem dX9_fits_28 : decode cX9_fits 28 = .ok (.aload_n 0, 1) := by decide +kernel
theorem dX9_fits_29 : decode cX9_fits 29 = .ok (.getfield 23, 3) := by decide +kernel
theorem dX9_fits_32 : decode cX9_fits 32 = .ok (.iload_n 1, 1) := by decide +kernel
theorem dX9_fits_33 : decode cX9_fits 33 = .ok (.aaload, 1) := by decide +kernel
theorem dX9_fits_34 : decode cX9_fits 34 = .ok (.astore_n 3, 1) := by decide +kernel
theorem dX9_fits_35 : decode cX9_fits 35 = .ok (.aload_n 0, 1) := by decide +kernel
theorem dX9_fits_36 : decode cX9_fits 36 = .ok (.getfield 23, 3) := by decide +kernel
theorem dX9_fits_39 : decode cX9_fits 39 = .ok (.iload_n 2, 1) := by decide +kernel
theorem dX9_fits_40 : decode cX9_fits 40 = .ok (.aaload, 1) := by decide +kernel
theorem dX9_fits_41 : decode cX9_fits 41 = .ok (.astore 4, 2) := by decide +kernel
theorem dX9_fits_43 : decode cX9_fits 43 = .ok (.aload_n 3, 1) := by decide +kernel
theorem dX9_fits_44 : decode cX9_fits 44 = .ok (.ifnull 8, 3) := by decide +kernel
theorem dX9_fits_47 : decode cX9_fits 47 = .ok (.aload 4, 2) := by decide +kernel
theorem dX9_fits_49 : decode cX9_fits 49 = .ok (.ifnonnull 11, 3) := by decide +kernel
theorem dX9_fits_52 : decode cX9_fits 52 = .ok (.new 83, 3) := by decide +kernel
theorem dX9_fits_55 : decode cX9_fits 55 = .ok (.dup, 1) := by decide +kernel
theorem dX9_fits_56 : decode cX9_fits 56 = .ok (.invokespecial 85, 3) := by decide +kernel
theorem dX9_fits_59 : decode cX9_fits 59 = .ok (.athrow, 1) := by decide +kernel
theorem dX9_fits_60 : decode cX9_fits 60 = .ok (.aload_n 0, 1) := by decide +kernel
theorem dX9_fits_61 : decode cX9_fits 61 = .ok (.getfield 58, 3) := by decide +kernel
theorem dX9_fits_64 : decode cX9_fits 64 = .ok (.aload_n 3, 1) := by decide +kernel
theorem dX9_fits_65 : decode cX9_fits 65 = .ok (.aload 4, 2) := by decide +kernel
theorem dX9_fits_67 : decode cX9_fits 67 = .ok (.invokevirtual 146, 3) := by decide +kernel
theorem dX9_fits_70 : decode cX9_fits 70 = .ok (.ireturn, 1) := by decide +kernel
theorem dX9_feedOne_0 : decode cX9_feedOne 0 = .ok (.bipush 24, 2) := by decide +kernel
theorem dX9_feedOne_2 : decode cX9_feedOne 2 = .ok (.istore_n 2, 1) := by decide +kernel
theorem dX9_feedOne_3 : decode cX9_feedOne 3 = .ok (.iload_n 2, 1) := by decide +kernel
theorem dX9_feedOne_4 : decode cX9_feedOne 4 = .ok (.ifCond .lt 24, 3) := by decide +kernel
theorem dX9_feedOne_7 : decode cX9_feedOne 7 = .ok (.aload_n 0, 1) := by decide +kernel
theorem dX9_feedOne_8 : decode cX9_feedOne 8 = .ok (.getfield 14, 3) := by decide +kernel
theorem dX9_feedOne_11 : decode cX9_feedOne 11 = .ok (.iload_n 1, 1) := by decide +kernel
theorem dX9_feedOne_12 : decode cX9_feedOne 12 = .ok (.iload_n 2, 1) := by decide +kernel
theorem dX9_feedOne_13 : decode cX9_feedOne 13 = .ok (.iushr, 1) := by decide +kernel
theorem dX9_feedOne_14 : decode cX9_feedOne 14 = .ok (.sipush 255, 3) := by decide +kernel
theorem dX9_feedOne_17 : decode cX9_feedOne 17 = .ok (.iand, 1) := by decide +kernel
theorem dX9_feedOne_18 : decode cX9_feedOne 18 = .ok (.invokevirtual 150, 3) := by decide +kernel
theorem dX9_feedOne_21 : decode cX9_feedOne 21 = .ok (.pop, 1) := by decide +kernel
theorem dX9_feedOne_22 : decode cX9_feedOne 22 = .ok (.iinc 2 (-8), 3) := by decide +kernel
theorem dX9_feedOne_25 : decode cX9_feedOne 25 = .ok (.goto (-22), 3) := by decide +kernel
theorem dX9_feedOne_28 : decode cX9_feedOne 28 = .ok (.return_, 1) := by decide +kernel
theorem dX9_bytesOf_0 : decode cX9_bytesOf 0 = .ok (.iload_n 1, 1) := by decide +kernel
theorem dX9_bytesOf_1 : decode cX9_bytesOf 1 = .ok (.ifCond .ne 13, 3) := by decide +kernel
theorem dX9_bytesOf_4 : decode cX9_bytesOf 4 = .ok (.aload_n 0, 1) := by decide +kernel
theorem dX9_bytesOf_5 : decode cX9_bytesOf 5 = .ok (.getfield 65, 3) := by decide +kernel
theorem dX9_bytesOf_8 : decode cX9_bytesOf 8 = .ok (.invokevirtual 154, 3) := by decide +kernel
theorem dX9_bytesOf_11 : decode cX9_bytesOf 11 = .ok (.goto 7, 3) := by decide +kernel
theorem dX9_bytesOf_14 : decode cX9_bytesOf 14 = .ok (.aload_n 0, 1) := by decide +kernel
theorem dX9_bytesOf_15 : decode cX9_bytesOf 15 = .ok (.getfield 18, 3) := by decide +kernel
theorem dX9_bytesOf_18 : decode cX9_bytesOf 18 = .ok (.areturn, 1) := by decide +kernel
theorem dX9_writer_0 : decode cX9_writer 0 = .ok (.aload_n 0, 1) := by decide +kernel
theorem dX9_writer_1 : decode cX9_writer 1 = .ok (.getfield 72, 3) := by decide +kernel
theorem dX9_writer_4 : decode cX9_writer 4 = .ok (.ifCond .lt 24, 3) := by decide +kernel
theorem dX9_writer_7 : decode cX9_writer 7 = .ok (.aload_n 0, 1) := by decide +kernel
theorem dX9_writer_8 : decode cX9_writer 8 = .ok (.getfield 72, 3) := by decide +kernel
theorem dX9_writer_11 : decode cX9_writer 11 = .ok (.bipush 8, 2) := by decide +kernel
theorem dX9_writer_13 : decode cX9_writer 13 = .ok (.if_icmp .ge 15, 3) := by decide +kernel
theorem dX9_writer_16 : decode cX9_writer 16 = .ok (.aload_n 0, 1) := by decide +kernel
theorem dX9_writer_17 : decode cX9_writer 17 = .ok (.getfield 23, 3) := by decide +kernel
theorem dX9_writer_20 : decode cX9_writer 20 = .ok (.aload_n 0, 1) := by decide +kernel
theorem dX9_writer_21 : decode cX9_writer 21 = .ok (.getfield 72, 3) := by decide +kernel
theorem dX9_writer_24 : decode cX9_writer 24 = .ok (.aaload, 1) := by decide +kernel
theorem dX9_writer_25 : decode cX9_writer 25 = .ok (.goto 4, 3) := by decide +kernel
theorem dX9_writer_28 : decode cX9_writer 28 = .ok (.aconst_null, 1) := by decide +kernel
theorem dX9_writer_29 : decode cX9_writer 29 = .ok (.areturn, 1) := by decide +kernel
theorem dJ11_isValidCodePoint_9a6ad_0 : decode cJ11_isValidCodePoint_9a6ad 0 = .ok (.iload_n 0, 1) := by decide +kernel
theorem dJ11_isValidCodePoint_9a6ad_1 : decode cJ11_isValidCodePoint_9a6ad 1 = .ok (.bipush 16, 2) := by decide +kernel
theorem dJ11_isValidCodePoint_9a6ad_3 : decode cJ11_isValidCodePoint_9a6ad 3 = .ok (.iushr, 1) := by decide +kernel
theorem dJ11_isValidCodePoint_9a6ad_4 : decode cJ11_isValidCodePoint_9a6ad 4 = .ok (.istore_n 1, 1) := by decide +kernel
theorem dJ11_isValidCodePoint_9a6ad_5 : decode cJ11_isValidCodePoint_9a6ad 5 = .ok (.iload_n 1, 1) := by decide +kernel
theorem dJ11_isValidCodePoint_9a6ad_6 : decode cJ11_isValidCodePoint_9a6ad 6 = .ok (.bipush 17, 2) := by decide +kernel
theorem dJ11_isValidCodePoint_9a6ad_8 : decode cJ11_isValidCodePoint_9a6ad 8 = .ok (.if_icmp .ge 7, 3) := by decide +kernel
theorem dJ11_isValidCodePoint_9a6ad_11 : decode cJ11_isValidCodePoint_9a6ad 11 = .ok (.iconst 1, 1) := by decide +kernel
theorem dJ11_isValidCodePoint_9a6ad_12 : decode cJ11_isValidCodePoint_9a6ad 12 = .ok (.goto 4, 3) := by decide +kernel
theorem dJ11_isValidCodePoint_9a6ad_15 : decode cJ11_isValidCodePoint_9a6ad 15 = .ok (.iconst 0, 1) := by decide +kernel
theorem dJ11_isValidCodePoint_9a6ad_16 : decode cJ11_isValidCodePoint_9a6ad 16 = .ok (.ireturn, 1) := by decide +kernel
theorem dJ11_highSurrogate_5068e_0 : decode cJ11_highSurrogate_5068e 0 = .ok (.iload_n 0, 1) := by decide +kernel
theorem dJ11_highSurrogate_5068e_1 : decode cJ11_highSurrogate_5068e 1 = .ok (.bipush 10, 2) := by decide +kernel
theorem dJ11_highSurrogate_5068e_3 : decode cJ11_highSurrogate_5068e 3 = .ok (.iushr, 1) := by decide +kernel
theorem dJ11_highSurrogate_5068e_4 : decode cJ11_highSurrogate_5068e 4 = .ok (.ldc 110, 2) := by decide +kernel
theorem dJ11_highSurrogate_5068e_6 : decode cJ11_highSurrogate_5068e 6 = .ok (.iadd, 1) := by decide +kernel
theorem dJ11_highSurrogate_5068e_7 : decode cJ11_highSurrogate_5068e 7 = .ok (.i2c, 1) := by decide +kernel
theorem dJ11_highSurrogate_5068e_8 : decode cJ11_highSurrogate_5068e 8 = .ok (.ireturn, 1) := by decide +kernel
theorem dJ11_lowSurrogate_5068e_0 : decode cJ11_lowSurrogate_5068e 0 = .ok (.iload_n 0, 1) := by decide +kernel
theorem dJ11_lowSurrogate_5068e_1 : decode cJ11_lowSurrogate_5068e 1 = .ok (.sipush 1023, 3) := by decide +kernel
theorem dJ11_lowSurrogate_5068e_4 : decode cJ11_lowSurrogate_5068e 4 = .ok (.iand, 1) := by decide +kernel
theorem dJ11_lowSurrogate_5068e_5 : decode cJ11_lowSurrogate_5068e 5 = .ok (.ldc 76, 2) := by decide +kernel
theorem dJ11_lowSurrogate_5068e_7 : decode cJ11_lowSurrogate_5068e 7 = .ok (.iadd, 1) := by decide +kernel
theorem dJ11_lowSurrogate_5068e_8 : decode cJ11_lowSurrogate_5068e 8 = .ok (.i2c, 1) := by decide +kernel
theorem dJ11_lowSurrogate_5068e_9 : decode cJ11_lowSurrogate_5068e 9 = .ok (.ireturn, 1) := by decide +kernel
theorem dJ9_abs_067f4_0 : decode cJ9_abs_067f4 0 = .ok (.lload_n 0, 1) := by decide +kernel
theorem dJ9_abs_067f4_1 : decode cJ9_abs_067f4 1 = .ok (.lconst 0, 1) := by decide +kernel
theorem dJ9_abs_067f4_2 : decode cJ9_abs_067f4 2 = .ok (.lcmp, 1) := by decide +kernel
theorem dJ9_abs_067f4_3 : decode cJ9_abs_067f4 3 = .ok (.ifCond .ge 8, 3) := by decide +kernel
theorem dJ9_abs_067f4_6 : decode cJ9_abs_067f4 6 = .ok (.lload_n 0, 1) := by decide +kernel
theorem dJ9_abs_067f4_7 : decode cJ9_abs_067f4 7 = .ok (.lneg, 1) := by decide +kernel
theorem dJ9_abs_067f4_8 : decode cJ9_abs_067f4 8 = .ok (.goto 4, 3) := by decide +kernel
theorem dJ9_abs_067f4_11 : decode cJ9_abs_067f4 11 = .ok (.lload_n 0, 1) := by decide +kernel
theorem dJ9_abs_067f4_12 : decode cJ9_abs_067f4 12 = .ok (.lreturn, 1) := by decide +kernel
theorem dJ9_max_7cf53_0 : decode cJ9_max_7cf53 0 = .ok (.iload_n 0, 1) := by decide +kernel
theorem dJ9_max_7cf53_1 : decode cJ9_max_7cf53 1 = .ok (.iload_n 1, 1) := by decide +kernel
theorem dJ9_max_7cf53_2 : decode cJ9_max_7cf53 2 = .ok (.if_icmp .lt 7, 3) := by decide +kernel
theorem dJ9_max_7cf53_5 : decode cJ9_max_7cf53 5 = .ok (.iload_n 0, 1) := by decide +kernel
theorem dJ9_max_7cf53_6 : decode cJ9_max_7cf53 6 = .ok (.goto 4, 3) := by decide +kernel
theorem dJ9_max_7cf53_9 : decode cJ9_max_7cf53 9 = .ok (.iload_n 1, 1) := by decide +kernel
theorem dJ9_max_7cf53_10 : decode cJ9_max_7cf53 10 = .ok (.ireturn, 1) := by decide +kernel
theorem dJ9_min_7cf53_0 : decode cJ9_min_7cf53 0 = .ok (.iload_n 0, 1) := by decide +kernel
theorem dJ9_min_7cf53_1 : decode cJ9_min_7cf53 1 = .ok (.iload_n 1, 1) := by decide +kernel
theorem dJ9_min_7cf53_2 : decode cJ9_min_7cf53 2 = .ok (.if_icmp .gt 7, 3) := by decide +kernel
theorem dJ9_min_7cf53_5 : decode cJ9_min_7cf53 5 = .ok (.iload_n 0, 1) := by decide +kernel
theorem dJ9_min_7cf53_6 : decode cJ9_min_7cf53 6 = .ok (.goto 4, 3) := by decide +kernel
theorem dJ9_min_7cf53_9 : decode cJ9_min_7cf53 9 = .ok (.iload_n 1, 1) := by decide +kernel
theorem dJ9_min_7cf53_10 : decode cJ9_min_7cf53 10 = .ok (.ireturn, 1) := by decide +kernel
theorem dJ0_length_8abf5_0 : decode cJ0_length_8abf5 0 = .ok (.aload_n 0, 1) := by decide +kernel
theorem dJ0_length_8abf5_1 : decode cJ0_length_8abf5 1 = .ok (.getfield 9, 3) := by decide +kernel
theorem dJ0_length_8abf5_4 : decode cJ0_length_8abf5 4 = .ok (.arraylength, 1) := by decide +kernel
theorem dJ0_length_8abf5_5 : decode cJ0_length_8abf5 5 = .ok (.aload_n 0, 1) := by decide +kernel
theorem dJ0_length_8abf5_6 : decode cJ0_length_8abf5 6 = .ok (.invokevirtual 335, 3) := by decide +kernel
theorem dJ0_length_8abf5_9 : decode cJ0_length_8abf5 9 = .ok (.ishr, 1) := by decide +kernel
theorem dJ0_length_8abf5_10 : decode cJ0_length_8abf5 10 = .ok (.ireturn, 1) := by decide +kernel
theorem dJ0_charAt_5068e_0 : decode cJ0_charAt_5068e 0 = .ok (.aload_n 0, 1) := by decide +kernel
theorem dJ0_charAt_5068e_1 : decode cJ0_charAt_5068e 1 = .ok (.invokevirtual 492, 3) := by decide +kernel
theorem dJ0_charAt_5068e_4 : decode cJ0_charAt_5068e 4 = .ok (.ifCond .eq 12, 3) := by decide +kernel
theorem dJ0_charAt_5068e_7 : decode cJ0_charAt_5068e 7 = .ok (.aload_n 0, 1) := by decide +kernel
theorem dJ0_charAt_5068e_8 : decode cJ0_charAt_5068e 8 = .ok (.getfield 9, 3) := by decide +kernel
theorem dJ0_charAt_5068e_11 : decode cJ0_charAt_5068e 11 = .ok (.iload_n 1, 1) := by decide +kernel
theorem dJ0_charAt_5068e_12 : decode cJ0_charAt_5068e 12 = .ok (.invokestatic 495, 3) := by decide +kernel
theorem dJ0_charAt_5068e_15 : decode cJ0_charAt_5068e 15 = .ok (.ireturn, 1) := by decide +kernel
theorem dJ0_charAt_5068e_16 : decode cJ0_charAt_5068e 16 = .ok (.aload_n 0, 1) := by decide +kernel
theorem dJ0_charAt_5068e_17 : decode cJ0_charAt_5068e 17 = .ok (.getfield 9, 3) := by decide +kernel
theorem dJ0_charAt_5068e_20 : decode cJ0_charAt_5068e 20 = .ok (.iload_n 1, 1) := by decide +kernel
theorem dJ0_charAt_5068e_21 : decode cJ0_charAt_5068e 21 = .ok (.invokestatic 498, 3) := by decide +kernel
theorem dJ0_charAt_5068e_24 : decode cJ0_charAt_5068e 24 = .ok (.ireturn, 1) := by decide +kernel
theorem dJ0_indexOf_0f7a4_0 : decode cJ0_indexOf_0f7a4 0 = .ok (.aload_n 0, 1) := by decide +kernel
theorem dJ0_indexOf_0f7a4_1 : decode cJ0_indexOf_0f7a4 1 = .ok (.iload_n 1, 1) := by decide +kernel
theorem dJ0_indexOf_0f7a4_2 : decode cJ0_indexOf_0f7a4 2 = .ok (.iconst 0, 1) := by decide +kernel
theorem dJ0_indexOf_0f7a4_3 : decode cJ0_indexOf_0f7a4 3 = .ok (.invokevirtual 633, 3) := by decide +kernel
theorem dJ0_indexOf_0f7a4_6 : decode cJ0_indexOf_0f7a4 6 = .ok (.ireturn, 1) := by decide +kernel
theorem dJ0_indexOf_7cf53_0 : decode cJ0_indexOf_7cf53 0 = .ok (.aload_n 0, 1) := by decide +kernel
theorem dJ0_indexOf_7cf53_1 : decode cJ0_indexOf_7cf53 1 = .ok (.invokevirtual 492, 3) := by decide +kernel
theorem dJ0_indexOf_7cf53_4 : decode cJ0_indexOf_7cf53 4 = .ok (.ifCond .eq 19, 3) := by decide +kernel
theorem dJ0_indexOf_7cf53_7 : decode cJ0_indexOf_7cf53 7 = .ok (.aload_n 0, 1) := by decide +kernel
theorem dJ0_indexOf_7cf53_8 : decode cJ0_indexOf_7cf53 8 = .ok (.getfield 9, 3) := by decide +kernel
theorem dJ0_indexOf_7cf53_11 : decode cJ0_indexOf_7cf53 11 = .ok (.iload_n 1, 1) := by decide +kernel
theorem dJ0_indexOf_7cf53_12 : decode cJ0_indexOf_7cf53 12 = .ok (.iload_n 2, 1) := by decide +kernel
theorem dJ0_indexOf_7cf53_13 : decode cJ0_indexOf_7cf53 13 = .ok (.aload_n 0, 1) := by decide +kernel
theorem dJ0_indexOf_7cf53_14 : decode cJ0_indexOf_7cf53 14 = .ok (.invokevirtual 505, 3) := by decide +kernel
theorem dJ0_indexOf_7cf53_17 : decode cJ0_indexOf_7cf53 17 = .ok (.invokestatic 637, 3) := by decide +kernel
theorem dJ0_indexOf_7cf53_20 : decode cJ0_indexOf_7cf53 20 = .ok (.goto 16, 3) := by decide +kernel
theorem dJ0_indexOf_7cf53_23 : decode cJ0_indexOf_7cf53 23 = .ok (.aload_n 0, 1) := by decide +kernel
theorem dJ0_indexOf_7cf53_24 : decode cJ0_indexOf_7cf53 24 = .ok (.getfield 9, 3) := by decide +kernel
theorem dJ0_indexOf_7cf53_27 : decode cJ0_indexOf_7cf53 27 = .ok (.iload_n 1, 1) := by decide +kernel
theorem dJ0_indexOf_7cf53_28 : decode cJ0_indexOf_7cf53 28 = .ok (.iload_n 2, 1) := by decide +kernel
theorem dJ0_indexOf_7cf53_29 : decode cJ0_indexOf_7cf53 29 = .ok (.aload_n 0, 1) := by decide +kernel
theorem dJ0_indexOf_7cf53_30 : decode cJ0_indexOf_7cf53 30 = .ok (.invokevirtual 505, 3) := by decide +kernel
theorem dJ0_indexOf_7cf53_33 : decode cJ0_indexOf_7cf53 33 = .ok (.invokestatic 640, 3) := by decide +kernel
theorem dJ0_indexOf_7cf53_36 : decode cJ0_indexOf_7cf53 36 = .ok (.ireturn, 1) := by decide +kernel
theorem dJ0_coder_7d493_0 : decode cJ0_coder_7d493 0 = .ok (.getstatic 38, 3) := by decide +kernel
theorem dJ0_coder_7d493_3 : decode cJ0_coder_7d493 3 = .ok (.ifCond .eq 10, 3) := by decide +kernel
theorem dJ0_coder_7d493_6 : decode cJ0_coder_7d493 6 = .ok (.aload_n 0, 1) := by decide +kernel
theorem dJ0_coder_7d493_7 : decode cJ0_coder_7d493 7 = .ok (.getfield 15, 3) := by decide +kernel
theorem dJ0_coder_7d493_10 : decode cJ0_coder_7d493 10 = .ok (.goto 4, 3) := by decide +kernel
theorem dJ0_coder_7d493_13 : decode cJ0_coder_7d493 13 = .ok (.iconst 1, 1) := by decide +kernel
theorem dJ0_coder_7d493_14 : decode cJ0_coder_7d493 14 = .ok (.ireturn, 1) := by decide +kernel
theorem dJ0_isLatin1_aae02_0 : decode cJ0_isLatin1_aae02 0 = .ok (.getstatic 38, 3) := by decide +kernel
theorem dJ0_isLatin1_aae02_3 : decode cJ0_isLatin1_aae02 3 = .ok (.ifCond .eq 14, 3) := by decide +kernel
theorem dJ0_isLatin1_aae02_6 : decode cJ0_isLatin1_aae02 6 = .ok (.aload_n 0, 1) := by decide +kernel
theorem dJ0_isLatin1_aae02_7 : decode cJ0_isLatin1_aae02 7 = .ok (.getfield 15, 3) := by decide +kernel
theorem dJ0_isLatin1_aae02_10 : decode cJ0_isLatin1_aae02 10 = .ok (.ifCond .ne 7, 3) := by decide +kernel
theorem dJ0_isLatin1_aae02_13 : decode cJ0_isLatin1_aae02 13 = .ok (.iconst 1, 1) := by decide +kernel
theorem dJ0_isLatin1_aae02_14 : decode cJ0_isLatin1_aae02 14 = .ok (.goto 4, 3) := by decide +kernel
theorem dJ0_isLatin1_aae02_17 : decode cJ0_isLatin1_aae02 17 = .ok (.iconst 0, 1) := by decide +kernel
theorem dJ0_isLatin1_aae02_18 : decode cJ0_isLatin1_aae02 18 = .ok (.ireturn, 1) := by decide +kernel
theorem dJ0_checkIndex_df160_0 : decode cJ0_checkIndex_df160 0 = .ok (.iload_n 0, 1) := by decide +kernel
theorem dJ0_checkIndex_df160_1 : decode cJ0_checkIndex_df160 1 = .ok (.iload_n 1, 1) := by decide +kernel
theorem dJ0_checkIndex_df160_2 : decode cJ0_checkIndex_df160 2 = .ok (.getstatic 1053, 3) := by decide +kernel
theorem dJ0_checkIndex_df160_5 : decode cJ0_checkIndex_df160 5 = .ok (.invokestatic 1059, 3) := by decide +kernel
theorem dJ0_checkIndex_df160_8 : decode cJ0_checkIndex_df160 8 = .ok (.pop, 1) := by decide +kernel
theorem dJ0_checkIndex_df160_9 : decode cJ0_checkIndex_df160 9 = .ok (.return_, 1) := by decide +kernel
theorem dJ0_checkBoundsBeginEnd_23922_0 : decode cJ0_checkBoundsBeginEnd_23922 0 = .ok (.iload_n 0, 1) := by decide +kernel
theorem dJ0_checkBoundsBeginEnd_23922_1 : decode cJ0_checkBoundsBeginEnd_23922 1 = .ok (.iload_n 1, 1) := by decide +kernel
theorem dJ0_checkBoundsBeginEnd_23922_2 : decode cJ0_checkBoundsBeginEnd_23922 2 = .ok (.iload_n 2, 1) := by decide +kernel
theorem dJ0_checkBoundsBeginEnd_23922_3 : decode cJ0_checkBoundsBeginEnd_23922 3 = .ok (.getstatic 1053, 3) := by decide +kernel
theorem dJ0_checkBoundsBeginEnd_23922_6 : decode cJ0_checkBoundsBeginEnd_23922 6 = .ok (.invokestatic 1062, 3) := by decide +kernel
theorem dJ0_checkBoundsBeginEnd_23922_9 : decode cJ0_checkBoundsBeginEnd_23922 9 = .ok (.pop, 1) := by decide +kernel
theorem dJ0_checkBoundsBeginEnd_23922_10 : decode cJ0_checkBoundsBeginEnd_23922 10 = .ok (.return_, 1) := by decide +kernel
theorem dJ1_charAt_3b067_0 : decode cJ1_charAt_3b067 0 = .ok (.iload_n 1, 1) := by decide +kernel
theorem dJ1_charAt_3b067_1 : decode cJ1_charAt_3b067 1 = .ok (.aload_n 0, 1) := by decide +kernel
theorem dJ1_charAt_3b067_2 : decode cJ1_charAt_3b067 2 = .ok (.arraylength, 1) := by decide +kernel
theorem dJ1_charAt_3b067_3 : decode cJ1_charAt_3b067 3 = .ok (.invokestatic 9, 3) := by decide +kernel
theorem dJ1_charAt_3b067_6 : decode cJ1_charAt_3b067 6 = .ok (.aload_n 0, 1) := by decide +kernel
theorem dJ1_charAt_3b067_7 : decode cJ1_charAt_3b067 7 = .ok (.iload_n 1, 1) := by decide +kernel
theorem dJ1_charAt_3b067_8 : decode cJ1_charAt_3b067 8 = .ok (.baload, 1) := by decide +kernel
theorem dJ1_charAt_3b067_9 : decode cJ1_charAt_3b067 9 = .ok (.sipush 255, 3) := by decide +kernel
theorem dJ1_charAt_3b067_12 : decode cJ1_charAt_3b067 12 = .ok (.iand, 1) := by decide +kernel
theorem dJ1_charAt_3b067_13 : decode cJ1_charAt_3b067 13 = .ok (.i2c, 1) := by decide +kernel
theorem dJ1_charAt_3b067_14 : decode cJ1_charAt_3b067 14 = .ok (.ireturn, 1) := by decide +kernel
theorem dJ1_canEncode_9a6ad_0 : decode cJ1_canEncode_9a6ad 0 = .ok (.iload_n 0, 1) := by decide +kernel
theorem dJ1_canEncode_9a6ad_1 : decode cJ1_canEncode_9a6ad 1 = .ok (.ifCond .lt 14, 3) := by decide +kernel
theorem dJ1_canEncode_9a6ad_4 : decode cJ1_canEncode_9a6ad 4 = .ok (.iload_n 0, 1) := by decide +kernel
theorem dJ1_canEncode_9a6ad_5 : decode cJ1_canEncode_9a6ad 5 = .ok (.sipush 255, 3) := by decide +kernel
theorem dJ1_canEncode_9a6ad_8 : decode cJ1_canEncode_9a6ad 8 = .ok (.if_icmp .gt 7, 3) := by decide +kernel
theorem dJ1_canEncode_9a6ad_11 : decode cJ1_canEncode_9a6ad 11 = .ok (.iconst 1, 1) := by decide +kernel
theorem dJ1_canEncode_9a6ad_12 : decode cJ1_canEncode_9a6ad 12 = .ok (.goto 4, 3) := by decide +kernel
theorem dJ1_canEncode_9a6ad_15 : decode cJ1_canEncode_9a6ad 15 = .ok (.iconst 0, 1) := by decide +kernel
theorem dJ1_canEncode_9a6ad_16 : decode cJ1_canEncode_9a6ad 16 = .ok (.ireturn, 1) := by decide +kernel
theorem dJ1_indexOf_4cfef_0 : decode cJ1_indexOf_4cfef 0 = .ok (.iload_n 1, 1) := by decide +kernel
theorem dJ1_indexOf_4cfef_1 : decode cJ1_indexOf_4cfef 1 = .ok (.invokestatic 88, 3) := by decide +kernel
theorem dJ1_indexOf_4cfef_4 : decode cJ1_indexOf_4cfef 4 = .ok (.ifCond .ne 5, 3) := by decide +kernel
theorem dJ1_indexOf_4cfef_7 : decode cJ1_indexOf_4cfef 7 = .ok (.iconst (-1), 1) := by decide +kernel
theorem dJ1_indexOf_4cfef_8 : decode cJ1_indexOf_4cfef 8 = .ok (.ireturn, 1) := by decide +kernel
theorem dJ1_indexOf_4cfef_9 : decode cJ1_indexOf_4cfef 9 = .ok (.iload_n 2, 1) := by decide +kernel
theorem dJ1_indexOf_4cfef_10 : decode cJ1_indexOf_4cfef 10 = .ok (.iconst 0, 1) := by decide +kernel
theorem dJ1_indexOf_4cfef_11 : decode cJ1_indexOf_4cfef 11 = .ok (.invokestatic 92, 3) := by decide +kernel
theorem dJ1_indexOf_4cfef_14 : decode cJ1_indexOf_4cfef 14 = .ok (.istore_n 2, 1) := by decide +kernel
theorem dJ1_indexOf_4cfef_15 : decode cJ1_indexOf_4cfef 15 = .ok (.iload_n 3, 1) := by decide +kernel
theorem dJ1_indexOf_4cfef_16 : decode cJ1_indexOf_4cfef 16 = .ok (.aload_n 0, 1) := by decide +kernel
theorem dJ1_indexOf_4cfef_17 : decode cJ1_indexOf_4cfef 17 = .ok (.arraylength, 1) := by decide +kernel
theorem dJ1_indexOf_4cfef_18 : decode cJ1_indexOf_4cfef 18 = .ok (.invokestatic 38, 3) := by decide +kernel
theorem dJ1_indexOf_4cfef_21 : decode cJ1_indexOf_4cfef 21 = .ok (.istore_n 3, 1) := by decide +kernel
theorem dJ1_indexOf_4cfef_22 : decode cJ1_indexOf_4cfef 22 = .ok (.iload_n 2, 1) := by decide +kernel
theorem dJ1_indexOf_4cfef_23 : decode cJ1_indexOf_4cfef 23 = .ok (.iload_n 3, 1) := by decide +kernel
theorem dJ1_indexOf_4cfef_24 : decode cJ1_indexOf_4cfef 24 = .ok (.if_icmp .lt 5, 3) := by decide +kernel
theorem dJ1_indexOf_4cfef_27 : decode cJ1_indexOf_4cfef 27 = .ok (.iconst (-1), 1) := by decide +kernel
theorem dJ1_indexOf_4cfef_28 : decode cJ1_indexOf_4cfef 28 = .ok (.ireturn, 1) := by decide +kernel
theorem dJ1_indexOf_4cfef_29 : decode cJ1_indexOf_4cfef 29 = .ok (.aload_n 0, 1) := by decide +kernel
theorem dJ1_indexOf_4cfef_30 : decode cJ1_indexOf_4cfef 30 = .ok (.iload_n 1, 1) := by decide +kernel
theorem dJ1_indexOf_4cfef_31 : decode cJ1_indexOf_4cfef 31 = .ok (.iload_n 2, 1) := by decide +kernel
theorem dJ1_indexOf_4cfef_32 : decode cJ1_indexOf_4cfef 32 = .ok (.iload_n 3, 1) := by decide +kernel
theorem dJ1_indexOf_4cfef_33 : decode cJ1_indexOf_4cfef 33 = .ok (.invokestatic 95, 3) := by decide +kernel
theorem dJ1_indexOf_4cfef_36 : decode cJ1_indexOf_4cfef 36 = .ok (.ireturn, 1) := by decide +kernel
theorem dJ1_indexOfChar_4cfef_0 : decode cJ1_indexOfChar_4cfef 0 = .ok (.iload_n 1, 1) := by decide +kernel
theorem dJ1_indexOfChar_4cfef_1 : decode cJ1_indexOfChar_4cfef 1 = .ok (.i2b, 1) := by decide +kernel
theorem dJ1_indexOfChar_4cfef_2 : decode cJ1_indexOfChar_4cfef 2 = .ok (.istore 4, 2) := by decide +kernel
theorem dJ1_indexOfChar_4cfef_4 : decode cJ1_indexOfChar_4cfef 4 = .ok (.iload_n 2, 1) := by decide +kernel
theorem dJ1_indexOfChar_4cfef_5 : decode cJ1_indexOfChar_4cfef 5 = .ok (.istore 5, 2) := by decide +kernel
theorem dJ1_indexOfChar_4cfef_7 : decode cJ1_indexOfChar_4cfef 7 = .ok (.iload 5, 2) := by decide +kernel
theorem dJ1_indexOfChar_4cfef_9 : decode cJ1_indexOfChar_4cfef 9 = .ok (.iload_n 3, 1) := by decide +kernel
theorem dJ1_indexOfChar_4cfef_10 : decode cJ1_indexOfChar_4cfef 10 = .ok (.if_icmp .ge 21, 3) := by decide +kernel
theorem dJ1_indexOfChar_4cfef_13 : decode cJ1_indexOfChar_4cfef 13 = .ok (.aload_n 0, 1) := by decide +kernel
theorem dJ1_indexOfChar_4cfef_14 : decode cJ1_indexOfChar_4cfef 14 = .ok (.iload 5, 2) := by decide +kernel
theorem dJ1_indexOfChar_4cfef_16 : decode cJ1_indexOfChar_4cfef 16 = .ok (.baload, 1) := by decide +kernel
theorem dJ1_indexOfChar_4cfef_17 : decode cJ1_indexOfChar_4cfef 17 = .ok (.iload 4, 2) := by decide +kernel
theorem dJ1_indexOfChar_4cfef_19 : decode cJ1_indexOfChar_4cfef 19 = .ok (.if_icmp .ne 6, 3) := by decide +kernel
theorem dJ1_indexOfChar_4cfef_22 : decode cJ1_indexOfChar_4cfef 22 = .ok (.iload 5, 2) := by decide +kernel
theorem dJ1_indexOfChar_4cfef_24 : decode cJ1_indexOfChar_4cfef 24 = .ok (.ireturn, 1) := by decide +kernel
theorem dJ1_indexOfChar_4cfef_25 : decode cJ1_indexOfChar_4cfef 25 = .ok (.iinc 5 1, 3) := by decide +kernel
theorem dJ1_indexOfChar_4cfef_28 : decode cJ1_indexOfChar_4cfef 28 = .ok (.goto (-21), 3) := by decide +kernel
theorem dJ1_indexOfChar_4cfef_31 : decode cJ1_indexOfChar_4cfef 31 = .ok (.iconst (-1), 1) := by decide +kernel
theorem dJ1_indexOfChar_4cfef_32 : decode cJ1_indexOfChar_4cfef 32 = .ok (.ireturn, 1) := by decide +kernel
theorem dJ2_getChar_3b067_0 : decode cJ2_getChar_3b067 0 = .ok (.getstatic 44, 3) := by decide +kernel
theorem dJ2_getChar_3b067_3 : decode cJ2_getChar_3b067 3 = .ok (.ifCond .ne 25, 3) := by decide +kernel
theorem dJ2_getChar_3b067_6 : decode cJ2_getChar_3b067 6 = .ok (.iload_n 1, 1) := by decide +kernel
theorem dJ2_getChar_3b067_7 : decode cJ2_getChar_3b067 7 = .ok (.ifCond .lt 11, 3) := by decide +kernel
theorem dJ2_getChar_3b067_10 : decode cJ2_getChar_3b067 10 = .ok (.iload_n 1, 1) := by decide +kernel
theorem dJ2_getChar_3b067_11 : decode cJ2_getChar_3b067 11 = .ok (.aload_n 0, 1) := by decide +kernel
theorem dJ2_getChar_3b067_12 : decode cJ2_getChar_3b067 12 = .ok (.invokestatic 48, 3) := by decide +kernel
theorem dJ2_getChar_3b067_15 : decode cJ2_getChar_3b067 15 = .ok (.if_icmp .lt 13, 3) := by decide +kernel
theorem dJ2_getChar_3b067_18 : decode cJ2_getChar_3b067 18 = .ok (.new 52, 3) := by decide +kernel
theorem dJ2_getChar_3b067_21 : decode cJ2_getChar_3b067 21 = .ok (.dup, 1) := by decide +kernel
theorem dJ2_getChar_3b067_22 : decode cJ2_getChar_3b067 22 = .ok (.ldc 54, 2) := by decide +kernel
theorem dJ2_getChar_3b067_24 : decode cJ2_getChar_3b067 24 = .ok (.invokespecial 56, 3) := by decide +kernel
theorem dJ2_getChar_3b067_27 : decode cJ2_getChar_3b067 27 = .ok (.athrow, 1) := by decide +kernel
theorem dJ2_getChar_3b067_28 : decode cJ2_getChar_3b067 28 = .ok (.iload_n 1, 1) := by decide +kernel
theorem dJ2_getChar_3b067_29 : decode cJ2_getChar_3b067 29 = .ok (.iconst 1, 1) := by decide +kernel
theorem dJ2_getChar_3b067_30 : decode cJ2_getChar_3b067 30 = .ok (.ishl, 1) := by decide +kernel
theorem dJ2_getChar_3b067_31 : decode cJ2_getChar_3b067 31 = .ok (.istore_n 1, 1) := by decide +kernel
theorem dJ2_getChar_3b067_32 : decode cJ2_getChar_3b067 32 = .ok (.aload_n 0, 1) := by decide +kernel
theorem dJ2_getChar_3b067_33 : decode cJ2_getChar_3b067 33 = .ok (.iload_n 1, 1) := by decide +kernel
theorem dJ2_getChar_3b067_34 : decode cJ2_getChar_3b067 34 = .ok (.iinc 1 1, 3) := by decide +kernel
theorem dJ2_getChar_3b067_37 : decode cJ2_getChar_3b067 37 = .ok (.baload, 1) := by decide +kernel
theorem dJ2_getChar_3b067_38 : decode cJ2_getChar_3b067 38 = .ok (.sipush 255, 3) := by decide +kernel
theorem dJ2_getChar_3b067_41 : decode cJ2_getChar_3b067 41 = .ok (.iand, 1) := by decide +kernel
theorem dJ2_getChar_3b067_42 : decode cJ2_getChar_3b067 42 = .ok (.getstatic 59, 3) := by decide +kernel
theorem dJ2_getChar_3b067_45 : decode cJ2_getChar_3b067 45 = .ok (.ishl, 1) := by decide +kernel
theorem dJ2_getChar_3b067_46 : decode cJ2_getChar_3b067 46 = .ok (.aload_n 0, 1) := by decide +kernel
theorem dJ2_getChar_3b067_47 : decode cJ2_getChar_3b067 47 = .ok (.iload_n 1, 1) := by decide +kernel
theorem dJ2_getChar_3b067_48 : decode cJ2_getChar_3b067 48 = .ok (.baload, 1) := by decide +kernel
theorem dJ2_getChar_3b067_49 : decode cJ2_getChar_3b067 49 = .ok (.sipush 255, 3) := by decide +kernel
theorem dJ2_getChar_3b067_52 : decode cJ2_getChar_3b067 52 = .ok (.iand, 1) := by decide +kernel
theorem dJ2_getChar_3b067_53 : decode cJ2_getChar_3b067 53 = .ok (.getstatic 63, 3) := by decide +kernel
theorem dJ2_getChar_3b067_56 : decode cJ2_getChar_3b067 56 = .ok (.ishl, 1) := by decide +kernel
theorem dJ2_getChar_3b067_57 : decode cJ2_getChar_3b067 57 = .ok (.ior, 1) := by decide +kernel
theorem dJ2_getChar_3b067_58 : decode cJ2_getChar_3b067 58 = .ok (.i2c, 1) := by decide +kernel
theorem dJ2_getChar_3b067_59 : decode cJ2_getChar_3b067 59 = .ok (.ireturn, 1) := by decide +kernel
theorem dJ2_length_9d52b_0 : decode cJ2_length_9d52b 0 = .ok (.aload_n 0, 1) := by decide +kernel
theorem dJ2_length_9d52b_1 : decode cJ2_length_9d52b 1 = .ok (.arraylength, 1) := by decide +kernel
theorem dJ2_length_9d52b_2 : decode cJ2_length_9d52b 2 = .ok (.iconst 1, 1) := by decide +kernel
theorem dJ2_length_9d52b_3 : decode cJ2_length_9d52b 3 = .ok (.ishr, 1) := by decide +kernel
theorem dJ2_length_9d52b_4 : decode cJ2_length_9d52b 4 = .ok (.ireturn, 1) := by decide +kernel
theorem dJ2_indexOf_4cfef_0 : decode cJ2_indexOf_4cfef 0 = .ok (.iload_n 2, 1) := by decide +kernel
theorem dJ2_indexOf_4cfef_1 : decode cJ2_indexOf_4cfef 1 = .ok (.iconst 0, 1) := by decide +kernel
theorem dJ2_indexOf_4cfef_2 : decode cJ2_indexOf_4cfef 2 = .ok (.invokestatic 224, 3) := by decide +kernel
theorem dJ2_indexOf_4cfef_5 : decode cJ2_indexOf_4cfef 5 = .ok (.istore_n 2, 1) := by decide +kernel
theorem dJ2_indexOf_4cfef_6 : decode cJ2_indexOf_4cfef 6 = .ok (.iload_n 3, 1) := by decide +kernel
theorem dJ2_indexOf_4cfef_7 : decode cJ2_indexOf_4cfef 7 = .ok (.aload_n 0, 1) := by decide +kernel
theorem dJ2_indexOf_4cfef_8 : decode cJ2_indexOf_4cfef 8 = .ok (.arraylength, 1) := by decide +kernel
theorem dJ2_indexOf_4cfef_9 : decode cJ2_indexOf_4cfef 9 = .ok (.iconst 1, 1) := by decide +kernel
theorem dJ2_indexOf_4cfef_10 : decode cJ2_indexOf_4cfef 10 = .ok (.ishr, 1) := by decide +kernel
theorem dJ2_indexOf_4cfef_11 : decode cJ2_indexOf_4cfef 11 = .ok (.invokestatic 183, 3) := by decide +kernel
theorem dJ2_indexOf_4cfef_14 : decode cJ2_indexOf_4cfef 14 = .ok (.istore_n 3, 1) := by decide +kernel
theorem dJ2_indexOf_4cfef_15 : decode cJ2_indexOf_4cfef 15 = .ok (.iload_n 2, 1) := by decide +kernel
theorem dJ2_indexOf_4cfef_16 : decode cJ2_indexOf_4cfef 16 = .ok (.iload_n 3, 1) := by decide +kernel
theorem dJ2_indexOf_4cfef_17 : decode cJ2_indexOf_4cfef 17 = .ok (.if_icmp .lt 5, 3) := by decide +kernel
theorem dJ2_indexOf_4cfef_20 : decode cJ2_indexOf_4cfef 20 = .ok (.iconst (-1), 1) := by decide +kernel
theorem dJ2_indexOf_4cfef_21 : decode cJ2_indexOf_4cfef 21 = .ok (.ireturn, 1) := by decide +kernel
theorem dJ2_indexOf_4cfef_22 : decode cJ2_indexOf_4cfef 22 = .ok (.iload_n 1, 1) := by decide +kernel
theorem dJ2_indexOf_4cfef_23 : decode cJ2_indexOf_4cfef 23 = .ok (.ldc 227, 2) := by decide +kernel
theorem dJ2_indexOf_4cfef_25 : decode cJ2_indexOf_4cfef 25 = .ok (.if_icmp .ge 11, 3) := by decide +kernel
theorem dJ2_indexOf_4cfef_28 : decode cJ2_indexOf_4cfef 28 = .ok (.aload_n 0, 1) := by decide +kernel
theorem dJ2_indexOf_4cfef_29 : decode cJ2_indexOf_4cfef 29 = .ok (.iload_n 1, 1) := by decide +kernel
theorem dJ2_indexOf_4cfef_30 : decode cJ2_indexOf_4cfef 30 = .ok (.iload_n 2, 1) := by decide +kernel
theorem dJ2_indexOf_4cfef_31 : decode cJ2_indexOf_4cfef 31 = .ok (.iload_n 3, 1) := by decide +kernel
theorem dJ2_indexOf_4cfef_32 : decode cJ2_indexOf_4cfef 32 = .ok (.invokestatic 228, 3) := by decide +kernel
theorem dJ2_indexOf_4cfef_35 : decode cJ2_indexOf_4cfef 35 = .ok (.ireturn, 1) := by decide +kernel
theorem dJ2_indexOf_4cfef_36 : decode cJ2_indexOf_4cfef 36 = .ok (.aload_n 0, 1) := by decide +kernel
theorem dJ2_indexOf_4cfef_37 : decode cJ2_indexOf_4cfef 37 = .ok (.iload_n 1, 1) := by decide +kernel
theorem dJ2_indexOf_4cfef_38 : decode cJ2_indexOf_4cfef 38 = .ok (.iload_n 2, 1) := by decide +kernel
theorem dJ2_indexOf_4cfef_39 : decode cJ2_indexOf_4cfef 39 = .ok (.iload_n 3, 1) := by decide +kernel
theorem dJ2_indexOf_4cfef_40 : decode cJ2_indexOf_4cfef 40 = .ok (.invokestatic 232, 3) := by decide +kernel
theorem dJ2_indexOf_4cfef_43 : decode cJ2_indexOf_4cfef 43 = .ok (.ireturn, 1) := by decide +kernel
theorem dJ2_indexOfChar_4cfef_0 : decode cJ2_indexOfChar_4cfef 0 = .ok (.iload_n 2, 1) := by decide +kernel
theorem dJ2_indexOfChar_4cfef_1 : decode cJ2_indexOfChar_4cfef 1 = .ok (.iload_n 3, 1) := by decide +kernel
theorem dJ2_indexOfChar_4cfef_2 : decode cJ2_indexOfChar_4cfef 2 = .ok (.aload_n 0, 1) := by decide +kernel
theorem dJ2_indexOfChar_4cfef_3 : decode cJ2_indexOfChar_4cfef 3 = .ok (.invokestatic 96, 3) := by decide +kernel
theorem dJ2_indexOfChar_4cfef_6 : decode cJ2_indexOfChar_4cfef 6 = .ok (.aload_n 0, 1) := by decide +kernel
theorem dJ2_indexOfChar_4cfef_7 : decode cJ2_indexOfChar_4cfef 7 = .ok (.iload_n 1, 1) := by decide +kernel
theorem dJ2_indexOfChar_4cfef_8 : decode cJ2_indexOfChar_4cfef 8 = .ok (.iload_n 2, 1) := by decide +kernel
theorem dJ2_indexOfChar_4cfef_9 : decode cJ2_indexOfChar_4cfef 9 = .ok (.iload_n 3, 1) := by decide +kernel
theorem dJ2_indexOfChar_4cfef_10 : decode cJ2_indexOfChar_4cfef 10 = .ok (.invokestatic 244, 3) := by decide +kernel
theorem dJ2_indexOfChar_4cfef_13 : decode cJ2_indexOfChar_4cfef 13 = .ok (.ireturn, 1) := by decide +kernel
theorem dJ2_indexOfCharUnsafe_4cfef_0 : decode cJ2_indexOfCharUnsafe_4cfef 0 = .ok (.iload_n 2, 1) := by decide +kernel
theorem dJ2_indexOfCharUnsafe_4cfef_1 : decode cJ2_indexOfCharUnsafe_4cfef 1 = .ok (.istore 4, 2) := by decide +kernel
theorem dJ2_indexOfCharUnsafe_4cfef_3 : decode cJ2_indexOfCharUnsafe_4cfef 3 = .ok (.iload 4, 2) := by decide +kernel
theorem dJ2_indexOfCharUnsafe_4cfef_5 : decode cJ2_indexOfCharUnsafe_4cfef 5 = .ok (.iload_n 3, 1) := by decide +kernel
theorem dJ2_indexOfCharUnsafe_4cfef_6 : decode cJ2_indexOfCharUnsafe_4cfef 6 = .ok (.if_icmp .ge 22, 3) := by decide +kernel
theorem dJ2_indexOfCharUnsafe_4cfef_9 : decode cJ2_indexOfCharUnsafe_4cfef 9 = .ok (.aload_n 0, 1) := by decide +kernel
theorem dJ2_indexOfCharUnsafe_4cfef_10 : decode cJ2_indexOfCharUnsafe_4cfef 10 = .ok (.iload 4, 2) := by decide +kernel
theorem dJ2_indexOfCharUnsafe_4cfef_12 : decode cJ2_indexOfCharUnsafe_4cfef 12 = .ok (.invokestatic 71, 3) := by decide +kernel
theorem dJ2_indexOfCharUnsafe_4cfef_15 : decode cJ2_indexOfCharUnsafe_4cfef 15 = .ok (.iload_n 1, 1) := by decide +kernel
theorem dJ2_indexOfCharUnsafe_4cfef_16 : decode cJ2_indexOfCharUnsafe_4cfef 16 = .ok (.if_icmp .ne 6, 3) := by decide +kernel
theorem dJ2_indexOfCharUnsafe_4cfef_19 : decode cJ2_indexOfCharUnsafe_4cfef 19 = .ok (.iload 4, 2) := by decide +kernel
theorem dJ2_indexOfCharUnsafe_4cfef_21 : decode cJ2_indexOfCharUnsafe_4cfef 21 = .ok (.ireturn, 1) := by decide +kernel
theorem dJ2_indexOfCharUnsafe_4cfef_22 : decode cJ2_indexOfCharUnsafe_4cfef 22 = .ok (.iinc 4 1, 3) := by decide +kernel
theorem dJ2_indexOfCharUnsafe_4cfef_25 : decode cJ2_indexOfCharUnsafe_4cfef 25 = .ok (.goto (-22), 3) := by decide +kernel
theorem dJ2_indexOfCharUnsafe_4cfef_28 : decode cJ2_indexOfCharUnsafe_4cfef 28 = .ok (.iconst (-1), 1) := by decide +kernel
theorem dJ2_indexOfCharUnsafe_4cfef_29 : decode cJ2_indexOfCharUnsafe_4cfef 29 = .ok (.ireturn, 1) := by decide +kernel
theorem dJ2_indexOfSupplementary_4cfef_0 : decode cJ2_indexOfSupplementary_4cfef 0 = .ok (.iload_n 1, 1) := by decide +kernel
theorem dJ2_indexOfSupplementary_4cfef_1 : decode cJ2_indexOfSupplementary_4cfef 1 = .ok (.invokestatic 164, 3) := by decide +kernel
theorem dJ2_indexOfSupplementary_4cfef_4 : decode cJ2_indexOfSupplementary_4cfef 4 = .ok (.ifCond .eq 65, 3) := by decide +kernel
theorem dJ2_indexOfSupplementary_4cfef_7 : decode cJ2_indexOfSupplementary_4cfef 7 = .ok (.iload_n 1, 1) := by decide +kernel
theorem dJ2_indexOfSupplementary_4cfef_8 : decode cJ2_indexOfSupplementary_4cfef 8 = .ok (.invokestatic 157, 3) := by decide +kernel
theorem dJ2_indexOfSupplementary_4cfef_11 : decode cJ2_indexOfSupplementary_4cfef 11 = .ok (.istore 4, 2) := by decide +kernel
theorem dJ2_indexOfSupplementary_4cfef_13 : decode cJ2_indexOfSupplementary_4cfef 13 = .ok (.iload_n 1, 1) := by decide +kernel
theorem dJ2_indexOfSupplementary_4cfef_14 : decode cJ2_indexOfSupplementary_4cfef 14 = .ok (.invokestatic 161, 3) := by decide +kernel
theorem dJ2_indexOfSupplementary_4cfef_17 : decode cJ2_indexOfSupplementary_4cfef 17 = .ok (.istore 5, 2) := by decide +kernel
theorem dJ2_indexOfSupplementary_4cfef_19 : decode cJ2_indexOfSupplementary_4cfef 19 = .ok (.iload_n 2, 1) := by decide +kernel
theorem dJ2_indexOfSupplementary_4cfef_20 : decode cJ2_indexOfSupplementary_4cfef 20 = .ok (.iload_n 3, 1) := by decide +kernel
theorem dJ2_indexOfSupplementary_4cfef_21 : decode cJ2_indexOfSupplementary_4cfef 21 = .ok (.aload_n 0, 1) := by decide +kernel
theorem dJ2_indexOfSupplementary_4cfef_22 : decode cJ2_indexOfSupplementary_4cfef 22 = .ok (.invokestatic 96, 3) := by decide +kernel
theorem dJ2_indexOfSupplementary_4cfef_25 : decode cJ2_indexOfSupplementary_4cfef 25 = .ok (.iload_n 2, 1) := by decide +kernel
theorem dJ2_indexOfSupplementary_4cfef_26 : decode cJ2_indexOfSupplementary_4cfef 26 = .ok (.istore 6, 2) := by decide +kernel
theorem dJ2_indexOfSupplementary_4cfef_28 : decode cJ2_indexOfSupplementary_4cfef 28 = .ok (.iload 6, 2) := by decide +kernel
theorem dJ2_indexOfSupplementary_4cfef_30 : decode cJ2_indexOfSupplementary_4cfef 30 = .ok (.iload_n 3, 1) := by decide +kernel
theorem dJ2_indexOfSupplementary_4cfef_31 : decode cJ2_indexOfSupplementary_4cfef 31 = .ok (.iconst 1, 1) := by decide +kernel
theorem dJ2_indexOfSupplementary_4cfef_32 : decode cJ2_indexOfSupplementary_4cfef 32 = .ok (.isub, 1) := by decide +kernel
theorem dJ2_indexOfSupplementary_4cfef_33 : decode cJ2_indexOfSupplementary_4cfef 33 = .ok (.if_icmp .ge 36, 3) := by decide +kernel
theorem dJ2_indexOfSupplementary_4cfef_36 : decode cJ2_indexOfSupplementary_4cfef 36 = .ok (.aload_n 0, 1) := by decide +kernel
theorem dJ2_indexOfSupplementary_4cfef_37 : decode cJ2_indexOfSupplementary_4cfef 37 = .ok (.iload 6, 2) := by decide +kernel
theorem dJ2_indexOfSupplementary_4cfef_39 : decode cJ2_indexOfSupplementary_4cfef 39 = .ok (.invokestatic 71, 3) := by decide +kernel
theorem dJ2_indexOfSupplementary_4cfef_42 : decode cJ2_indexOfSupplementary_4cfef 42 = .ok (.iload 4, 2) := by decide +kernel
theorem dJ2_indexOfSupplementary_4cfef_44 : decode cJ2_indexOfSupplementary_4cfef 44 = .ok (.if_icmp .ne 19, 3) := by decide +kernel
theorem dJ2_indexOfSupplementary_4cfef_47 : decode cJ2_indexOfSupplementary_4cfef 47 = .ok (.aload_n 0, 1) := by decide +kernel
theorem dJ2_indexOfSupplementary_4cfef_48 : decode cJ2_indexOfSupplementary_4cfef 48 = .ok (.iload 6, 2) := by decide +kernel
theorem dJ2_indexOfSupplementary_4cfef_50 : decode cJ2_indexOfSupplementary_4cfef 50 = .ok (.iconst 1, 1) := by decide +kernel
theorem dJ2_indexOfSupplementary_4cfef_51 : decode cJ2_indexOfSupplementary_4cfef 51 = .ok (.iadd, 1) := by decide +kernel
theorem dJ2_indexOfSupplementary_4cfef_52 : decode cJ2_indexOfSupplementary_4cfef 52 = .ok (.invokestatic 71, 3) := by decide +kernel
theorem dJ2_indexOfSupplementary_4cfef_55 : decode cJ2_indexOfSupplementary_4cfef 55 = .ok (.iload 5, 2) := by decide +kernel
theorem dJ2_indexOfSupplementary_4cfef_57 : decode cJ2_indexOfSupplementary_4cfef 57 = .ok (.if_icmp .ne 6, 3) := by decide +kernel
theorem dJ2_indexOfSupplementary_4cfef_60 : decode cJ2_indexOfSupplementary_4cfef 60 = .ok (.iload 6, 2) := by decide +kernel
theorem dJ2_indexOfSupplementary_4cfef_62 : decode cJ2_indexOfSupplementary_4cfef 62 = .ok (.ireturn, 1) := by decide +kernel
theorem dJ2_indexOfSupplementary_4cfef_63 : decode cJ2_indexOfSupplementary_4cfef 63 = .ok (.iinc 6 1, 3) := by decide +kernel
theorem dJ2_indexOfSupplementary_4cfef_66 : decode cJ2_indexOfSupplementary_4cfef 66 = .ok (.goto (-38), 3) := by decide +kernel
theorem dJ2_indexOfSupplementary_4cfef_69 : decode cJ2_indexOfSupplementary_4cfef 69 = .ok (.iconst (-1), 1) := by decide +kernel
theorem dJ2_indexOfSupplementary_4cfef_70 : decode cJ2_indexOfSupplementary_4cfef 70 = .ok (.ireturn, 1) := by decide +kernel
theorem dJ2_charAt_3b067_0 : decode cJ2_charAt_3b067 0 = .ok (.iload_n 1, 1) := by decide +kernel
theorem dJ2_charAt_3b067_1 : decode cJ2_charAt_3b067 1 = .ok (.aload_n 0, 1) := by decide +kernel
theorem dJ2_charAt_3b067_2 : decode cJ2_charAt_3b067 2 = .ok (.invokestatic 67, 3) := by decide +kernel
theorem dJ2_charAt_3b067_5 : decode cJ2_charAt_3b067 5 = .ok (.aload_n 0, 1) := by decide +kernel
theorem dJ2_charAt_3b067_6 : decode cJ2_charAt_3b067 6 = .ok (.iload_n 1, 1) := by decide +kernel
theorem dJ2_charAt_3b067_7 : decode cJ2_charAt_3b067 7 = .ok (.invokestatic 71, 3) := by decide +kernel
theorem dJ2_charAt_3b067_10 : decode cJ2_charAt_3b067 10 = .ok (.ireturn, 1) := by decide +kernel
theorem dJ2_checkIndex_2214a_0 : decode cJ2_checkIndex_2214a 0 = .ok (.iload_n 0, 1) := by decide +kernel
theorem dJ2_checkIndex_2214a_1 : decode cJ2_checkIndex_2214a 1 = .ok (.aload_n 1, 1) := by decide +kernel
theorem dJ2_checkIndex_2214a_2 : decode cJ2_checkIndex_2214a 2 = .ok (.invokestatic 48, 3) := by decide +kernel
theorem dJ2_checkIndex_2214a_5 : decode cJ2_checkIndex_2214a 5 = .ok (.invokestatic 414, 3) := by decide +kernel
theorem dJ2_checkIndex_2214a_8 : decode cJ2_checkIndex_2214a 8 = .ok (.return_, 1) := by decide +kernel
theorem dJ2_checkBoundsBeginEnd_d044e_0 : decode cJ2_checkBoundsBeginEnd_d044e 0 = .ok (.iload_n 0, 1) := by decide +kernel
theorem dJ2_checkBoundsBeginEnd_d044e_1 : decode cJ2_checkBoundsBeginEnd_d044e 1 = .ok (.iload_n 1, 1) := by decide +kernel
theorem dJ2_checkBoundsBeginEnd_d044e_2 : decode cJ2_checkBoundsBeginEnd_d044e 2 = .ok (.aload_n 2, 1) := by decide +kernel
theorem dJ2_checkBoundsBeginEnd_d044e_3 : decode cJ2_checkBoundsBeginEnd_d044e 3 = .ok (.invokestatic 48, 3) := by decide +kernel
theorem dJ2_checkBoundsBeginEnd_d044e_6 : decode cJ2_checkBoundsBeginEnd_d044e 6 = .ok (.invokestatic 241, 3) := by decide +kernel
theorem dJ2_checkBoundsBeginEnd_d044e_9 : decode cJ2_checkBoundsBeginEnd_d044e 9 = .ok (.return_, 1) := by decide +kernel
theorem dJ3_checkIndex_8e157_0 : decode cJ3_checkIndex_8e157 0 = .ok (.iload_n 0, 1) := by decide +kernel
theorem dJ3_checkIndex_8e157_1 : decode cJ3_checkIndex_8e157 1 = .ok (.ifCond .lt 8, 3) := by decide +kernel
theorem dJ3_checkIndex_8e157_4 : decode cJ3_checkIndex_8e157 4 = .ok (.iload_n 0, 1) := by decide +kernel
theorem dJ3_checkIndex_8e157_5 : decode cJ3_checkIndex_8e157 5 = .ok (.iload_n 1, 1) := by decide +kernel
theorem dJ3_checkIndex_8e157_6 : decode cJ3_checkIndex_8e157 6 = .ok (.if_icmp .lt 10, 3) := by decide +kernel
theorem dJ3_checkIndex_8e157_9 : decode cJ3_checkIndex_8e157 9 = .ok (.aload_n 2, 1) := by decide +kernel
theorem dJ3_checkIndex_8e157_10 : decode cJ3_checkIndex_8e157 10 = .ok (.iload_n 0, 1) := by decide +kernel
theorem dJ3_checkIndex_8e157_11 : decode cJ3_checkIndex_8e157 11 = .ok (.iload_n 1, 1) := by decide +kernel
theorem dJ3_checkIndex_8e157_12 : decode cJ3_checkIndex_8e157 12 = .ok (.invokestatic 95, 3) := by decide +kernel
theorem dJ3_checkIndex_8e157_15 : decode cJ3_checkIndex_8e157 15 = .ok (.athrow, 1) := by decide +kernel
theorem dJ3_checkIndex_8e157_16 : decode cJ3_checkIndex_8e157 16 = .ok (.iload_n 0, 1) := by decide +kernel
theorem dJ3_checkIndex_8e157_17 : decode cJ3_checkIndex_8e157 17 = .ok (.ireturn, 1) := by decide +kernel
theorem dJ3_checkFromToIndex_8c36e_0 : decode cJ3_checkFromToIndex_8c36e 0 = .ok (.iload_n 0, 1) := by decide +kernel
theorem dJ3_checkFromToIndex_8c36e_1 : decode cJ3_checkFromToIndex_8c36e 1 = .ok (.ifCond .lt 13, 3) := by decide +kernel
theorem dJ3_checkFromToIndex_8c36e_4 : decode cJ3_checkFromToIndex_8c36e 4 = .ok (.iload_n 0, 1) := by decide +kernel
theorem dJ3_checkFromToIndex_8c36e_5 : decode cJ3_checkFromToIndex_8c36e 5 = .ok (.iload_n 1, 1) := by decide +kernel
theorem dJ3_checkFromToIndex_8c36e_6 : decode cJ3_checkFromToIndex_8c36e 6 = .ok (.if_icmp .gt 8, 3) := by decide +kernel
theorem dJ3_checkFromToIndex_8c36e_9 : decode cJ3_checkFromToIndex_8c36e 9 = .ok (.iload_n 1, 1) := by decide +kernel
theorem dJ3_checkFromToIndex_8c36e_10 : decode cJ3_checkFromToIndex_8c36e 10 = .ok (.iload_n 2, 1) := by decide +kernel
theorem dJ3_checkFromToIndex_8c36e_11 : decode cJ3_checkFromToIndex_8c36e 11 = .ok (.if_icmp .le 11, 3) := by decide +kernel
theorem dJ3_checkFromToIndex_8c36e_14 : decode cJ3_checkFromToIndex_8c36e 14 = .ok (.aload_n 3, 1) := by decide +kernel
theorem dJ3_checkFromToIndex_8c36e_15 : decode cJ3_checkFromToIndex_8c36e 15 = .ok (.iload_n 0, 1) := by decide +kernel
theorem dJ3_checkFromToIndex_8c36e_16 : decode cJ3_checkFromToIndex_8c36e 16 = .ok (.iload_n 1, 1) := by decide +kernel
theorem dJ3_checkFromToIndex_8c36e_17 : decode cJ3_checkFromToIndex_8c36e 17 = .ok (.iload_n 2, 1) := by decide +kernel
theorem dJ3_checkFromToIndex_8c36e_18 : decode cJ3_checkFromToIndex_8c36e 18 = .ok (.invokestatic 99, 3) := by decide +kernel
theorem dJ3_checkFromToIndex_8c36e_21 : decode cJ3_checkFromToIndex_8c36e 21 = .ok (.athrow, 1) := by decide +kernel
theorem dJ3_checkFromToIndex_8c36e_22 : decode cJ3_checkFromToIndex_8c36e 22 = .ok (.iload_n 0, 1) := by decide +kernel
theorem dJ3_checkFromToIndex_8c36e_23 : decode cJ3_checkFromToIndex_8c36e 23 = .ok (.ireturn, 1) := by decide +kernel
theorem dL_feed_0 : decode cL_feed 0 = .ok (.aload 6, 2) := by decide +kernel
theorem dL_feed_2 : decode cL_feed 2 = .ok (.iconst 0, 1) := by decide +kernel
theorem dL_feed_3 : decode cL_feed 3 = .ok (.aload_n 0, 1) := by decide +kernel
theorem dL_feed_4 : decode cL_feed 4 = .ok (.iload_n 1, 1) := by decide +kernel
theorem dL_feed_5 : decode cL_feed 5 = .ok (.iload_n 2, 1) := by decide +kernel
theorem dL_feed_6 : decode cL_feed 6 = .ok (.iload_n 3, 1) := by decide +kernel
theorem dL_feed_7 : decode cL_feed 7 = .ok (.iload 4, 2) := by decide +kernel
theorem dL_feed_9 : decode cL_feed 9 = .ok (.iload 5, 2) := by decide +kernel
theorem dL_feed_11 : decode cL_feed 11 = .ok (.invokevirtual 7, 3) := by decide +kernel
theorem dL_feed_14 : decode cL_feed 14 = .ok (.i2l, 1) := by decide +kernel
theorem dL_feed_15 : decode cL_feed 15 = .ok (.lastore, 1) := by decide +kernel
theorem dL_feed_16 : decode cL_feed 16 = .ok (.goto 7, 3) := by decide +kernel
theorem dL_feed_19 : decode cL_feed 19 = .ok (.astore 7, 2) := by decide +kernel
theorem dL_feed_21 : decode cL_feed 21 = .ok (.iconst 1, 1) := by decide +kernel
theorem dL_feed_22 : decode cL_feed 22 = .ok (.ireturn, 1) := by decide +kernel
theorem dL_feed_23 : decode cL_feed 23 = .ok (.iconst 0, 1) := by decide +kernel
theorem dL_feed_24 : decode cL_feed 24 = .ok (.ireturn, 1) := by decide +kernel
theorem dL_end_0 : decode cL_end 0 = .ok (.aload_n 0, 1) := by decide +kernel
theorem dL_end_1 : decode cL_end 1 = .ok (.iload_n 1, 1) := by decide +kernel
theorem dL_end_2 : decode cL_end 2 = .ok (.invokevirtual 15, 3) := by decide +kernel
theorem dL_end_5 : decode cL_end 5 = .ok (.goto 6, 3) := by decide +kernel
theorem dL_end_8 : decode cL_end 8 = .ok (.astore_n 2, 1) := by decide +kernel
theorem dL_end_9 : decode cL_end 9 = .ok (.iconst 1, 1) := by decide +kernel
theorem dL_end_10 : decode cL_end 10 = .ok (.ireturn, 1) := by decide +kernel
theorem dL_end_11 : decode cL_end 11 = .ok (.iconst 0, 1) := by decide +kernel
theorem dL_end_12 : decode cL_end 12 = .ok (.ireturn, 1) := by decide +kernel
theorem dL_schema_0 : decode cL_schema 0 = .ok (.aload_n 2, 1) := by decide +kernel
theorem dL_schema_1 : decode cL_schema 1 = .ok (.iconst 0, 1) := by decide +kernel
theorem dL_schema_2 : decode cL_schema 2 = .ok (.aload_n 0, 1) := by decide +kernel
theorem dL_schema_3 : decode cL_schema 3 = .ok (.iload_n 1, 1) := by decide +kernel
theorem dL_schema_4 : decode cL_schema 4 = .ok (.invokevirtual 21, 3) := by decide +kernel
theorem dL_schema_7 : decode cL_schema 7 = .ok (.i2l, 1) := by decide +kernel
theorem dL_schema_8 : decode cL_schema 8 = .ok (.lastore, 1) := by decide +kernel
theorem dL_schema_9 : decode cL_schema 9 = .ok (.goto 6, 3) := by decide +kernel
theorem dL_schema_12 : decode cL_schema 12 = .ok (.astore_n 3, 1) := by decide +kernel
theorem dL_schema_13 : decode cL_schema 13 = .ok (.iconst 1, 1) := by decide +kernel
theorem dL_schema_14 : decode cL_schema 14 = .ok (.ireturn, 1) := by decide +kernel
theorem dL_schema_15 : decode cL_schema 15 = .ok (.iconst 0, 1) := by decide +kernel
theorem dL_schema_16 : decode cL_schema 16 = .ok (.ireturn, 1) := by decide +kernel
theorem dL_load_0 : decode cL_load 0 = .ok (.aload_n 2, 1) := by decide +kernel
theorem dL_load_1 : decode cL_load 1 = .ok (.iconst 0, 1) := by decide +kernel
theorem dL_load_2 : decode cL_load 2 = .ok (.aload_n 0, 1) := by decide +kernel
theorem dL_load_3 : decode cL_load 3 = .ok (.iload_n 1, 1) := by decide +kernel
theorem dL_load_4 : decode cL_load 4 = .ok (.invokevirtual 27, 3) := by decide +kernel
theorem dL_load_7 : decode cL_load 7 = .ok (.i2l, 1) := by decide +kernel
theorem dL_load_8 : decode cL_load 8 = .ok (.lastore, 1) := by decide +kernel
theorem dL_load_9 : decode cL_load 9 = .ok (.goto 9, 3) := by decide +kernel
theorem dL_load_12 : decode cL_load 12 = .ok (.astore_n 3, 1) := by decide +kernel
theorem dL_load_13 : decode cL_load 13 = .ok (.iconst 1, 1) := by decide +kernel
theorem dL_load_14 : decode cL_load 14 = .ok (.ireturn, 1) := by decide +kernel
theorem dL_load_15 : decode cL_load 15 = .ok (.astore_n 3, 1) := by decide +kernel
theorem dL_load_16 : decode cL_load 16 = .ok (.iconst 2, 1) := by decide +kernel
theorem dL_load_17 : decode cL_load 17 = .ok (.ireturn, 1) := by decide +kernel
theorem dL_load_18 : decode cL_load 18 = .ok (.iconst 0, 1) := by decide +kernel
theorem dL_load_19 : decode cL_load 19 = .ok (.ireturn, 1) := by decide +kernel
theorem dL_size_0 : decode cL_size 0 = .ok (.aload_n 2, 1) := by decide +kernel
theorem dL_size_1 : decode cL_size 1 = .ok (.iconst 0, 1) := by decide +kernel
theorem dL_size_2 : decode cL_size 2 = .ok (.aload_n 0, 1) := by decide +kernel
theorem dL_size_3 : decode cL_size 3 = .ok (.iload_n 1, 1) := by decide +kernel
theorem dL_size_4 : decode cL_size 4 = .ok (.invokevirtual 30, 3) := by decide +kernel
theorem dL_size_7 : decode cL_size 7 = .ok (.i2l, 1) := by decide +kernel
theorem dL_size_8 : decode cL_size 8 = .ok (.lastore, 1) := by decide +kernel
theorem dL_size_9 : decode cL_size 9 = .ok (.goto 6, 3) := by decide +kernel
theorem dL_size_12 : decode cL_size 12 = .ok (.astore_n 3, 1) := by decide +kernel
theorem dL_size_13 : decode cL_size 13 = .ok (.iconst 1, 1) := by decide +kernel
theorem dL_size_14 : decode cL_size 14 = .ok (.ireturn, 1) := by decide +kernel
theorem dL_size_15 : decode cL_size 15 = .ok (.iconst 0, 1) := by decide +kernel
theorem dL_size_16 : decode cL_size 16 = .ok (.ireturn, 1) := by decide +kernel
theorem dL_letter_0 : decode cL_letter 0 = .ok (.aload_n 3, 1) := by decide +kernel
theorem dL_letter_1 : decode cL_letter 1 = .ok (.iconst 0, 1) := by decide +kernel
theorem dL_letter_2 : decode cL_letter 2 = .ok (.aload_n 0, 1) := by decide +kernel
theorem dL_letter_3 : decode cL_letter 3 = .ok (.iload_n 1, 1) := by decide +kernel
theorem dL_letter_4 : decode cL_letter 4 = .ok (.iload_n 2, 1) := by decide +kernel
theorem dL_letter_5 : decode cL_letter 5 = .ok (.invokevirtual 33, 3) := by decide +kernel
theorem dL_letter_8 : decode cL_letter 8 = .ok (.i2l, 1) := by decide +kernel
theorem dL_letter_9 : decode cL_letter 9 = .ok (.lastore, 1) := by decide +kernel
theorem dL_letter_10 : decode cL_letter 10 = .ok (.goto 11, 3) := by decide +kernel
theorem dL_letter_13 : decode cL_letter 13 = .ok (.astore 4, 2) := by decide +kernel
theorem dL_letter_15 : decode cL_letter 15 = .ok (.iconst 1, 1) := by decide +kernel
theorem dL_letter_16 : decode cL_letter 16 = .ok (.ireturn, 1) := by decide +kernel
theorem dL_letter_17 : decode cL_letter 17 = .ok (.astore 4, 2) := by decide +kernel
theorem dL_letter_19 : decode cL_letter 19 = .ok (.iconst 2, 1) := by decide +kernel
theorem dL_letter_20 : decode cL_letter 20 = .ok (.ireturn, 1) := by decide +kernel
theorem dL_letter_21 : decode cL_letter 21 = .ok (.iconst 0, 1) := by decide +kernel
theorem dL_letter_22 : decode cL_letter 22 = .ok (.ireturn, 1) := by decide +kernel
theorem dL_read_0 : decode cL_read 0 = .ok (.aload_n 3, 1) := by decide +kernel
theorem dL_read_1 : decode cL_read 1 = .ok (.iconst 0, 1) := by decide +kernel
theorem dL_read_2 : decode cL_read 2 = .ok (.aload_n 0, 1) := by decide +kernel
theorem dL_read_3 : decode cL_read 3 = .ok (.iload_n 1, 1) := by decide +kernel
theorem dL_read_4 : decode cL_read 4 = .ok (.iload_n 2, 1) := by decide +kernel
theorem dL_read_5 : decode cL_read 5 = .ok (.invokevirtual 37, 3) := by decide +kernel
theorem dL_read_8 : decode cL_read 8 = .ok (.i2l, 1) := by decide +kernel
theorem dL_read_9 : decode cL_read 9 = .ok (.lastore, 1) := by decide +kernel
theorem dL_read_10 : decode cL_read 10 = .ok (.goto 11, 3) := by decide +kernel
theorem dL_read_13 : decode cL_read 13 = .ok (.astore 4, 2) := by decide +kernel
theorem dL_read_15 : decode cL_read 15 = .ok (.iconst 1, 1) := by decide +kernel
theorem dL_read_16 : decode cL_read 16 = .ok (.ireturn, 1) := by decide +kernel
theorem dL_read_17 : decode cL_read 17 = .ok (.astore 4, 2) := by decide +kernel
theorem dL_read_19 : decode cL_read 19 = .ok (.iconst 2, 1) := by decide +kernel
theorem dL_read_20 : decode cL_read 20 = .ok (.ireturn, 1) := by decide +kernel
theorem dL_read_21 : decode cL_read 21 = .ok (.iconst 0, 1) := by decide +kernel
theorem dL_read_22 : decode cL_read 22 = .ok (.ireturn, 1) := by decide +kernel
theorem dL_all_0 : decode cL_all 0 = .ok (.aload_n 2, 1) := by decide +kernel
theorem dL_all_1 : decode cL_all 1 = .ok (.iconst 0, 1) := by decide +kernel
theorem dL_all_2 : decode cL_all 2 = .ok (.aload_n 0, 1) := by decide +kernel
theorem dL_all_3 : decode cL_all 3 = .ok (.iload_n 1, 1) := by decide +kernel
theorem dL_all_4 : decode cL_all 4 = .ok (.invokevirtual 40, 3) := by decide +kernel
theorem dL_all_7 : decode cL_all 7 = .ok (.i2l, 1) := by decide +kernel
theorem dL_all_8 : decode cL_all 8 = .ok (.lastore, 1) := by decide +kernel
theorem dL_all_9 : decode cL_all 9 = .ok (.goto 9, 3) := by decide +kernel
theorem dL_all_12 : decode cL_all 12 = .ok (.astore_n 3, 1) := by decide +kernel
theorem dL_all_13 : decode cL_all 13 = .ok (.iconst 1, 1) := by decide +kernel
theorem dL_all_14 : decode cL_all 14 = .ok (.ireturn, 1) := by decide +kernel
theorem dL_all_15 : decode cL_all 15 = .ok (.astore_n 3, 1) := by decide +kernel
theorem dL_all_16 : decode cL_all 16 = .ok (.iconst 2, 1) := by decide +kernel
theorem dL_all_17 : decode cL_all 17 = .ok (.ireturn, 1) := by decide +kernel
theorem dL_all_18 : decode cL_all 18 = .ok (.iconst 0, 1) := by decide +kernel
theorem dL_all_19 : decode cL_all 19 = .ok (.ireturn, 1) := by decide +kernel
theorem dL_fits_0 : decode cL_fits 0 = .ok (.aload_n 3, 1) := by decide +kernel
theorem dL_fits_1 : decode cL_fits 1 = .ok (.iconst 0, 1) := by decide +kernel
theorem dL_fits_2 : decode cL_fits 2 = .ok (.aload_n 0, 1) := by decide +kernel
theorem dL_fits_3 : decode cL_fits 3 = .ok (.iload_n 1, 1) := by decide +kernel
theorem dL_fits_4 : decode cL_fits 4 = .ok (.iload_n 2, 1) := by decide +kernel
theorem dL_fits_5 : decode cL_fits 5 = .ok (.invokevirtual 43, 3) := by decide +kernel
theorem dL_fits_8 : decode cL_fits 8 = .ok (.ifCond .eq 7, 3) := by decide +kernel
theorem dL_fits_11 : decode cL_fits 11 = .ok (.lconst 1, 1) := by decide +kernel
theorem dL_fits_12 : decode cL_fits 12 = .ok (.goto 4, 3) := by decide +kernel
theorem dL_fits_15 : decode cL_fits 15 = .ok (.lconst 0, 1) := by decide +kernel
theorem dL_fits_16 : decode cL_fits 16 = .ok (.lastore, 1) := by decide +kernel
theorem dL_fits_17 : decode cL_fits 17 = .ok (.goto 11, 3) := by decide +kernel
theorem dL_fits_20 : decode cL_fits 20 = .ok (.astore 4, 2) := by decide +kernel
theorem dL_fits_22 : decode cL_fits 22 = .ok (.iconst 1, 1) := by decide +kernel
theorem dL_fits_23 : decode cL_fits 23 = .ok (.ireturn, 1) := by decide +kernel
theorem dL_fits_24 : decode cL_fits 24 = .ok (.astore 4, 2) := by decide +kernel
theorem dL_fits_26 : decode cL_fits 26 = .ok (.iconst 2, 1) := by decide +kernel
theorem dL_fits_27 : decode cL_fits 27 = .ok (.ireturn, 1) := by decide +kernel
theorem dL_fits_28 : decode cL_fits 28 = .ok (.iconst 0, 1) := by decide +kernel
theorem dL_fits_29 : decode cL_fits 29 = .ok (.ireturn, 1) := by decide +kernel
theorem dL_law_0 : decode cL_law 0 = .ok (.new 8, 3) := by decide +kernel
theorem dL_law_3 : decode cL_law 3 = .ok (.dup, 1) := by decide +kernel
theorem dL_law_4 : decode cL_law 4 = .ok (.invokespecial 47, 3) := by decide +kernel
theorem dL_law_7 : decode cL_law 7 = .ok (.astore_n 1, 1) := by decide +kernel
theorem dL_law_8 : decode cL_law 8 = .ok (.new 48, 3) := by decide +kernel
theorem dL_law_11 : decode cL_law 11 = .ok (.dup, 1) := by decide +kernel
theorem dL_law_12 : decode cL_law 12 = .ok (.invokespecial 50, 3) := by decide +kernel
theorem dL_law_15 : decode cL_law 15 = .ok (.astore_n 2, 1) := by decide +kernel
theorem dL_law_16 : decode cL_law 16 = .ok (.iconst 1, 1) := by decide +kernel
theorem dL_law_17 : decode cL_law 17 = .ok (.newarray .long, 2) := by decide +kernel
theorem dL_law_19 : decode cL_law 19 = .ok (.astore_n 3, 1) := by decide +kernel
theorem dL_law_20 : decode cL_law 20 = .ok (.iconst 0, 1) := by decide +kernel
theorem dL_law_21 : decode cL_law 21 = .ok (.istore 4, 2) := by decide +kernel
theorem dL_law_23 : decode cL_law 23 = .ok (.iload 4, 2) := by decide +kernel
theorem dL_law_25 : decode cL_law 25 = .ok (.aload_n 0, 1) := by decide +kernel
theorem dL_law_26 : decode cL_law 26 = .ok (.arraylength, 1) := by decide +kernel
theorem dL_law_27 : decode cL_law 27 = .ok (.bipush 6, 2) := by decide +kernel
theorem dL_law_29 : decode cL_law 29 = .ok (.isub, 1) := by decide +kernel
theorem dL_law_30 : decode cL_law 30 = .ok (.if_icmp .gt 677, 3) := by decide +kernel
theorem dL_law_33 : decode cL_law 33 = .ok (.aload_n 0, 1) := by decide +kernel
theorem dL_law_34 : decode cL_law 34 = .ok (.iload 4, 2) := by decide +kernel
theorem dL_law_36 : decode cL_law 36 = .ok (.iaload, 1) := by decide +kernel
theorem dL_law_37 : decode cL_law 37 = .ok (.bipush 15, 2) := by decide +kernel
theorem dL_law_39 : decode cL_law 39 = .ok (.iand, 1) := by decide +kernel
theorem dL_law_40 : decode cL_law 40 = .ok (.tableswitch 661 0 10 #[60, 164, 200, 256, 312, 325, 338, 394, 462, 530, 586], 60) := by decide +kernel
theorem dL_law_100 : decode cL_law 100 = .ok (.aload_n 1, 1) := by decide +kernel
theorem dL_law_101 : decode cL_law 101 = .ok (.aload_n 0, 1) := by decide +kernel
theorem dL_law_102 : decode cL_law 102 = .ok (.iload 4, 2) := by decide +kernel
theorem dL_law_104 : decode cL_law 104 = .ok (.iconst 1, 1) := by decide +kernel
theorem dL_law_105 : decode cL_law 105 = .ok (.iadd, 1) := by decide +kernel
theorem dL_law_106 : decode cL_law 106 = .ok (.iaload, 1) := by decide +kernel
theorem dL_law_107 : decode cL_law 107 = .ok (.aload_n 0, 1) := by decide +kernel
theorem dL_law_108 : decode cL_law 108 = .ok (.iload 4, 2) := by decide +kernel
theorem dL_law_110 : decode cL_law 110 = .ok (.iconst 2, 1) := by decide +kernel
theorem dL_law_111 : decode cL_law 111 = .ok (.iadd, 1) := by decide +kernel
theorem dL_law_112 : decode cL_law 112 = .ok (.iaload, 1) := by decide +kernel
theorem dL_law_113 : decode cL_law 113 = .ok (.aload_n 0, 1) := by decide +kernel
theorem dL_law_114 : decode cL_law 114 = .ok (.iload 4, 2) := by decide +kernel
theorem dL_law_116 : decode cL_law 116 = .ok (.iconst 3, 1) := by decide +kernel
theorem dL_law_117 : decode cL_law 117 = .ok (.iadd, 1) := by decide +kernel
theorem dL_law_118 : decode cL_law 118 = .ok (.iaload, 1) := by decide +kernel
theorem dL_law_119 : decode cL_law 119 = .ok (.aload_n 0, 1) := by decide +kernel
theorem dL_law_120 : decode cL_law 120 = .ok (.iload 4, 2) := by decide +kernel
theorem dL_law_122 : decode cL_law 122 = .ok (.iconst 4, 1) := by decide +kernel
theorem dL_law_123 : decode cL_law 123 = .ok (.iadd, 1) := by decide +kernel
theorem dL_law_124 : decode cL_law 124 = .ok (.iaload, 1) := by decide +kernel
theorem dL_law_125 : decode cL_law 125 = .ok (.aload_n 0, 1) := by decide +kernel
theorem dL_law_126 : decode cL_law 126 = .ok (.iload 4, 2) := by decide +kernel
theorem dL_law_128 : decode cL_law 128 = .ok (.iconst 5, 1) := by decide +kernel
theorem dL_law_129 : decode cL_law 129 = .ok (.iadd, 1) := by decide +kernel
theorem dL_law_130 : decode cL_law 130 = .ok (.iaload, 1) := by decide +kernel
theorem dL_law_131 : decode cL_law 131 = .ok (.aload_n 3, 1) := by decide +kernel
theorem dL_law_132 : decode cL_law 132 = .ok (.invokestatic 51, 3) := by decide +kernel
theorem dL_law_135 : decode cL_law 135 = .ok (.istore 5, 2) := by decide +kernel
theorem dL_law_137 : decode cL_law 137 = .ok (.aload_n 2, 1) := by decide +kernel
theorem dL_law_138 : decode cL_law 138 = .ok (.aload_n 0, 1) := by decide +kernel
theorem dL_law_139 : decode cL_law 139 = .ok (.iload 4, 2) := by decide +kernel
theorem dL_law_141 : decode cL_law 141 = .ok (.iconst 1, 1) := by decide +kernel
theorem dL_law_142 : decode cL_law 142 = .ok (.iadd, 1) := by decide +kernel
theorem dL_law_143 : decode cL_law 143 = .ok (.iaload, 1) := by decide +kernel
theorem dL_law_144 : decode cL_law 144 = .ok (.aload_n 0, 1) := by decide +kernel
theorem dL_law_145 : decode cL_law 145 = .ok (.iload 4, 2) := by decide +kernel
theorem dL_law_147 : decode cL_law 147 = .ok (.iconst 2, 1) := by decide +kernel
theorem dL_law_148 : decode cL_law 148 = .ok (.iadd, 1) := by decide +kernel
theorem dL_law_149 : decode cL_law 149 = .ok (.iaload, 1) := by decide +kernel
theorem dL_law_150 : decode cL_law 150 = .ok (.aload_n 0, 1) := by decide +kernel
theorem dL_law_151 : decode cL_law 151 = .ok (.iload 4, 2) := by decide +kernel
theorem dL_law_153 : decode cL_law 153 = .ok (.iconst 3, 1) := by decide +kernel
theorem dL_law_154 : decode cL_law 154 = .ok (.iadd, 1) := by decide +kernel
theorem dL_law_155 : decode cL_law 155 = .ok (.iaload, 1) := by decide +kernel
theorem dL_law_156 : decode cL_law 156 = .ok (.aload_n 0, 1) := by decide +kernel
theorem dL_law_157 : decode cL_law 157 = .ok (.iload 4, 2) := by decide +kernel
theorem dL_law_159 : decode cL_law 159 = .ok (.iconst 4, 1) := by decide +kernel
theorem dL_law_160 : decode cL_law 160 = .ok (.iadd, 1) := by decide +kernel
theorem dL_law_161 : decode cL_law 161 = .ok (.iaload, 1) := by decide +kernel
theorem dL_law_162 : decode cL_law 162 = .ok (.aload_n 0, 1) := by decide +kernel
theorem dL_law_163 : decode cL_law 163 = .ok (.iload 4, 2) := by decide +kernel
theorem dL_law_165 : decode cL_law 165 = .ok (.iconst 5, 1) := by decide +kernel
theorem dL_law_166 : decode cL_law 166 = .ok (.iadd, 1) := by decide +kernel
theorem dL_law_167 : decode cL_law 167 = .ok (.iaload, 1) := by decide +kernel
theorem dL_law_168 : decode cL_law 168 = .ok (.invokevirtual 56, 3) := by decide +kernel
theorem dL_law_171 : decode cL_law 171 = .ok (.istore 6, 2) := by decide +kernel
theorem dL_law_173 : decode cL_law 173 = .ok (.aload_n 2, 1) := by decide +kernel
theorem dL_law_174 : decode cL_law 174 = .ok (.invokevirtual 57, 3) := by decide +kernel
theorem dL_law_177 : decode cL_law 177 = .ok (.iload 5, 2) := by decide +kernel
theorem dL_law_179 : decode cL_law 179 = .ok (.if_icmp .eq 5, 3) := by decide +kernel
theorem dL_law_182 : decode cL_law 182 = .ok (.iconst 0, 1) := by decide +kernel
theorem dL_law_183 : decode cL_law 183 = .ok (.ireturn, 1) := by decide +kernel
theorem dL_law_184 : decode cL_law 184 = .ok (.iload 5, 2) := by decide +kernel
theorem dL_law_186 : decode cL_law 186 = .ok (.ifCond .ne 15, 3) := by decide +kernel
theorem dL_law_189 : decode cL_law 189 = .ok (.aload_n 3, 1) := by decide +kernel
theorem dL_law_190 : decode cL_law 190 = .ok (.iconst 0, 1) := by decide +kernel
theorem dL_law_191 : decode cL_law 191 = .ok (.laload, 1) := by decide +kernel
theorem dL_law_192 : decode cL_law 192 = .ok (.iload 6, 2) := by decide +kernel
theorem dL_law_194 : decode cL_law 194 = .ok (.i2l, 1) := by decide +kernel
theorem dL_law_195 : decode cL_law 195 = .ok (.lcmp, 1) := by decide +kernel
theorem dL_law_196 : decode cL_law 196 = .ok (.ifCond .eq 5, 3) := by decide +kernel
theorem dL_law_199 : decode cL_law 199 = .ok (.iconst 0, 1) := by decide +kernel
theorem dL_law_200 : decode cL_law 200 = .ok (.ireturn, 1) := by decide +kernel
theorem dL_law_201 : decode cL_law 201 = .ok (.goto 500, 3) := by decide +kernel
theorem dL_law_204 : decode cL_law 204 = .ok (.aload_n 1, 1) := by decide +kernel
theorem dL_law_205 : decode cL_law 205 = .ok (.aload_n 0, 1) := by decide +kernel
theorem dL_law_206 : decode cL_law 206 = .ok (.iload 4, 2) := by decide +kernel
theorem dL_law_208 : decode cL_law 208 = .ok (.iconst 1, 1) := by decide +kernel
theorem dL_law_209 : decode cL_law 209 = .ok (.iadd, 1) := by decide +kernel
theorem dL_law_210 : decode cL_law 210 = .ok (.iaload, 1) := by decide +kernel
theorem dL_law_211 : decode cL_law 211 = .ok (.invokestatic 61, 3) := by decide +kernel
theorem dL_law_214 : decode cL_law 214 = .ok (.istore 5, 2) := by decide +kernel
theorem dL_law_216 : decode cL_law 216 = .ok (.aload_n 2, 1) := by decide +kernel
theorem dL_law_217 : decode cL_law 217 = .ok (.aload_n 0, 1) := by decide +kernel
theorem dL_law_218 : decode cL_law 218 = .ok (.iload 4, 2) := by decide +kernel
theorem dL_law_220 : decode cL_law 220 = .ok (.iconst 1, 1) := by decide +kernel
theorem dL_law_221 : decode cL_law 221 = .ok (.iadd, 1) := by decide +kernel
theorem dL_law_222 : decode cL_law 222 = .ok (.iaload, 1) := by decide +kernel
theorem dL_law_223 : decode cL_law 223 = .ok (.invokevirtual 64, 3) := by decide +kernel
theorem dL_law_226 : decode cL_law 226 = .ok (.aload_n 2, 1) := by decide +kernel
theorem dL_law_227 : decode cL_law 227 = .ok (.invokevirtual 57, 3) := by decide +kernel
theorem dL_law_230 : decode cL_law 230 = .ok (.iload 5, 2) := by decide +kernel
theorem dL_law_232 : decode cL_law 232 = .ok (.if_icmp .eq 5, 3) := by decide +kernel
theorem dL_law_235 : decode cL_law 235 = .ok (.iconst 0, 1) := by decide +kernel
theorem dL_law_236 : decode cL_law 236 = .ok (.ireturn, 1) := by decide +kernel
theorem dL_law_237 : decode cL_law 237 = .ok (.goto 464, 3) := by decide +kernel
theorem dL_law_240 : decode cL_law 240 = .ok (.aload_n 1, 1) := by decide +kernel
theorem dL_law_241 : decode cL_law 241 = .ok (.aload_n 0, 1) := by decide +kernel
theorem dL_law_242 : decode cL_law 242 = .ok (.iload 4, 2) := by decide +kernel
theorem dL_law_244 : decode cL_law 244 = .ok (.iconst 1, 1) := by decide +kernel
theorem dL_law_245 : decode cL_law 245 = .ok (.iadd, 1) := by decide +kernel
theorem dL_law_246 : decode cL_law 246 = .ok (.iaload, 1) := by decide +kernel
theorem dL_law_247 : decode cL_law 247 = .ok (.aload_n 3, 1) := by decide +kernel
theorem dL_law_248 : decode cL_law 248 = .ok (.invokestatic 65, 3) := by decide +kernel
theorem dL_law_251 : decode cL_law 251 = .ok (.istore 5, 2) := by decide +kernel
theorem dL_law_253 : decode cL_law 253 = .ok (.aload_n 2, 1) := by decide +kernel
theorem dL_law_254 : decode cL_law 254 = .ok (.aload_n 0, 1) := by decide +kernel
theorem dL_law_255 : decode cL_law 255 = .ok (.iload 4, 2) := by decide +kernel
theorem dL_law_257 : decode cL_law 257 = .ok (.iconst 1, 1) := by decide +kernel
theorem dL_law_258 : decode cL_law 258 = .ok (.iadd, 1) := by decide +kernel
theorem dL_law_259 : decode cL_law 259 = .ok (.iaload, 1) := by decide +kernel
theorem dL_law_260 : decode cL_law 260 = .ok (.invokevirtual 68, 3) := by decide +kernel
theorem dL_law_263 : decode cL_law 263 = .ok (.istore 6, 2) := by decide +kernel
theorem dL_law_265 : decode cL_law 265 = .ok (.aload_n 2, 1) := by decide +kernel
theorem dL_law_266 : decode cL_law 266 = .ok (.invokevirtual 57, 3) := by decide +kernel
theorem dL_law_269 : decode cL_law 269 = .ok (.iload 5, 2) := by decide +kernel
theorem dL_law_271 : decode cL_law 271 = .ok (.if_icmp .eq 5, 3) := by decide +kernel
theorem dL_law_274 : decode cL_law 274 = .ok (.iconst 0, 1) := by decide +kernel
theorem dL_law_275 : decode cL_law 275 = .ok (.ireturn, 1) := by decide +kernel
theorem dL_law_276 : decode cL_law 276 = .ok (.iload 5, 2) := by decide +kernel
theorem dL_law_278 : decode cL_law 278 = .ok (.ifCond .ne 15, 3) := by decide +kernel
theorem dL_law_281 : decode cL_law 281 = .ok (.aload_n 3, 1) := by decide +kernel
theorem dL_law_282 : decode cL_law 282 = .ok (.iconst 0, 1) := by decide +kernel
theorem dL_law_283 : decode cL_law 283 = .ok (.laload, 1) := by decide +kernel
theorem dL_law_284 : decode cL_law 284 = .ok (.iload 6, 2) := by decide +kernel
theorem dL_law_286 : decode cL_law 286 = .ok (.i2l, 1) := by decide +kernel
theorem dL_law_287 : decode cL_law 287 = .ok (.lcmp, 1) := by decide +kernel
theorem dL_law_288 : decode cL_law 288 = .ok (.ifCond .eq 5, 3) := by decide +kernel
theorem dL_law_291 : decode cL_law 291 = .ok (.iconst 0, 1) := by decide +kernel
theorem dL_law_292 : decode cL_law 292 = .ok (.ireturn, 1) := by decide +kernel
theorem dL_law_293 : decode cL_law 293 = .ok (.goto 408, 3) := by decide +kernel
theorem dL_law_296 : decode cL_law 296 = .ok (.aload_n 1, 1) := by decide +kernel
theorem dL_law_297 : decode cL_law 297 = .ok (.aload_n 0, 1) := by decide +kernel
theorem dL_law_298 : decode cL_law 298 = .ok (.iload 4, 2) := by decide +kernel
theorem dL_law_300 : decode cL_law 300 = .ok (.iconst 1, 1) := by decide +kernel
theorem dL_law_301 : decode cL_law 301 = .ok (.iadd, 1) := by decide +kernel
theorem dL_law_302 : decode cL_law 302 = .ok (.iaload, 1) := by decide +kernel
theorem dL_law_303 : decode cL_law 303 = .ok (.aload_n 3, 1) := by decide +kernel
theorem dL_law_304 : decode cL_law 304 = .ok (.invokestatic 69, 3) := by decide +kernel
theorem dL_law_307 : decode cL_law 307 = .ok (.istore 5, 2) := by decide +kernel
theorem dL_law_309 : decode cL_law 309 = .ok (.aload_n 2, 1) := by decide +kernel
theorem dL_law_310 : decode cL_law 310 = .ok (.aload_n 0, 1) := by decide +kernel
theorem dL_law_311 : decode cL_law 311 = .ok (.iload 4, 2) := by decide +kernel
theorem dL_law_313 : decode cL_law 313 = .ok (.iconst 1, 1) := by decide +kernel
theorem dL_law_314 : decode cL_law 314 = .ok (.iadd, 1) := by decide +kernel
theorem dL_law_315 : decode cL_law 315 = .ok (.iaload, 1) := by decide +kernel
theorem dL_law_316 : decode cL_law 316 = .ok (.invokevirtual 71, 3) := by decide +kernel
theorem dL_law_319 : decode cL_law 319 = .ok (.istore 6, 2) := by decide +kernel
theorem dL_law_321 : decode cL_law 321 = .ok (.aload_n 2, 1) := by decide +kernel
theorem dL_law_322 : decode cL_law 322 = .ok (.invokevirtual 57, 3) := by decide +kernel
theorem dL_law_325 : decode cL_law 325 = .ok (.iload 5, 2) := by decide +kernel
theorem dL_law_327 : decode cL_law 327 = .ok (.if_icmp .eq 5, 3) := by decide +kernel
theorem dL_law_330 : decode cL_law 330 = .ok (.iconst 0, 1) := by decide +kernel
theorem dL_law_331 : decode cL_law 331 = .ok (.ireturn, 1) := by decide +kernel
theorem dL_law_332 : decode cL_law 332 = .ok (.iload 5, 2) := by decide +kernel
theorem dL_law_334 : decode cL_law 334 = .ok (.ifCond .ne 15, 3) := by decide +kernel
theorem dL_law_337 : decode cL_law 337 = .ok (.aload_n 3, 1) := by decide +kernel
theorem dL_law_338 : decode cL_law 338 = .ok (.iconst 0, 1) := by decide +kernel
theorem dL_law_339 : decode cL_law 339 = .ok (.laload, 1) := by decide +kernel
theorem dL_law_340 : decode cL_law 340 = .ok (.iload 6, 2) := by decide +kernel
theorem dL_law_342 : decode cL_law 342 = .ok (.i2l, 1) := by decide +kernel
theorem dL_law_343 : decode cL_law 343 = .ok (.lcmp, 1) := by decide +kernel
theorem dL_law_344 : decode cL_law 344 = .ok (.ifCond .eq 5, 3) := by decide +kernel
theorem dL_law_347 : decode cL_law 347 = .ok (.iconst 0, 1) := by decide +kernel
theorem dL_law_348 : decode cL_law 348 = .ok (.ireturn, 1) := by decide +kernel
theorem dL_law_349 : decode cL_law 349 = .ok (.goto 352, 3) := by decide +kernel
theorem dL_law_352 : decode cL_law 352 = .ok (.aload_n 1, 1) := by decide +kernel
theorem dL_law_353 : decode cL_law 353 = .ok (.invokevirtual 72, 3) := by decide +kernel
theorem dL_law_356 : decode cL_law 356 = .ok (.aload_n 2, 1) := by decide +kernel
theorem dL_law_357 : decode cL_law 357 = .ok (.invokevirtual 75, 3) := by decide +kernel
theorem dL_law_360 : decode cL_law 360 = .ok (.if_icmp .eq 341, 3) := by decide +kernel
theorem dL_law_363 : decode cL_law 363 = .ok (.iconst 0, 1) := by decide +kernel
theorem dL_law_364 : decode cL_law 364 = .ok (.ireturn, 1) := by decide +kernel
theorem dL_law_365 : decode cL_law 365 = .ok (.aload_n 1, 1) := by decide +kernel
theorem dL_law_366 : decode cL_law 366 = .ok (.invokevirtual 76, 3) := by decide +kernel
theorem dL_law_369 : decode cL_law 369 = .ok (.aload_n 2, 1) := by decide +kernel
theorem dL_law_370 : decode cL_law 370 = .ok (.invokevirtual 79, 3) := by decide +kernel
theorem dL_law_373 : decode cL_law 373 = .ok (.if_icmp .eq 328, 3) := by decide +kernel
theorem dL_law_376 : decode cL_law 376 = .ok (.iconst 0, 1) := by decide +kernel
theorem dL_law_377 : decode cL_law 377 = .ok (.ireturn, 1) := by decide +kernel
theorem dL_law_378 : decode cL_law 378 = .ok (.aload_n 1, 1) := by decide +kernel
theorem dL_law_379 : decode cL_law 379 = .ok (.aload_n 0, 1) := by decide +kernel
theorem dL_law_380 : decode cL_law 380 = .ok (.iload 4, 2) := by decide +kernel
theorem dL_law_382 : decode cL_law 382 = .ok (.iconst 1, 1) := by decide +kernel
theorem dL_law_383 : decode cL_law 383 = .ok (.iadd, 1) := by decide +kernel
theorem dL_law_384 : decode cL_law 384 = .ok (.iaload, 1) := by decide +kernel
theorem dL_law_385 : decode cL_law 385 = .ok (.aload_n 3, 1) := by decide +kernel
theorem dL_law_386 : decode cL_law 386 = .ok (.invokestatic 80, 3) := by decide +kernel
theorem dL_law_389 : decode cL_law 389 = .ok (.istore 5, 2) := by decide +kernel
theorem dL_law_391 : decode cL_law 391 = .ok (.aload_n 2, 1) := by decide +kernel
theorem dL_law_392 : decode cL_law 392 = .ok (.aload_n 0, 1) := by decide +kernel
theorem dL_law_393 : decode cL_law 393 = .ok (.iload 4, 2) := by decide +kernel
theorem dL_law_395 : decode cL_law 395 = .ok (.iconst 1, 1) := by decide +kernel
theorem dL_law_396 : decode cL_law 396 = .ok (.iadd, 1) := by decide +kernel
theorem dL_law_397 : decode cL_law 397 = .ok (.iaload, 1) := by decide +kernel
theorem dL_law_398 : decode cL_law 398 = .ok (.invokevirtual 82, 3) := by decide +kernel
theorem dL_law_401 : decode cL_law 401 = .ok (.istore 6, 2) := by decide +kernel
theorem dL_law_403 : decode cL_law 403 = .ok (.aload_n 2, 1) := by decide +kernel
theorem dL_law_404 : decode cL_law 404 = .ok (.invokevirtual 57, 3) := by decide +kernel
theorem dL_law_407 : decode cL_law 407 = .ok (.iload 5, 2) := by decide +kernel
theorem dL_law_409 : decode cL_law 409 = .ok (.if_icmp .eq 5, 3) := by decide +kernel
theorem dL_law_412 : decode cL_law 412 = .ok (.iconst 0, 1) := by decide +kernel
theorem dL_law_413 : decode cL_law 413 = .ok (.ireturn, 1) := by decide +kernel
theorem dL_law_414 : decode cL_law 414 = .ok (.iload 5, 2) := by decide +kernel
theorem dL_law_416 : decode cL_law 416 = .ok (.ifCond .ne 15, 3) := by decide +kernel
theorem dL_law_419 : decode cL_law 419 = .ok (.aload_n 3, 1) := by decide +kernel
theorem dL_law_420 : decode cL_law 420 = .ok (.iconst 0, 1) := by decide +kernel
theorem dL_law_421 : decode cL_law 421 = .ok (.laload, 1) := by decide +kernel
theorem dL_law_422 : decode cL_law 422 = .ok (.iload 6, 2) := by decide +kernel
theorem dL_law_424 : decode cL_law 424 = .ok (.i2l, 1) := by decide +kernel
theorem dL_law_425 : decode cL_law 425 = .ok (.lcmp, 1) := by decide +kernel
theorem dL_law_426 : decode cL_law 426 = .ok (.ifCond .eq 5, 3) := by decide +kernel
theorem dL_law_429 : decode cL_law 429 = .ok (.iconst 0, 1) := by decide +kernel
theorem dL_law_430 : decode cL_law 430 = .ok (.ireturn, 1) := by decide +kernel
theorem dL_law_431 : decode cL_law 431 = .ok (.goto 270, 3) := by decide +kernel
theorem dL_law_434 : decode cL_law 434 = .ok (.aload_n 1, 1) := by decide +kernel
theorem dL_law_435 : decode cL_law 435 = .ok (.aload_n 0, 1) := by decide +kernel
theorem dL_law_436 : decode cL_law 436 = .ok (.iload 4, 2) := by decide +kernel
theorem dL_law_438 : decode cL_law 438 = .ok (.iconst 1, 1) := by decide +kernel
theorem dL_law_439 : decode cL_law 439 = .ok (.iadd, 1) := by decide +kernel
theorem dL_law_440 : decode cL_law 440 = .ok (.iaload, 1) := by decide +kernel
theorem dL_law_441 : decode cL_law 441 = .ok (.aload_n 0, 1) := by decide +kernel
theorem dL_law_442 : decode cL_law 442 = .ok (.iload 4, 2) := by decide +kernel
theorem dL_law_444 : decode cL_law 444 = .ok (.iconst 2, 1) := by decide +kernel
theorem dL_law_445 : decode cL_law 445 = .ok (.iadd, 1) := by decide +kernel
theorem dL_law_446 : decode cL_law 446 = .ok (.iaload, 1) := by decide +kernel
theorem dL_law_447 : decode cL_law 447 = .ok (.aload_n 3, 1) := by decide +kernel
theorem dL_law_448 : decode cL_law 448 = .ok (.invokestatic 83, 3) := by decide +kernel
theorem dL_law_451 : decode cL_law 451 = .ok (.istore 5, 2) := by decide +kernel
theorem dL_law_453 : decode cL_law 453 = .ok (.aload_n 2, 1) := by decide +kernel
theorem dL_law_454 : decode cL_law 454 = .ok (.aload_n 0, 1) := by decide +kernel
theorem dL_law_455 : decode cL_law 455 = .ok (.iload 4, 2) := by decide +kernel
theorem dL_law_457 : decode cL_law 457 = .ok (.iconst 1, 1) := by decide +kernel
theorem dL_law_458 : decode cL_law 458 = .ok (.iadd, 1) := by decide +kernel
theorem dL_law_459 : decode cL_law 459 = .ok (.iaload, 1) := by decide +kernel
theorem dL_law_460 : decode cL_law 460 = .ok (.aload_n 0, 1) := by decide +kernel
theorem dL_law_461 : decode cL_law 461 = .ok (.iload 4, 2) := by decide +kernel
theorem dL_law_463 : decode cL_law 463 = .ok (.iconst 2, 1) := by decide +kernel
theorem dL_law_464 : decode cL_law 464 = .ok (.iadd, 1) := by decide +kernel
theorem dL_law_465 : decode cL_law 465 = .ok (.iaload, 1) := by decide +kernel
theorem dL_law_466 : decode cL_law 466 = .ok (.invokevirtual 86, 3) := by decide +kernel
theorem dL_law_469 : decode cL_law 469 = .ok (.istore 6, 2) := by decide +kernel
theorem dL_law_471 : decode cL_law 471 = .ok (.aload_n 2, 1) := by decide +kernel
theorem dL_law_472 : decode cL_law 472 = .ok (.invokevirtual 57, 3) := by decide +kernel
theorem dL_law_475 : decode cL_law 475 = .ok (.iload 5, 2) := by decide +kernel
theorem dL_law_477 : decode cL_law 477 = .ok (.if_icmp .eq 5, 3) := by decide +kernel
theorem dL_law_480 : decode cL_law 480 = .ok (.iconst 0, 1) := by decide +kernel
theorem dL_law_481 : decode cL_law 481 = .ok (.ireturn, 1) := by decide +kernel
theorem dL_law_482 : decode cL_law 482 = .ok (.iload 5, 2) := by decide +kernel
theorem dL_law_484 : decode cL_law 484 = .ok (.ifCond .ne 15, 3) := by decide +kernel
theorem dL_law_487 : decode cL_law 487 = .ok (.aload_n 3, 1) := by decide +kernel
theorem dL_law_488 : decode cL_law 488 = .ok (.iconst 0, 1) := by decide +kernel
theorem dL_law_489 : decode cL_law 489 = .ok (.laload, 1) := by decide +kernel
theorem dL_law_490 : decode cL_law 490 = .ok (.iload 6, 2) := by decide +kernel
theorem dL_law_492 : decode cL_law 492 = .ok (.i2l, 1) := by decide +kernel
theorem dL_law_493 : decode cL_law 493 = .ok (.lcmp, 1) := by decide +kernel
theorem dL_law_494 : decode cL_law 494 = .ok (.ifCond .eq 5, 3) := by decide +kernel
theorem dL_law_497 : decode cL_law 497 = .ok (.iconst 0, 1) := by decide +kernel
theorem dL_law_498 : decode cL_law 498 = .ok (.ireturn, 1) := by decide +kernel
theorem dL_law_499 : decode cL_law 499 = .ok (.goto 202, 3) := by decide +kernel
theorem dL_law_502 : decode cL_law 502 = .ok (.aload_n 1, 1) := by decide +kernel
theorem dL_law_503 : decode cL_law 503 = .ok (.aload_n 0, 1) := by decide +kernel
theorem dL_law_504 : decode cL_law 504 = .ok (.iload 4, 2) := by decide +kernel
theorem dL_law_506 : decode cL_law 506 = .ok (.iconst 1, 1) := by decide +kernel
theorem dL_law_507 : decode cL_law 507 = .ok (.iadd, 1) := by decide +kernel
theorem dL_law_508 : decode cL_law 508 = .ok (.iaload, 1) := by decide +kernel
theorem dL_law_509 : decode cL_law 509 = .ok (.aload_n 0, 1) := by decide +kernel
theorem dL_law_510 : decode cL_law 510 = .ok (.iload 4, 2) := by decide +kernel
theorem dL_law_512 : decode cL_law 512 = .ok (.iconst 2, 1) := by decide +kernel
theorem dL_law_513 : decode cL_law 513 = .ok (.iadd, 1) := by decide +kernel
theorem dL_law_514 : decode cL_law 514 = .ok (.iaload, 1) := by decide +kernel
theorem dL_law_515 : decode cL_law 515 = .ok (.aload_n 3, 1) := by decide +kernel
theorem dL_law_516 : decode cL_law 516 = .ok (.invokestatic 87, 3) := by decide +kernel
theorem dL_law_519 : decode cL_law 519 = .ok (.istore 5, 2) := by decide +kernel
theorem dL_law_521 : decode cL_law 521 = .ok (.aload_n 2, 1) := by decide +kernel
theorem dL_law_522 : decode cL_law 522 = .ok (.aload_n 0, 1) := by decide +kernel
theorem dL_law_523 : decode cL_law 523 = .ok (.iload 4, 2) := by decide +kernel
theorem dL_law_525 : decode cL_law 525 = .ok (.iconst 1, 1) := by decide +kernel
theorem dL_law_526 : decode cL_law 526 = .ok (.iadd, 1) := by decide +kernel
theorem dL_law_527 : decode cL_law 527 = .ok (.iaload, 1) := by decide +kernel
theorem dL_law_528 : decode cL_law 528 = .ok (.aload_n 0, 1) := by decide +kernel
theorem dL_law_529 : decode cL_law 529 = .ok (.iload 4, 2) := by decide +kernel
theorem dL_law_531 : decode cL_law 531 = .ok (.iconst 2, 1) := by decide +kernel
theorem dL_law_532 : decode cL_law 532 = .ok (.iadd, 1) := by decide +kernel
theorem dL_law_533 : decode cL_law 533 = .ok (.iaload, 1) := by decide +kernel
theorem dL_law_534 : decode cL_law 534 = .ok (.invokevirtual 89, 3) := by decide +kernel
theorem dL_law_537 : decode cL_law 537 = .ok (.istore 6, 2) := by decide +kernel
theorem dL_law_539 : decode cL_law 539 = .ok (.aload_n 2, 1) := by decide +kernel
theorem dL_law_540 : decode cL_law 540 = .ok (.invokevirtual 57, 3) := by decide +kernel
theorem dL_law_543 : decode cL_law 543 = .ok (.iload 5, 2) := by decide +kernel
theorem dL_law_545 : decode cL_law 545 = .ok (.if_icmp .eq 5, 3) := by decide +kernel
theorem dL_law_548 : decode cL_law 548 = .ok (.iconst 0, 1) := by decide +kernel
theorem dL_law_549 : decode cL_law 549 = .ok (.ireturn, 1) := by decide +kernel
theorem dL_law_550 : decode cL_law 550 = .ok (.iload 5, 2) := by decide +kernel
theorem dL_law_552 : decode cL_law 552 = .ok (.ifCond .ne 15, 3) := by decide +kernel
theorem dL_law_555 : decode cL_law 555 = .ok (.aload_n 3, 1) := by decide +kernel
theorem dL_law_556 : decode cL_law 556 = .ok (.iconst 0, 1) := by decide +kernel
theorem dL_law_557 : decode cL_law 557 = .ok (.laload, 1) := by decide +kernel
theorem dL_law_558 : decode cL_law 558 = .ok (.iload 6, 2) := by decide +kernel
theorem dL_law_560 : decode cL_law 560 = .ok (.i2l, 1) := by decide +kernel
theorem dL_law_561 : decode cL_law 561 = .ok (.lcmp, 1) := by decide +kernel
theorem dL_law_562 : decode cL_law 562 = .ok (.ifCond .eq 5, 3) := by decide +kernel
theorem dL_law_565 : decode cL_law 565 = .ok (.iconst 0, 1) := by decide +kernel
theorem dL_law_566 : decode cL_law 566 = .ok (.ireturn, 1) := by decide +kernel
theorem dL_law_567 : decode cL_law 567 = .ok (.goto 134, 3) := by decide +kernel
theorem dL_law_570 : decode cL_law 570 = .ok (.aload_n 1, 1) := by decide +kernel
theorem dL_law_571 : decode cL_law 571 = .ok (.aload_n 0, 1) := by decide +kernel
theorem dL_law_572 : decode cL_law 572 = .ok (.iload 4, 2) := by decide +kernel
theorem dL_law_574 : decode cL_law 574 = .ok (.iconst 1, 1) := by decide +kernel
theorem dL_law_575 : decode cL_law 575 = .ok (.iadd, 1) := by decide +kernel
theorem dL_law_576 : decode cL_law 576 = .ok (.iaload, 1) := by decide +kernel
theorem dL_law_577 : decode cL_law 577 = .ok (.aload_n 3, 1) := by decide +kernel
theorem dL_law_578 : decode cL_law 578 = .ok (.invokestatic 90, 3) := by decide +kernel
theorem dL_law_581 : decode cL_law 581 = .ok (.istore 5, 2) := by decide +kernel
theorem dL_law_583 : decode cL_law 583 = .ok (.aload_n 2, 1) := by decide +kernel
theorem dL_law_584 : decode cL_law 584 = .ok (.aload_n 0, 1) := by decide +kernel
theorem dL_law_585 : decode cL_law 585 = .ok (.iload 4, 2) := by decide +kernel
theorem dL_law_587 : decode cL_law 587 = .ok (.iconst 1, 1) := by decide +kernel
theorem dL_law_588 : decode cL_law 588 = .ok (.iadd, 1) := by decide +kernel
theorem dL_law_589 : decode cL_law 589 = .ok (.iaload, 1) := by decide +kernel
theorem dL_law_590 : decode cL_law 590 = .ok (.invokevirtual 92, 3) := by decide +kernel
theorem dL_law_593 : decode cL_law 593 = .ok (.istore 6, 2) := by decide +kernel
theorem dL_law_595 : decode cL_law 595 = .ok (.aload_n 2, 1) := by decide +kernel
theorem dL_law_596 : decode cL_law 596 = .ok (.invokevirtual 57, 3) := by decide +kernel
theorem dL_law_599 : decode cL_law 599 = .ok (.iload 5, 2) := by decide +kernel
theorem dL_law_601 : decode cL_law 601 = .ok (.if_icmp .eq 5, 3) := by decide +kernel
theorem dL_law_604 : decode cL_law 604 = .ok (.iconst 0, 1) := by decide +kernel
theorem dL_law_605 : decode cL_law 605 = .ok (.ireturn, 1) := by decide +kernel
theorem dL_law_606 : decode cL_law 606 = .ok (.iload 5, 2) := by decide +kernel
theorem dL_law_608 : decode cL_law 608 = .ok (.ifCond .ne 15, 3) := by decide +kernel
theorem dL_law_611 : decode cL_law 611 = .ok (.aload_n 3, 1) := by decide +kernel
theorem dL_law_612 : decode cL_law 612 = .ok (.iconst 0, 1) := by decide +kernel
theorem dL_law_613 : decode cL_law 613 = .ok (.laload, 1) := by decide +kernel
theorem dL_law_614 : decode cL_law 614 = .ok (.iload 6, 2) := by decide +kernel
theorem dL_law_616 : decode cL_law 616 = .ok (.i2l, 1) := by decide +kernel
theorem dL_law_617 : decode cL_law 617 = .ok (.lcmp, 1) := by decide +kernel
theorem dL_law_618 : decode cL_law 618 = .ok (.ifCond .eq 5, 3) := by decide +kernel
theorem dL_law_621 : decode cL_law 621 = .ok (.iconst 0, 1) := by decide +kernel
theorem dL_law_622 : decode cL_law 622 = .ok (.ireturn, 1) := by decide +kernel
theorem dL_law_623 : decode cL_law 623 = .ok (.goto 78, 3) := by decide +kernel
theorem dL_law_626 : decode cL_law 626 = .ok (.aload_n 1, 1) := by decide +kernel
theorem dL_law_627 : decode cL_law 627 = .ok (.aload_n 0, 1) := by decide +kernel
theorem dL_law_628 : decode cL_law 628 = .ok (.iload 4, 2) := by decide +kernel
theorem dL_law_630 : decode cL_law 630 = .ok (.iconst 1, 1) := by decide +kernel
theorem dL_law_631 : decode cL_law 631 = .ok (.iadd, 1) := by decide +kernel
theorem dL_law_632 : decode cL_law 632 = .ok (.iaload, 1) := by decide +kernel
theorem dL_law_633 : decode cL_law 633 = .ok (.aload_n 0, 1) := by decide +kernel
theorem dL_law_634 : decode cL_law 634 = .ok (.iload 4, 2) := by decide +kernel
theorem dL_law_636 : decode cL_law 636 = .ok (.iconst 2, 1) := by decide +kernel
theorem dL_law_637 : decode cL_law 637 = .ok (.iadd, 1) := by decide +kernel
theorem dL_law_638 : decode cL_law 638 = .ok (.iaload, 1) := by decide +kernel
theorem dL_law_639 : decode cL_law 639 = .ok (.aload_n 3, 1) := by decide +kernel
theorem dL_law_640 : decode cL_law 640 = .ok (.invokestatic 93, 3) := by decide +kernel
theorem dL_law_643 : decode cL_law 643 = .ok (.istore 5, 2) := by decide +kernel
theorem dL_law_645 : decode cL_law 645 = .ok (.aload_n 2, 1) := by decide +kernel
theorem dL_law_646 : decode cL_law 646 = .ok (.aload_n 0, 1) := by decide +kernel
theorem dL_law_647 : decode cL_law 647 = .ok (.iload 4, 2) := by decide +kernel
theorem dL_law_649 : decode cL_law 649 = .ok (.iconst 1, 1) := by decide +kernel
theorem dL_law_650 : decode cL_law 650 = .ok (.iadd, 1) := by decide +kernel
theorem dL_law_651 : decode cL_law 651 = .ok (.iaload, 1) := by decide +kernel
theorem dL_law_652 : decode cL_law 652 = .ok (.aload_n 0, 1) := by decide +kernel
theorem dL_law_653 : decode cL_law 653 = .ok (.iload 4, 2) := by decide +kernel
theorem dL_law_655 : decode cL_law 655 = .ok (.iconst 2, 1) := by decide +kernel
theorem dL_law_656 : decode cL_law 656 = .ok (.iadd, 1) := by decide +kernel
theorem dL_law_657 : decode cL_law 657 = .ok (.iaload, 1) := by decide +kernel
theorem dL_law_658 : decode cL_law 658 = .ok (.invokevirtual 95, 3) := by decide +kernel
theorem dL_law_661 : decode cL_law 661 = .ok (.istore 6, 2) := by decide +kernel
theorem dL_law_663 : decode cL_law 663 = .ok (.aload_n 2, 1) := by decide +kernel
theorem dL_law_664 : decode cL_law 664 = .ok (.invokevirtual 57, 3) := by decide +kernel
theorem dL_law_667 : decode cL_law 667 = .ok (.iload 5, 2) := by decide +kernel
theorem dL_law_669 : decode cL_law 669 = .ok (.if_icmp .eq 5, 3) := by decide +kernel
theorem dL_law_672 : decode cL_law 672 = .ok (.iconst 0, 1) := by decide +kernel
theorem dL_law_673 : decode cL_law 673 = .ok (.ireturn, 1) := by decide +kernel
theorem dL_law_674 : decode cL_law 674 = .ok (.iload 5, 2) := by decide +kernel
theorem dL_law_676 : decode cL_law 676 = .ok (.ifCond .ne 22, 3) := by decide +kernel
theorem dL_law_679 : decode cL_law 679 = .ok (.aload_n 3, 1) := by decide +kernel
theorem dL_law_680 : decode cL_law 680 = .ok (.iconst 0, 1) := by decide +kernel
theorem dL_law_681 : decode cL_law 681 = .ok (.laload, 1) := by decide +kernel
theorem dL_law_682 : decode cL_law 682 = .ok (.iload 6, 2) := by decide +kernel
theorem dL_law_684 : decode cL_law 684 = .ok (.ifCond .eq 7, 3) := by decide +kernel
theorem dL_law_687 : decode cL_law 687 = .ok (.lconst 1, 1) := by decide +kernel
theorem dL_law_688 : decode cL_law 688 = .ok (.goto 4, 3) := by decide +kernel
theorem dL_law_691 : decode cL_law 691 = .ok (.lconst 0, 1) := by decide +kernel
theorem dL_law_692 : decode cL_law 692 = .ok (.lcmp, 1) := by decide +kernel
theorem dL_law_693 : decode cL_law 693 = .ok (.ifCond .eq 5, 3) := by decide +kernel
theorem dL_law_696 : decode cL_law 696 = .ok (.iconst 0, 1) := by decide +kernel
theorem dL_law_697 : decode cL_law 697 = .ok (.ireturn, 1) := by decide +kernel
theorem dL_law_698 : decode cL_law 698 = .ok (.goto 3, 3) := by decide +kernel
theorem dL_law_701 : decode cL_law 701 = .ok (.iinc 4 6, 3) := by decide +kernel
theorem dL_law_704 : decode cL_law 704 = .ok (.goto (-681), 3) := by decide +kernel
theorem dL_law_707 : decode cL_law 707 = .ok (.iconst 1, 1) := by decide +kernel
theorem dL_law_708 : decode cL_law 708 = .ok (.ireturn, 1) := by decide +kernel
