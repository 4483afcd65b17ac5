theorem dX0_init_0 : decode cX0_init 0 = .ok (.aload_n 0, 1) := by decide +kernel
theorem dX0_init_1 : decode cX0_init 1 = .ok (.invokespecial 3, 3) := by decide +kernel
theorem dX0_init_4 : decode cX0_init 4 = .ok (.aload_n 0, 1) := by decide +kernel
theorem dX0_init_5 : decode cX0_init 5 = .ok (.iload_n 1, 1) := by decide +kernel
theorem dX0_init_6 : decode cX0_init 6 = .ok (.ifCond .ge 7, 3) := by decide +kernel
theorem dX0_init_9 : decode cX0_init 9 = .ok (.iconst 0, 1) := by decide +kernel
theorem dX0_init_10 : decode cX0_init 10 = .ok (.goto 4, 3) := by decide +kernel
theorem dX0_init_13 : decode cX0_init 13 = .ok (.iload_n 1, 1) := by decide +kernel
theorem dX0_init_14 : decode cX0_init 14 = .ok (.newarray .int, 2) := by decide +kernel
theorem dX0_init_16 : decode cX0_init 16 = .ok (.putfield 9, 3) := by decide +kernel
theorem dX0_init_19 : decode cX0_init 19 = .ok (.return_, 1) := by decide +kernel
theorem dX0_count_0 : decode cX0_count 0 = .ok (.aload_n 0, 1) := by decide +kernel
theorem dX0_count_1 : decode cX0_count 1 = .ok (.getfield 15, 3) := by decide +kernel
theorem dX0_count_4 : decode cX0_count 4 = .ok (.ireturn, 1) := by decide +kernel
theorem dX0_at_0 : decode cX0_at 0 = .ok (.iload_n 1, 1) := by decide +kernel
theorem dX0_at_1 : decode cX0_at 1 = .ok (.ifCond .lt 21, 3) := by decide +kernel
theorem dX0_at_4 : decode cX0_at 4 = .ok (.iload_n 1, 1) := by decide +kernel
theorem dX0_at_5 : decode cX0_at 5 = .ok (.aload_n 0, 1) := by decide +kernel
theorem dX0_at_6 : decode cX0_at 6 = .ok (.getfield 9, 3) := by decide +kernel
theorem dX0_at_9 : decode cX0_at 9 = .ok (.arraylength, 1) := by decide +kernel
theorem dX0_at_10 : decode cX0_at 10 = .ok (.if_icmp .ge 12, 3) := by decide +kernel
theorem dX0_at_13 : decode cX0_at 13 = .ok (.aload_n 0, 1) := by decide +kernel
theorem dX0_at_14 : decode cX0_at 14 = .ok (.getfield 9, 3) := by decide +kernel
theorem dX0_at_17 : decode cX0_at 17 = .ok (.iload_n 1, 1) := by decide +kernel
theorem dX0_at_18 : decode cX0_at 18 = .ok (.iaload, 1) := by decide +kernel
theorem dX0_at_19 : decode cX0_at 19 = .ok (.goto 4, 3) := by decide +kernel
theorem dX0_at_22 : decode cX0_at 22 = .ok (.iconst 0, 1) := by decide +kernel
theorem dX0_at_23 : decode cX0_at 23 = .ok (.ireturn, 1) := by decide +kernel
theorem dX0_peek_0 : decode cX0_peek 0 = .ok (.iload_n 1, 1) := by decide +kernel
theorem dX0_peek_1 : decode cX0_peek 1 = .ok (.ifCond .lt 29, 3) := by decide +kernel
theorem dX0_peek_4 : decode cX0_peek 4 = .ok (.iload_n 1, 1) := by decide +kernel
theorem dX0_peek_5 : decode cX0_peek 5 = .ok (.aload_n 0, 1) := by decide +kernel
theorem dX0_peek_6 : decode cX0_peek 6 = .ok (.getfield 15, 3) := by decide +kernel
theorem dX0_peek_9 : decode cX0_peek 9 = .ok (.if_icmp .ge 21, 3) := by decide +kernel
theorem dX0_peek_12 : decode cX0_peek 12 = .ok (.iload_n 1, 1) := by decide +kernel
theorem dX0_peek_13 : decode cX0_peek 13 = .ok (.aload_n 0, 1) := by decide +kernel
theorem dX0_peek_14 : decode cX0_peek 14 = .ok (.getfield 9, 3) := by decide +kernel
theorem dX0_peek_17 : decode cX0_peek 17 = .ok (.arraylength, 1) := by decide +kernel
theorem dX0_peek_18 : decode cX0_peek 18 = .ok (.if_icmp .ge 12, 3) := by decide +kernel
theorem dX0_peek_21 : decode cX0_peek 21 = .ok (.aload_n 0, 1) := by decide +kernel
theorem dX0_peek_22 : decode cX0_peek 22 = .ok (.getfield 9, 3) := by decide +kernel
theorem dX0_peek_25 : decode cX0_peek 25 = .ok (.iload_n 1, 1) := by decide +kernel
theorem dX0_peek_26 : decode cX0_peek 26 = .ok (.iaload, 1) := by decide +kernel
theorem dX0_peek_27 : decode cX0_peek 27 = .ok (.goto 4, 3) := by decide +kernel
theorem dX0_peek_30 : decode cX0_peek 30 = .ok (.iconst (-1), 1) := by decide +kernel
theorem dX0_peek_31 : decode cX0_peek 31 = .ok (.ireturn, 1) := by decide +kernel
theorem dX0_put_0 : decode cX0_put 0 = .ok (.iload_n 1, 1) := by decide +kernel
theorem dX0_put_1 : decode cX0_put 1 = .ok (.ifCond .lt 19, 3) := by decide +kernel
theorem dX0_put_4 : decode cX0_put 4 = .ok (.iload_n 1, 1) := by decide +kernel
theorem dX0_put_5 : decode cX0_put 5 = .ok (.aload_n 0, 1) := by decide +kernel
theorem dX0_put_6 : decode cX0_put 6 = .ok (.getfield 9, 3) := by decide +kernel
theorem dX0_put_9 : decode cX0_put 9 = .ok (.arraylength, 1) := by decide +kernel
theorem dX0_put_10 : decode cX0_put 10 = .ok (.if_icmp .ge 10, 3) := by decide +kernel
theorem dX0_put_13 : decode cX0_put 13 = .ok (.aload_n 0, 1) := by decide +kernel
theorem dX0_put_14 : decode cX0_put 14 = .ok (.getfield 9, 3) := by decide +kernel
theorem dX0_put_17 : decode cX0_put 17 = .ok (.iload_n 1, 1) := by decide +kernel
theorem dX0_put_18 : decode cX0_put 18 = .ok (.iload_n 2, 1) := by decide +kernel
theorem dX0_put_19 : decode cX0_put 19 = .ok (.iastore, 1) := by decide +kernel
theorem dX0_put_20 : decode cX0_put 20 = .ok (.return_, 1) := by decide +kernel
theorem dX0_add_0 : decode cX0_add 0 = .ok (.aload_n 0, 1) := by decide +kernel
theorem dX0_add_1 : decode cX0_add 1 = .ok (.getfield 15, 3) := by decide +kernel
theorem dX0_add_4 : decode cX0_add 4 = .ok (.ifCond .lt 15, 3) := by decide +kernel
theorem dX0_add_7 : decode cX0_add 7 = .ok (.aload_n 0, 1) := by decide +kernel
theorem dX0_add_8 : decode cX0_add 8 = .ok (.getfield 15, 3) := by decide +kernel
theorem dX0_add_11 : decode cX0_add 11 = .ok (.aload_n 0, 1) := by decide +kernel
theorem dX0_add_12 : decode cX0_add 12 = .ok (.getfield 9, 3) := by decide +kernel
theorem dX0_add_15 : decode cX0_add 15 = .ok (.arraylength, 1) := by decide +kernel
theorem dX0_add_16 : decode cX0_add 16 = .ok (.if_icmp .lt 5, 3) := by decide +kernel
theorem dX0_add_19 : decode cX0_add 19 = .ok (.iconst 0, 1) := by decide +kernel
theorem dX0_add_20 : decode cX0_add 20 = .ok (.ireturn, 1) := by decide +kernel
theorem dX0_add_21 : decode cX0_add 21 = .ok (.aload_n 0, 1) := by decide +kernel
theorem dX0_add_22 : decode cX0_add 22 = .ok (.getfield 9, 3) := by decide +kernel
theorem dX0_add_25 : decode cX0_add 25 = .ok (.aload_n 0, 1) := by decide +kernel
theorem dX0_add_26 : decode cX0_add 26 = .ok (.getfield 15, 3) := by decide +kernel
theorem dX0_add_29 : decode cX0_add 29 = .ok (.iload_n 1, 1) := by decide +kernel
theorem dX0_add_30 : decode cX0_add 30 = .ok (.iastore, 1) := by decide +kernel
theorem dX0_add_31 : decode cX0_add 31 = .ok (.aload_n 0, 1) := by decide +kernel
theorem dX0_add_32 : decode cX0_add 32 = .ok (.dup, 1) := by decide +kernel
theorem dX0_add_33 : decode cX0_add 33 = .ok (.getfield 15, 3) := by decide +kernel
theorem dX0_add_36 : decode cX0_add 36 = .ok (.iconst 1, 1) := by decide +kernel
theorem dX0_add_37 : decode cX0_add 37 = .ok (.iadd, 1) := by decide +kernel
theorem dX0_add_38 : decode cX0_add 38 = .ok (.putfield 15, 3) := by decide +kernel
theorem dX0_add_41 : decode cX0_add 41 = .ok (.iconst 1, 1) := by decide +kernel
theorem dX0_add_42 : decode cX0_add 42 = .ok (.ireturn, 1) := by decide +kernel
theorem dX0_cut_0 : decode cX0_cut 0 = .ok (.iload_n 1, 1) := by decide +kernel
theorem dX0_cut_1 : decode cX0_cut 1 = .ok (.ifCond .lt 17, 3) := by decide +kernel
theorem dX0_cut_4 : decode cX0_cut 4 = .ok (.iload_n 1, 1) := by decide +kernel
theorem dX0_cut_5 : decode cX0_cut 5 = .ok (.aload_n 0, 1) := by decide +kernel
theorem dX0_cut_6 : decode cX0_cut 6 = .ok (.getfield 9, 3) := by decide +kernel
theorem dX0_cut_9 : decode cX0_cut 9 = .ok (.arraylength, 1) := by decide +kernel
theorem dX0_cut_10 : decode cX0_cut 10 = .ok (.if_icmp .gt 8, 3) := by decide +kernel
theorem dX0_cut_13 : decode cX0_cut 13 = .ok (.aload_n 0, 1) := by decide +kernel
theorem dX0_cut_14 : decode cX0_cut 14 = .ok (.iload_n 1, 1) := by decide +kernel
theorem dX0_cut_15 : decode cX0_cut 15 = .ok (.putfield 15, 3) := by decide +kernel
theorem dX0_cut_18 : decode cX0_cut 18 = .ok (.return_, 1) := by decide +kernel
theorem dX0_addPart_0 : decode cX0_addPart 0 = .ok (.aload_n 1, 1) := by decide +kernel
theorem dX0_addPart_1 : decode cX0_addPart 1 = .ok (.ifnull 37, 3) := by decide +kernel
theorem dX0_addPart_4 : decode cX0_addPart 4 = .ok (.iload_n 2, 1) := by decide +kernel
theorem dX0_addPart_5 : decode cX0_addPart 5 = .ok (.ifCond .lt 33, 3) := by decide +kernel
theorem dX0_addPart_8 : decode cX0_addPart 8 = .ok (.iload_n 3, 1) := by decide +kernel
theorem dX0_addPart_9 : decode cX0_addPart 9 = .ok (.iload_n 2, 1) := by decide +kernel
theorem dX0_addPart_10 : decode cX0_addPart 10 = .ok (.if_icmp .lt 28, 3) := by decide +kernel
theorem dX0_addPart_13 : decode cX0_addPart 13 = .ok (.iload_n 3, 1) := by decide +kernel
theorem dX0_addPart_14 : decode cX0_addPart 14 = .ok (.aload_n 1, 1) := by decide +kernel
theorem dX0_addPart_15 : decode cX0_addPart 15 = .ok (.getfield 9, 3) := by decide +kernel
theorem dX0_addPart_18 : decode cX0_addPart 18 = .ok (.arraylength, 1) := by decide +kernel
theorem dX0_addPart_19 : decode cX0_addPart 19 = .ok (.if_icmp .gt 19, 3) := by decide +kernel
theorem dX0_addPart_22 : decode cX0_addPart 22 = .ok (.iload_n 3, 1) := by decide +kernel
theorem dX0_addPart_23 : decode cX0_addPart 23 = .ok (.iload_n 2, 1) := by decide +kernel
theorem dX0_addPart_24 : decode cX0_addPart 24 = .ok (.isub, 1) := by decide +kernel
theorem dX0_addPart_25 : decode cX0_addPart 25 = .ok (.aload_n 0, 1) := by decide +kernel
theorem dX0_addPart_26 : decode cX0_addPart 26 = .ok (.getfield 9, 3) := by decide +kernel
theorem dX0_addPart_29 : decode cX0_addPart 29 = .ok (.arraylength, 1) := by decide +kernel
theorem dX0_addPart_30 : decode cX0_addPart 30 = .ok (.aload_n 0, 1) := by decide +kernel
theorem dX0_addPart_31 : decode cX0_addPart 31 = .ok (.getfield 15, 3) := by decide +kernel
theorem dX0_addPart_34 : decode cX0_addPart 34 = .ok (.isub, 1) := by decide +kernel
theorem dX0_addPart_35 : decode cX0_addPart 35 = .ok (.if_icmp .le 5, 3) := by decide +kernel
theorem dX0_addPart_38 : decode cX0_addPart 38 = .ok (.iconst 0, 1) := by decide +kernel
theorem dX0_addPart_39 : decode cX0_addPart 39 = .ok (.ireturn, 1) := by decide +kernel
theorem dX0_addPart_40 : decode cX0_addPart 40 = .ok (.aload_n 1, 1) := by decide +kernel
theorem dX0_addPart_41 : decode cX0_addPart 41 = .ok (.getfield 9, 3) := by decide +kernel
theorem dX0_addPart_44 : decode cX0_addPart 44 = .ok (.iload_n 2, 1) := by decide +kernel
theorem dX0_addPart_45 : decode cX0_addPart 45 = .ok (.aload_n 0, 1) := by decide +kernel
theorem dX0_addPart_46 : decode cX0_addPart 46 = .ok (.getfield 9, 3) := by decide +kernel
theorem dX0_addPart_49 : decode cX0_addPart 49 = .ok (.aload_n 0, 1) := by decide +kernel
theorem dX0_addPart_50 : decode cX0_addPart 50 = .ok (.getfield 15, 3) := by decide +kernel
theorem dX0_addPart_53 : decode cX0_addPart 53 = .ok (.iload_n 3, 1) := by decide +kernel
theorem dX0_addPart_54 : decode cX0_addPart 54 = .ok (.iload_n 2, 1) := by decide +kernel
theorem dX0_addPart_55 : decode cX0_addPart 55 = .ok (.isub, 1) := by decide +kernel
theorem dX0_addPart_56 : decode cX0_addPart 56 = .ok (.invokestatic 19, 3) := by decide +kernel
theorem dX0_addPart_59 : decode cX0_addPart 59 = .ok (.aload_n 0, 1) := by decide +kernel
theorem dX0_addPart_60 : decode cX0_addPart 60 = .ok (.dup, 1) := by decide +kernel
theorem dX0_addPart_61 : decode cX0_addPart 61 = .ok (.getfield 15, 3) := by decide +kernel
theorem dX0_addPart_64 : decode cX0_addPart 64 = .ok (.iload_n 3, 1) := by decide +kernel
theorem dX0_addPart_65 : decode cX0_addPart 65 = .ok (.iload_n 2, 1) := by decide +kernel
theorem dX0_addPart_66 : decode cX0_addPart 66 = .ok (.isub, 1) := by decide +kernel
theorem dX0_addPart_67 : decode cX0_addPart 67 = .ok (.iadd, 1) := by decide +kernel
theorem dX0_addPart_68 : decode cX0_addPart 68 = .ok (.putfield 15, 3) := by decide +kernel
theorem dX0_addPart_71 : decode cX0_addPart 71 = .ok (.iconst 1, 1) := by decide +kernel
theorem dX0_addPart_72 : decode cX0_addPart 72 = .ok (.ireturn, 1) := by decide +kernel
theorem dX0_addVarint_0 : decode cX0_addVarint 0 = .ok (.lload_n 1, 1) := by decide +kernel
theorem dX0_addVarint_1 : decode cX0_addVarint 1 = .ok (.iconst 1, 1) := by decide +kernel
theorem dX0_addVarint_2 : decode cX0_addVarint 2 = .ok (.lshl, 1) := by decide +kernel
theorem dX0_addVarint_3 : decode cX0_addVarint 3 = .ok (.lload_n 1, 1) := by decide +kernel
theorem dX0_addVarint_4 : decode cX0_addVarint 4 = .ok (.bipush 63, 2) := by decide +kernel
theorem dX0_addVarint_6 : decode cX0_addVarint 6 = .ok (.lshr, 1) := by decide +kernel
theorem dX0_addVarint_7 : decode cX0_addVarint 7 = .ok (.lxor, 1) := by decide +kernel
theorem dX0_addVarint_8 : decode cX0_addVarint 8 = .ok (.lstore_n 3, 1) := by decide +kernel
theorem dX0_addVarint_9 : decode cX0_addVarint 9 = .ok (.iconst 0, 1) := by decide +kernel
theorem dX0_addVarint_10 : decode cX0_addVarint 10 = .ok (.istore 5, 2) := by decide +kernel
theorem dX0_addVarint_12 : decode cX0_addVarint 12 = .ok (.iload 5, 2) := by decide +kernel
theorem dX0_addVarint_14 : decode cX0_addVarint 14 = .ok (.bipush 10, 2) := by decide +kernel
theorem dX0_addVarint_16 : decode cX0_addVarint 16 = .ok (.if_icmp .ge 65, 3) := by decide +kernel
theorem dX0_addVarint_19 : decode cX0_addVarint 19 = .ok (.lload_n 3, 1) := by decide +kernel
theorem dX0_addVarint_20 : decode cX0_addVarint 20 = .ok (.bipush 7, 2) := by decide +kernel
theorem dX0_addVarint_22 : decode cX0_addVarint 22 = .ok (.lushr, 1) := by decide +kernel
theorem dX0_addVarint_23 : decode cX0_addVarint 23 = .ok (.lconst 0, 1) := by decide +kernel
theorem dX0_addVarint_24 : decode cX0_addVarint 24 = .ok (.lcmp, 1) := by decide +kernel
theorem dX0_addVarint_25 : decode cX0_addVarint 25 = .ok (.ifCond .ne 7, 3) := by decide +kernel
theorem dX0_addVarint_28 : decode cX0_addVarint 28 = .ok (.iconst 1, 1) := by decide +kernel
theorem dX0_addVarint_29 : decode cX0_addVarint 29 = .ok (.goto 4, 3) := by decide +kernel
theorem dX0_addVarint_32 : decode cX0_addVarint 32 = .ok (.iconst 0, 1) := by decide +kernel
theorem dX0_addVarint_33 : decode cX0_addVarint 33 = .ok (.istore 6, 2) := by decide +kernel
theorem dX0_addVarint_35 : decode cX0_addVarint 35 = .ok (.aload_n 0, 1) := by decide +kernel
theorem dX0_addVarint_36 : decode cX0_addVarint 36 = .ok (.lload_n 3, 1) := by decide +kernel
theorem dX0_addVarint_37 : decode cX0_addVarint 37 = .ok (.ldc2_w 25, 3) := by decide +kernel
theorem dX0_addVarint_40 : decode cX0_addVarint 40 = .ok (.land, 1) := by decide +kernel
theorem dX0_addVarint_41 : decode cX0_addVarint 41 = .ok (.l2i, 1) := by decide +kernel
theorem dX0_addVarint_42 : decode cX0_addVarint 42 = .ok (.iload 6, 2) := by decide +kernel
theorem dX0_addVarint_44 : decode cX0_addVarint 44 = .ok (.ifCond .eq 7, 3) := by decide +kernel
theorem dX0_addVarint_47 : decode cX0_addVarint 47 = .ok (.iconst 0, 1) := by decide +kernel
theorem dX0_addVarint_48 : decode cX0_addVarint 48 = .ok (.goto 6, 3) := by decide +kernel
theorem dX0_addVarint_51 : decode cX0_addVarint 51 = .ok (.sipush 128, 3) := by decide +kernel
theorem dX0_addVarint_54 : decode cX0_addVarint 54 = .ok (.ior, 1) := by decide +kernel
theorem dX0_addVarint_55 : decode cX0_addVarint 55 = .ok (.invokevirtual 27, 3) := by decide +kernel
theorem dX0_addVarint_58 : decode cX0_addVarint 58 = .ok (.ifCond .ne 5, 3) := by decide +kernel
theorem dX0_addVarint_61 : decode cX0_addVarint 61 = .ok (.iconst 0, 1) := by decide +kernel
theorem dX0_addVarint_62 : decode cX0_addVarint 62 = .ok (.ireturn, 1) := by decide +kernel
theorem dX0_addVarint_63 : decode cX0_addVarint 63 = .ok (.iload 6, 2) := by decide +kernel
theorem dX0_addVarint_65 : decode cX0_addVarint 65 = .ok (.ifCond .eq 5, 3) := by decide +kernel
theorem dX0_addVarint_68 : decode cX0_addVarint 68 = .ok (.iconst 1, 1) := by decide +kernel
theorem dX0_addVarint_69 : decode cX0_addVarint 69 = .ok (.ireturn, 1) := by decide +kernel
theorem dX0_addVarint_70 : decode cX0_addVarint 70 = .ok (.lload_n 3, 1) := by decide +kernel
theorem dX0_addVarint_71 : decode cX0_addVarint 71 = .ok (.bipush 7, 2) := by decide +kernel
theorem dX0_addVarint_73 : decode cX0_addVarint 73 = .ok (.lushr, 1) := by decide +kernel
theorem dX0_addVarint_74 : decode cX0_addVarint 74 = .ok (.lstore_n 3, 1) := by decide +kernel
theorem dX0_addVarint_75 : decode cX0_addVarint 75 = .ok (.iinc 5 1, 3) := by decide +kernel
theorem dX0_addVarint_78 : decode cX0_addVarint 78 = .ok (.goto (-66), 3) := by decide +kernel
theorem dX0_addVarint_81 : decode cX0_addVarint 81 = .ok (.iconst 1, 1) := by decide +kernel
theorem dX0_addVarint_82 : decode cX0_addVarint 82 = .ok (.ireturn, 1) := by decide +kernel
theorem dX0_rotate_0 : decode cX0_rotate 0 = .ok (.aload_n 0, 1) := by decide +kernel
theorem dX0_rotate_1 : decode cX0_rotate 1 = .ok (.iload_n 1, 1) := by decide +kernel
theorem dX0_rotate_2 : decode cX0_rotate 2 = .ok (.iload_n 2, 1) := by decide +kernel
theorem dX0_rotate_3 : decode cX0_rotate 3 = .ok (.invokevirtual 31, 3) := by decide +kernel
theorem dX0_rotate_6 : decode cX0_rotate 6 = .ok (.aload_n 0, 1) := by decide +kernel
theorem dX0_rotate_7 : decode cX0_rotate 7 = .ok (.iload_n 2, 1) := by decide +kernel
theorem dX0_rotate_8 : decode cX0_rotate 8 = .ok (.aload_n 0, 1) := by decide +kernel
theorem dX0_rotate_9 : decode cX0_rotate 9 = .ok (.getfield 15, 3) := by decide +kernel
theorem dX0_rotate_12 : decode cX0_rotate 12 = .ok (.invokevirtual 31, 3) := by decide +kernel
theorem dX0_rotate_15 : decode cX0_rotate 15 = .ok (.aload_n 0, 1) := by decide +kernel
theorem dX0_rotate_16 : decode cX0_rotate 16 = .ok (.iload_n 1, 1) := by decide +kernel
theorem dX0_rotate_17 : decode cX0_rotate 17 = .ok (.aload_n 0, 1) := by decide +kernel
theorem dX0_rotate_18 : decode cX0_rotate 18 = .ok (.getfield 15, 3) := by decide +kernel
theorem dX0_rotate_21 : decode cX0_rotate 21 = .ok (.invokevirtual 31, 3) := by decide +kernel
theorem dX0_rotate_24 : decode cX0_rotate 24 = .ok (.return_, 1) := by decide +kernel
theorem dX0_reverse_0 : decode cX0_reverse 0 = .ok (.iload_n 1, 1) := by decide +kernel
theorem dX0_reverse_1 : decode cX0_reverse 1 = .ok (.istore_n 3, 1) := by decide +kernel
theorem dX0_reverse_2 : decode cX0_reverse 2 = .ok (.iload_n 2, 1) := by decide +kernel
theorem dX0_reverse_3 : decode cX0_reverse 3 = .ok (.iconst 1, 1) := by decide +kernel
theorem dX0_reverse_4 : decode cX0_reverse 4 = .ok (.isub, 1) := by decide +kernel
theorem dX0_reverse_5 : decode cX0_reverse 5 = .ok (.istore 4, 2) := by decide +kernel
theorem dX0_reverse_7 : decode cX0_reverse 7 = .ok (.iload_n 3, 1) := by decide +kernel
theorem dX0_reverse_8 : decode cX0_reverse 8 = .ok (.iload 4, 2) := by decide +kernel
theorem dX0_reverse_10 : decode cX0_reverse 10 = .ok (.if_icmp .ge 38, 3) := by decide +kernel
theorem dX0_reverse_13 : decode cX0_reverse 13 = .ok (.aload_n 0, 1) := by decide +kernel
theorem dX0_reverse_14 : decode cX0_reverse 14 = .ok (.iload_n 3, 1) := by decide +kernel
theorem dX0_reverse_15 : decode cX0_reverse 15 = .ok (.invokevirtual 35, 3) := by decide +kernel
theorem dX0_reverse_18 : decode cX0_reverse 18 = .ok (.istore 5, 2) := by decide +kernel
theorem dX0_reverse_20 : decode cX0_reverse 20 = .ok (.aload_n 0, 1) := by decide +kernel
theorem dX0_reverse_21 : decode cX0_reverse 21 = .ok (.iload_n 3, 1) := by decide +kernel
theorem dX0_reverse_22 : decode cX0_reverse 22 = .ok (.aload_n 0, 1) := by decide +kernel
theorem dX0_reverse_23 : decode cX0_reverse 23 = .ok (.iload 4, 2) := by decide +kernel
theorem dX0_reverse_25 : decode cX0_reverse 25 = .ok (.invokevirtual 35, 3) := by decide +kernel
theorem dX0_reverse_28 : decode cX0_reverse 28 = .ok (.invokevirtual 39, 3) := by decide +kernel
theorem dX0_reverse_31 : decode cX0_reverse 31 = .ok (.aload_n 0, 1) := by decide +kernel
theorem dX0_reverse_32 : decode cX0_reverse 32 = .ok (.iload 4, 2) := by decide +kernel
theorem dX0_reverse_34 : decode cX0_reverse 34 = .ok (.iload 5, 2) := by decide +kernel
theorem dX0_reverse_36 : decode cX0_reverse 36 = .ok (.invokevirtual 39, 3) := by decide +kernel
theorem dX0_reverse_39 : decode cX0_reverse 39 = .ok (.iinc 3 1, 3) := by decide +kernel
theorem dX0_reverse_42 : decode cX0_reverse 42 = .ok (.iinc 4 (-1), 3) := by decide +kernel
theorem dX0_reverse_45 : decode cX0_reverse 45 = .ok (.goto (-38), 3) := by decide +kernel
theorem dX0_reverse_48 : decode cX0_reverse 48 = .ok (.return_, 1) := by decide +kernel
theorem dX0_isWord_0 : decode cX0_isWord 0 = .ok (.aload_n 2, 1) := by decide +kernel
theorem dX0_isWord_1 : decode cX0_isWord 1 = .ok (.ifnull 29, 3) := by decide +kernel
theorem dX0_isWord_4 : decode cX0_isWord 4 = .ok (.iload_n 1, 1) := by decide +kernel
theorem dX0_isWord_5 : decode cX0_isWord 5 = .ok (.ifCond .lt 25, 3) := by decide +kernel
theorem dX0_isWord_8 : decode cX0_isWord 8 = .ok (.iload_n 1, 1) := by decide +kernel
theorem dX0_isWord_9 : decode cX0_isWord 9 = .ok (.aload_n 0, 1) := by decide +kernel
theorem dX0_isWord_10 : decode cX0_isWord 10 = .ok (.getfield 9, 3) := by decide +kernel
theorem dX0_isWord_13 : decode cX0_isWord 13 = .ok (.arraylength, 1) := by decide +kernel
theorem dX0_isWord_14 : decode cX0_isWord 14 = .ok (.if_icmp .ge 16, 3) := by decide +kernel
theorem dX0_isWord_17 : decode cX0_isWord 17 = .ok (.iload_n 3, 1) := by decide +kernel
theorem dX0_isWord_18 : decode cX0_isWord 18 = .ok (.ifCond .lt 12, 3) := by decide +kernel
theorem dX0_isWord_21 : decode cX0_isWord 21 = .ok (.iload_n 3, 1) := by decide +kernel
theorem dX0_isWord_22 : decode cX0_isWord 22 = .ok (.aload_n 2, 1) := by decide +kernel
theorem dX0_isWord_23 : decode cX0_isWord 23 = .ok (.getfield 9, 3) := by decide +kernel
theorem dX0_isWord_26 : decode cX0_isWord 26 = .ok (.arraylength, 1) := by decide +kernel
theorem dX0_isWord_27 : decode cX0_isWord 27 = .ok (.if_icmp .lt 5, 3) := by decide +kernel
theorem dX0_isWord_30 : decode cX0_isWord 30 = .ok (.iconst 0, 1) := by decide +kernel
theorem dX0_isWord_31 : decode cX0_isWord 31 = .ok (.ireturn, 1) := by decide +kernel
theorem dX0_isWord_32 : decode cX0_isWord 32 = .ok (.aload_n 0, 1) := by decide +kernel
theorem dX0_isWord_33 : decode cX0_isWord 33 = .ok (.getfield 9, 3) := by decide +kernel
theorem dX0_isWord_36 : decode cX0_isWord 36 = .ok (.iload_n 1, 1) := by decide +kernel
theorem dX0_isWord_37 : decode cX0_isWord 37 = .ok (.iaload, 1) := by decide +kernel
theorem dX0_isWord_38 : decode cX0_isWord 38 = .ok (.istore 4, 2) := by decide +kernel
theorem dX0_isWord_40 : decode cX0_isWord 40 = .ok (.iload 4, 2) := by decide +kernel
theorem dX0_isWord_42 : decode cX0_isWord 42 = .ok (.aload_n 2, 1) := by decide +kernel
theorem dX0_isWord_43 : decode cX0_isWord 43 = .ok (.getfield 9, 3) := by decide +kernel
theorem dX0_isWord_46 : decode cX0_isWord 46 = .ok (.iload_n 3, 1) := by decide +kernel
theorem dX0_isWord_47 : decode cX0_isWord 47 = .ok (.iaload, 1) := by decide +kernel
theorem dX0_isWord_48 : decode cX0_isWord 48 = .ok (.if_icmp .ne 27, 3) := by decide +kernel
theorem dX0_isWord_51 : decode cX0_isWord 51 = .ok (.iload 4, 2) := by decide +kernel
theorem dX0_isWord_53 : decode cX0_isWord 53 = .ok (.aload_n 0, 1) := by decide +kernel
theorem dX0_isWord_54 : decode cX0_isWord 54 = .ok (.getfield 9, 3) := by decide +kernel
theorem dX0_isWord_57 : decode cX0_isWord 57 = .ok (.arraylength, 1) := by decide +kernel
theorem dX0_isWord_58 : decode cX0_isWord 58 = .ok (.iload_n 1, 1) := by decide +kernel
theorem dX0_isWord_59 : decode cX0_isWord 59 = .ok (.isub, 1) := by decide +kernel
theorem dX0_isWord_60 : decode cX0_isWord 60 = .ok (.if_icmp .ge 15, 3) := by decide +kernel
theorem dX0_isWord_63 : decode cX0_isWord 63 = .ok (.iload 4, 2) := by decide +kernel
theorem dX0_isWord_65 : decode cX0_isWord 65 = .ok (.aload_n 2, 1) := by decide +kernel
theorem dX0_isWord_66 : decode cX0_isWord 66 = .ok (.getfield 9, 3) := by decide +kernel
theorem dX0_isWord_69 : decode cX0_isWord 69 = .ok (.arraylength, 1) := by decide +kernel
theorem dX0_isWord_70 : decode cX0_isWord 70 = .ok (.iload_n 3, 1) := by decide +kernel
theorem dX0_isWord_71 : decode cX0_isWord 71 = .ok (.isub, 1) := by decide +kernel
theorem dX0_isWord_72 : decode cX0_isWord 72 = .ok (.if_icmp .lt 5, 3) := by decide +kernel
theorem dX0_isWord_75 : decode cX0_isWord 75 = .ok (.iconst 0, 1) := by decide +kernel
theorem dX0_isWord_76 : decode cX0_isWord 76 = .ok (.ireturn, 1) := by decide +kernel
theorem dX0_isWord_77 : decode cX0_isWord 77 = .ok (.iconst 1, 1) := by decide +kernel
theorem dX0_isWord_78 : decode cX0_isWord 78 = .ok (.istore 5, 2) := by decide +kernel
theorem dX0_isWord_80 : decode cX0_isWord 80 = .ok (.iload 5, 2) := by decide +kernel
theorem dX0_isWord_82 : decode cX0_isWord 82 = .ok (.iload 4, 2) := by decide +kernel
theorem dX0_isWord_84 : decode cX0_isWord 84 = .ok (.if_icmp .gt 32, 3) := by decide +kernel
theorem dX0_isWord_87 : decode cX0_isWord 87 = .ok (.aload_n 0, 1) := by decide +kernel
theorem dX0_isWord_88 : decode cX0_isWord 88 = .ok (.getfield 9, 3) := by decide +kernel
theorem dX0_isWord_91 : decode cX0_isWord 91 = .ok (.iload_n 1, 1) := by decide +kernel
theorem dX0_isWord_92 : decode cX0_isWord 92 = .ok (.iload 5, 2) := by decide +kernel
theorem dX0_isWord_94 : decode cX0_isWord 94 = .ok (.iadd, 1) := by decide +kernel
theorem dX0_isWord_95 : decode cX0_isWord 95 = .ok (.iaload, 1) := by decide +kernel
theorem dX0_isWord_96 : decode cX0_isWord 96 = .ok (.aload_n 2, 1) := by decide +kernel
theorem dX0_isWord_97 : decode cX0_isWord 97 = .ok (.getfield 9, 3) := by decide +kernel
theorem dX0_isWord_100 : decode cX0_isWord 100 = .ok (.iload_n 3, 1) := by decide +kernel
theorem dX0_isWord_101 : decode cX0_isWord 101 = .ok (.iload 5, 2) := by decide +kernel
theorem dX0_isWord_103 : decode cX0_isWord 103 = .ok (.iadd, 1) := by decide +kernel
theorem dX0_isWord_104 : decode cX0_isWord 104 = .ok (.iaload, 1) := by decide +kernel
theorem dX0_isWord_105 : decode cX0_isWord 105 = .ok (.if_icmp .eq 5, 3) := by decide +kernel
theorem dX0_isWord_108 : decode cX0_isWord 108 = .ok (.iconst 0, 1) := by decide +kernel
theorem dX0_isWord_109 : decode cX0_isWord 109 = .ok (.ireturn, 1) := by decide +kernel
theorem dX0_isWord_110 : decode cX0_isWord 110 = .ok (.iinc 5 1, 3) := by decide +kernel
theorem dX0_isWord_113 : decode cX0_isWord 113 = .ok (.goto (-33), 3) := by decide +kernel
theorem dX0_isWord_116 : decode cX0_isWord 116 = .ok (.iconst 1, 1) := by decide +kernel
theorem dX0_isWord_117 : decode cX0_isWord 117 = .ok (.ireturn, 1) := by decide +kernel
theorem dX0_says_0 : decode cX0_says 0 = .ok (.aload_n 2, 1) := by decide +kernel
theorem dX0_says_1 : decode cX0_says 1 = .ok (.ifnonnull 7, 3) := by decide +kernel
theorem dX0_says_4 : decode cX0_says 4 = .ok (.iconst 0, 1) := by decide +kernel
theorem dX0_says_5 : decode cX0_says 5 = .ok (.goto 7, 3) := by decide +kernel
theorem dX0_says_8 : decode cX0_says 8 = .ok (.aload_n 2, 1) := by decide +kernel
theorem dX0_says_9 : decode cX0_says 9 = .ok (.invokevirtual 42, 3) := by decide +kernel
theorem dX0_says_12 : decode cX0_says 12 = .ok (.istore_n 3, 1) := by decide +kernel
theorem dX0_says_13 : decode cX0_says 13 = .ok (.aload_n 2, 1) := by decide +kernel
theorem dX0_says_14 : decode cX0_says 14 = .ok (.ifnull 37, 3) := by decide +kernel
theorem dX0_says_17 : decode cX0_says 17 = .ok (.iload_n 1, 1) := by decide +kernel
theorem dX0_says_18 : decode cX0_says 18 = .ok (.ifCond .lt 33, 3) := by decide +kernel
theorem dX0_says_21 : decode cX0_says 21 = .ok (.iload_n 1, 1) := by decide +kernel
theorem dX0_says_22 : decode cX0_says 22 = .ok (.aload_n 0, 1) := by decide +kernel
theorem dX0_says_23 : decode cX0_says 23 = .ok (.getfield 9, 3) := by decide +kernel
theorem dX0_says_26 : decode cX0_says 26 = .ok (.arraylength, 1) := by decide +kernel
theorem dX0_says_27 : decode cX0_says 27 = .ok (.if_icmp .ge 24, 3) := by decide +kernel
theorem dX0_says_30 : decode cX0_says 30 = .ok (.aload_n 0, 1) := by decide +kernel
theorem dX0_says_31 : decode cX0_says 31 = .ok (.getfield 9, 3) := by decide +kernel
theorem dX0_says_34 : decode cX0_says 34 = .ok (.iload_n 1, 1) := by decide +kernel
theorem dX0_says_35 : decode cX0_says 35 = .ok (.iaload, 1) := by decide +kernel
theorem dX0_says_36 : decode cX0_says 36 = .ok (.iload_n 3, 1) := by decide +kernel
theorem dX0_says_37 : decode cX0_says 37 = .ok (.if_icmp .ne 14, 3) := by decide +kernel
theorem dX0_says_40 : decode cX0_says 40 = .ok (.iload_n 3, 1) := by decide +kernel
theorem dX0_says_41 : decode cX0_says 41 = .ok (.aload_n 0, 1) := by decide +kernel
theorem dX0_says_42 : decode cX0_says 42 = .ok (.getfield 9, 3) := by decide +kernel
theorem dX0_says_45 : decode cX0_says 45 = .ok (.arraylength, 1) := by decide +kernel
theorem dX0_says_46 : decode cX0_says 46 = .ok (.iload_n 1, 1) := by decide +kernel
theorem dX0_says_47 : decode cX0_says 47 = .ok (.isub, 1) := by decide +kernel
theorem dX0_says_48 : decode cX0_says 48 = .ok (.if_icmp .lt 5, 3) := by decide +kernel
theorem dX0_says_51 : decode cX0_says 51 = .ok (.iconst 0, 1) := by decide +kernel
theorem dX0_says_52 : decode cX0_says 52 = .ok (.ireturn, 1) := by decide +kernel
theorem dX0_says_53 : decode cX0_says 53 = .ok (.iconst 0, 1) := by decide +kernel
theorem dX0_says_54 : decode cX0_says 54 = .ok (.istore 4, 2) := by decide +kernel
theorem dX0_says_56 : decode cX0_says 56 = .ok (.iload 4, 2) := by decide +kernel
theorem dX0_says_58 : decode cX0_says 58 = .ok (.iload_n 3, 1) := by decide +kernel
theorem dX0_says_59 : decode cX0_says 59 = .ok (.if_icmp .ge 31, 3) := by decide +kernel
theorem dX0_says_62 : decode cX0_says 62 = .ok (.aload_n 0, 1) := by decide +kernel
theorem dX0_says_63 : decode cX0_says 63 = .ok (.getfield 9, 3) := by decide +kernel
theorem dX0_says_66 : decode cX0_says 66 = .ok (.iload_n 1, 1) := by decide +kernel
theorem dX0_says_67 : decode cX0_says 67 = .ok (.iconst 1, 1) := by decide +kernel
theorem dX0_says_68 : decode cX0_says 68 = .ok (.iadd, 1) := by decide +kernel
theorem dX0_says_69 : decode cX0_says 69 = .ok (.iload 4, 2) := by decide +kernel
theorem dX0_says_71 : decode cX0_says 71 = .ok (.iadd, 1) := by decide +kernel
theorem dX0_says_72 : decode cX0_says 72 = .ok (.iaload, 1) := by decide +kernel
theorem dX0_says_73 : decode cX0_says 73 = .ok (.aload_n 2, 1) := by decide +kernel
theorem dX0_says_74 : decode cX0_says 74 = .ok (.iload 4, 2) := by decide +kernel
theorem dX0_says_76 : decode cX0_says 76 = .ok (.invokevirtual 48, 3) := by decide +kernel
theorem dX0_says_79 : decode cX0_says 79 = .ok (.if_icmp .eq 5, 3) := by decide +kernel
theorem dX0_says_82 : decode cX0_says 82 = .ok (.iconst 0, 1) := by decide +kernel
theorem dX0_says_83 : decode cX0_says 83 = .ok (.ireturn, 1) := by decide +kernel
theorem dX0_says_84 : decode cX0_says 84 = .ok (.iinc 4 1, 3) := by decide +kernel
theorem dX0_says_87 : decode cX0_says 87 = .ok (.goto (-31), 3) := by decide +kernel
theorem dX0_says_90 : decode cX0_says 90 = .ok (.iconst 1, 1) := by decide +kernel
theorem dX0_says_91 : decode cX0_says 91 = .ok (.ireturn, 1) := by decide +kernel
theorem dX1_init_0 : decode cX1_init 0 = .ok (.aload_n 0, 1) := by decide +kernel
theorem dX1_init_1 : decode cX1_init 1 = .ok (.invokespecial 3, 3) := by decide +kernel
theorem dX1_init_4 : decode cX1_init 4 = .ok (.aload_n 0, 1) := by decide +kernel
theorem dX1_init_5 : decode cX1_init 5 = .ok (.new 9, 3) := by decide +kernel
theorem dX1_init_8 : decode cX1_init 8 = .ok (.dup, 1) := by decide +kernel
theorem dX1_init_9 : decode cX1_init 9 = .ok (.invokespecial 11, 3) := by decide +kernel
theorem dX1_init_12 : decode cX1_init 12 = .ok (.putfield 12, 3) := by decide +kernel
theorem dX1_init_15 : decode cX1_init 15 = .ok (.aload_n 0, 1) := by decide +kernel
theorem dX1_init_16 : decode cX1_init 16 = .ok (.new 18, 3) := by decide +kernel
theorem dX1_init_19 : decode cX1_init 19 = .ok (.dup, 1) := by decide +kernel
theorem dX1_init_20 : decode cX1_init 20 = .ok (.sipush 128, 3) := by decide +kernel
theorem dX1_init_23 : decode cX1_init 23 = .ok (.invokespecial 20, 3) := by decide +kernel
theorem dX1_init_26 : decode cX1_init 26 = .ok (.putfield 23, 3) := by decide +kernel
theorem dX1_init_29 : decode cX1_init 29 = .ok (.aload_n 0, 1) := by decide +kernel
theorem dX1_init_30 : decode cX1_init 30 = .ok (.new 18, 3) := by decide +kernel
theorem dX1_init_33 : decode cX1_init 33 = .ok (.dup, 1) := by decide +kernel
theorem dX1_init_34 : decode cX1_init 34 = .ok (.sipush 128, 3) := by decide +kernel
theorem dX1_init_37 : decode cX1_init 37 = .ok (.invokespecial 20, 3) := by decide +kernel
theorem dX1_init_40 : decode cX1_init 40 = .ok (.putfield 27, 3) := by decide +kernel
theorem dX1_init_43 : decode cX1_init 43 = .ok (.aload_n 0, 1) := by decide +kernel
theorem dX1_init_44 : decode cX1_init 44 = .ok (.new 30, 3) := by decide +kernel
theorem dX1_init_47 : decode cX1_init 47 = .ok (.dup, 1) := by decide +kernel
theorem dX1_init_48 : decode cX1_init 48 = .ok (.invokespecial 32, 3) := by decide +kernel
theorem dX1_init_51 : decode cX1_init 51 = .ok (.putfield 33, 3) := by decide +kernel
theorem dX1_init_54 : decode cX1_init 54 = .ok (.return_, 1) := by decide +kernel
theorem dX1_draft_0 : decode cX1_draft 0 = .ok (.aload_n 1, 1) := by decide +kernel
theorem dX1_draft_1 : decode cX1_draft 1 = .ok (.ifnonnull 5, 3) := by decide +kernel
theorem dX1_draft_4 : decode cX1_draft 4 = .ok (.iconst 1, 1) := by decide +kernel
theorem dX1_draft_5 : decode cX1_draft 5 = .ok (.ireturn, 1) := by decide +kernel
theorem dX1_draft_6 : decode cX1_draft 6 = .ok (.aload_n 0, 1) := by decide +kernel
theorem dX1_draft_7 : decode cX1_draft 7 = .ok (.aload_n 1, 1) := by decide +kernel
theorem dX1_draft_8 : decode cX1_draft 8 = .ok (.putfield 37, 3) := by decide +kernel
theorem dX1_draft_11 : decode cX1_draft 11 = .ok (.aload_n 0, 1) := by decide +kernel
theorem dX1_draft_12 : decode cX1_draft 12 = .ok (.getfield 33, 3) := by decide +kernel
theorem dX1_draft_15 : decode cX1_draft 15 = .ok (.invokevirtual 41, 3) := by decide +kernel
theorem dX1_draft_18 : decode cX1_draft 18 = .ok (.aload_n 0, 1) := by decide +kernel
theorem dX1_draft_19 : decode cX1_draft 19 = .ok (.getfield 23, 3) := by decide +kernel
theorem dX1_draft_22 : decode cX1_draft 22 = .ok (.iconst 0, 1) := by decide +kernel
theorem dX1_draft_23 : decode cX1_draft 23 = .ok (.invokevirtual 44, 3) := by decide +kernel
theorem dX1_draft_26 : decode cX1_draft 26 = .ok (.aload_n 0, 1) := by decide +kernel
theorem dX1_draft_27 : decode cX1_draft 27 = .ok (.getfield 27, 3) := by decide +kernel
theorem dX1_draft_30 : decode cX1_draft 30 = .ok (.iconst 0, 1) := by decide +kernel
theorem dX1_draft_31 : decode cX1_draft 31 = .ok (.invokevirtual 44, 3) := by decide +kernel
theorem dX1_draft_34 : decode cX1_draft 34 = .ok (.aload_n 0, 1) := by decide +kernel
theorem dX1_draft_35 : decode cX1_draft 35 = .ok (.iconst 0, 1) := by decide +kernel
theorem dX1_draft_36 : decode cX1_draft 36 = .ok (.putfield 47, 3) := by decide +kernel
theorem dX1_draft_39 : decode cX1_draft 39 = .ok (.aload_n 0, 1) := by decide +kernel
theorem dX1_draft_40 : decode cX1_draft 40 = .ok (.iconst 0, 1) := by decide +kernel
theorem dX1_draft_41 : decode cX1_draft 41 = .ok (.putfield 51, 3) := by decide +kernel
theorem dX1_draft_44 : decode cX1_draft 44 = .ok (.aload_n 0, 1) := by decide +kernel
theorem dX1_draft_45 : decode cX1_draft 45 = .ok (.iconst (-1), 1) := by decide +kernel
theorem dX1_draft_46 : decode cX1_draft 46 = .ok (.putfield 54, 3) := by decide +kernel
theorem dX1_draft_49 : decode cX1_draft 49 = .ok (.aload_n 0, 1) := by decide +kernel
theorem dX1_draft_50 : decode cX1_draft 50 = .ok (.getfield 33, 3) := by decide +kernel
theorem dX1_draft_53 : decode cX1_draft 53 = .ok (.aload_n 0, 1) := by decide +kernel
theorem dX1_draft_54 : decode cX1_draft 54 = .ok (.iconst 0, 1) := by decide +kernel
theorem dX1_draft_55 : decode cX1_draft 55 = .ok (.iconst 0, 1) := by decide +kernel
theorem dX1_draft_56 : decode cX1_draft 56 = .ok (.iconst 0, 1) := by decide +kernel
theorem dX1_draft_57 : decode cX1_draft 57 = .ok (.invokevirtual 57, 3) := by decide +kernel
theorem dX1_draft_60 : decode cX1_draft 60 = .ok (.invokevirtual 61, 3) := by decide +kernel
theorem dX1_draft_63 : decode cX1_draft 63 = .ok (.iconst 0, 1) := by decide +kernel
theorem dX1_draft_64 : decode cX1_draft 64 = .ok (.istore_n 2, 1) := by decide +kernel
theorem dX1_draft_65 : decode cX1_draft 65 = .ok (.iload_n 2, 1) := by decide +kernel
theorem dX1_draft_66 : decode cX1_draft 66 = .ok (.aload_n 0, 1) := by decide +kernel
theorem dX1_draft_67 : decode cX1_draft 67 = .ok (.getfield 23, 3) := by decide +kernel
theorem dX1_draft_70 : decode cX1_draft 70 = .ok (.invokevirtual 64, 3) := by decide +kernel
theorem dX1_draft_73 : decode cX1_draft 73 = .ok (.if_icmp .ge 69, 3) := by decide +kernel
theorem dX1_draft_76 : decode cX1_draft 76 = .ok (.aload_n 0, 1) := by decide +kernel
theorem dX1_draft_77 : decode cX1_draft 77 = .ok (.getfield 51, 3) := by decide +kernel
theorem dX1_draft_80 : decode cX1_draft 80 = .ok (.ifCond .ne 62, 3) := by decide +kernel
theorem dX1_draft_83 : decode cX1_draft 83 = .ok (.aload_n 0, 1) := by decide +kernel
theorem dX1_draft_84 : decode cX1_draft 84 = .ok (.aload_n 0, 1) := by decide +kernel
theorem dX1_draft_85 : decode cX1_draft 85 = .ok (.getfield 12, 3) := by decide +kernel
theorem dX1_draft_88 : decode cX1_draft 88 = .ok (.aload_n 0, 1) := by decide +kernel
theorem dX1_draft_89 : decode cX1_draft 89 = .ok (.getfield 37, 3) := by decide +kernel
theorem dX1_draft_92 : decode cX1_draft 92 = .ok (.aload_n 0, 1) := by decide +kernel
theorem dX1_draft_93 : decode cX1_draft 93 = .ok (.getfield 27, 3) := by decide +kernel
theorem dX1_draft_96 : decode cX1_draft 96 = .ok (.iload_n 2, 1) := by decide +kernel
theorem dX1_draft_97 : decode cX1_draft 97 = .ok (.invokevirtual 68, 3) := by decide +kernel
theorem dX1_draft_100 : decode cX1_draft 100 = .ok (.aload_n 0, 1) := by decide +kernel
theorem dX1_draft_101 : decode cX1_draft 101 = .ok (.getfield 33, 3) := by decide +kernel
theorem dX1_draft_104 : decode cX1_draft 104 = .ok (.aload_n 0, 1) := by decide +kernel
theorem dX1_draft_105 : decode cX1_draft 105 = .ok (.getfield 23, 3) := by decide +kernel
theorem dX1_draft_108 : decode cX1_draft 108 = .ok (.iload_n 2, 1) := by decide +kernel
theorem dX1_draft_109 : decode cX1_draft 109 = .ok (.invokevirtual 68, 3) := by decide +kernel
theorem dX1_draft_112 : decode cX1_draft 112 = .ok (.invokevirtual 72, 3) := by decide +kernel
theorem dX1_draft_115 : decode cX1_draft 115 = .ok (.putfield 54, 3) := by decide +kernel
theorem dX1_draft_118 : decode cX1_draft 118 = .ok (.aload_n 0, 1) := by decide +kernel
theorem dX1_draft_119 : decode cX1_draft 119 = .ok (.aload_n 0, 1) := by decide +kernel
theorem dX1_draft_120 : decode cX1_draft 120 = .ok (.getfield 54, 3) := by decide +kernel
theorem dX1_draft_123 : decode cX1_draft 123 = .ok (.iconst (-1), 1) := by decide +kernel
theorem dX1_draft_124 : decode cX1_draft 124 = .ok (.if_icmp .ne 7, 3) := by decide +kernel
theorem dX1_draft_127 : decode cX1_draft 127 = .ok (.iconst 0, 1) := by decide +kernel
theorem dX1_draft_128 : decode cX1_draft 128 = .ok (.goto 5, 3) := by decide +kernel
theorem dX1_draft_131 : decode cX1_draft 131 = .ok (.bipush 12, 2) := by decide +kernel
theorem dX1_draft_133 : decode cX1_draft 133 = .ok (.putfield 51, 3) := by decide +kernel
theorem dX1_draft_136 : decode cX1_draft 136 = .ok (.iinc 2 1, 3) := by decide +kernel
theorem dX1_draft_139 : decode cX1_draft 139 = .ok (.goto (-74), 3) := by decide +kernel
theorem dX1_draft_142 : decode cX1_draft 142 = .ok (.aload_n 0, 1) := by decide +kernel
theorem dX1_draft_143 : decode cX1_draft 143 = .ok (.getfield 51, 3) := by decide +kernel
theorem dX1_draft_146 : decode cX1_draft 146 = .ok (.ireturn, 1) := by decide +kernel
theorem dX1_wrongPlace_0 : decode cX1_wrongPlace 0 = .ok (.aload_n 0, 1) := by decide +kernel
theorem dX1_wrongPlace_1 : decode cX1_wrongPlace 1 = .ok (.getfield 54, 3) := by decide +kernel
theorem dX1_wrongPlace_4 : decode cX1_wrongPlace 4 = .ok (.ireturn, 1) := by decide +kernel
theorem dX1_handOver_0 : decode cX1_handOver 0 = .ok (.aload_n 0, 1) := by decide +kernel
theorem dX1_handOver_1 : decode cX1_handOver 1 = .ok (.getfield 33, 3) := by decide +kernel
theorem dX1_handOver_4 : decode cX1_handOver 4 = .ok (.astore_n 2, 1) := by decide +kernel
theorem dX1_handOver_5 : decode cX1_handOver 5 = .ok (.aload_n 0, 1) := by decide +kernel
theorem dX1_handOver_6 : decode cX1_handOver 6 = .ok (.aload_n 1, 1) := by decide +kernel
theorem dX1_handOver_7 : decode cX1_handOver 7 = .ok (.ifnonnull 13, 3) := by decide +kernel
theorem dX1_handOver_10 : decode cX1_handOver 10 = .ok (.new 30, 3) := by decide +kernel
theorem dX1_handOver_13 : decode cX1_handOver 13 = .ok (.dup, 1) := by decide +kernel
theorem dX1_handOver_14 : decode cX1_handOver 14 = .ok (.invokespecial 32, 3) := by decide +kernel
theorem dX1_handOver_17 : decode cX1_handOver 17 = .ok (.goto 4, 3) := by decide +kernel
theorem dX1_handOver_20 : decode cX1_handOver 20 = .ok (.aload_n 1, 1) := by decide +kernel
theorem dX1_handOver_21 : decode cX1_handOver 21 = .ok (.putfield 33, 3) := by decide +kernel
theorem dX1_handOver_24 : decode cX1_handOver 24 = .ok (.aload_n 2, 1) := by decide +kernel
theorem dX1_handOver_25 : decode cX1_handOver 25 = .ok (.areturn, 1) := by decide +kernel
theorem dX1_fail_0 : decode cX1_fail 0 = .ok (.aload_n 0, 1) := by decide +kernel
theorem dX1_fail_1 : decode cX1_fail 1 = .ok (.getfield 51, 3) := by decide +kernel
theorem dX1_fail_4 : decode cX1_fail 4 = .ok (.ifCond .ne 20, 3) := by decide +kernel
theorem dX1_fail_7 : decode cX1_fail 7 = .ok (.aload_n 0, 1) := by decide +kernel
theorem dX1_fail_8 : decode cX1_fail 8 = .ok (.iload_n 1, 1) := by decide +kernel
theorem dX1_fail_9 : decode cX1_fail 9 = .ok (.putfield 51, 3) := by decide +kernel
theorem dX1_fail_12 : decode cX1_fail 12 = .ok (.aload_n 0, 1) := by decide +kernel
theorem dX1_fail_13 : decode cX1_fail 13 = .ok (.aload_n 0, 1) := by decide +kernel
theorem dX1_fail_14 : decode cX1_fail 14 = .ok (.getfield 37, 3) := by decide +kernel
theorem dX1_fail_17 : decode cX1_fail 17 = .ok (.iload_n 2, 1) := by decide +kernel
theorem dX1_fail_18 : decode cX1_fail 18 = .ok (.invokevirtual 76, 3) := by decide +kernel
theorem dX1_fail_21 : decode cX1_fail 21 = .ok (.putfield 54, 3) := by decide +kernel
theorem dX1_fail_24 : decode cX1_fail 24 = .ok (.iconst 0, 1) := by decide +kernel
theorem dX1_fail_25 : decode cX1_fail 25 = .ok (.ireturn, 1) := by decide +kernel
theorem dX1_look_0 : decode cX1_look 0 = .ok (.aload_n 0, 1) := by decide +kernel
theorem dX1_look_1 : decode cX1_look 1 = .ok (.getfield 47, 3) := by decide +kernel
theorem dX1_look_4 : decode cX1_look 4 = .ok (.sipush 128, 3) := by decide +kernel
theorem dX1_look_7 : decode cX1_look 7 = .ok (.if_icmp .lt 11, 3) := by decide +kernel
theorem dX1_look_10 : decode cX1_look 10 = .ok (.aload_n 0, 1) := by decide +kernel
theorem dX1_look_11 : decode cX1_look 11 = .ok (.bipush 13, 2) := by decide +kernel
theorem dX1_look_13 : decode cX1_look 13 = .ok (.iload_n 1, 1) := by decide +kernel
theorem dX1_look_14 : decode cX1_look 14 = .ok (.invokevirtual 81, 3) := by decide +kernel
theorem dX1_look_17 : decode cX1_look 17 = .ok (.ireturn, 1) := by decide +kernel
theorem dX1_look_18 : decode cX1_look 18 = .ok (.iload_n 2, 1) := by decide +kernel
theorem dX1_look_19 : decode cX1_look 19 = .ok (.bipush 16, 2) := by decide +kernel
theorem dX1_look_21 : decode cX1_look 21 = .ok (.if_icmp .lt 11, 3) := by decide +kernel
theorem dX1_look_24 : decode cX1_look 24 = .ok (.aload_n 0, 1) := by decide +kernel
theorem dX1_look_25 : decode cX1_look 25 = .ok (.bipush 14, 2) := by decide +kernel
theorem dX1_look_27 : decode cX1_look 27 = .ok (.iload_n 1, 1) := by decide +kernel
theorem dX1_look_28 : decode cX1_look 28 = .ok (.invokevirtual 81, 3) := by decide +kernel
theorem dX1_look_31 : decode cX1_look 31 = .ok (.ireturn, 1) := by decide +kernel
theorem dX1_look_32 : decode cX1_look 32 = .ok (.aload_n 0, 1) := by decide +kernel
theorem dX1_look_33 : decode cX1_look 33 = .ok (.dup, 1) := by decide +kernel
theorem dX1_look_34 : decode cX1_look 34 = .ok (.getfield 47, 3) := by decide +kernel
theorem dX1_look_37 : decode cX1_look 37 = .ok (.iconst 1, 1) := by decide +kernel
theorem dX1_look_38 : decode cX1_look 38 = .ok (.iadd, 1) := by decide +kernel
theorem dX1_look_39 : decode cX1_look 39 = .ok (.putfield 47, 3) := by decide +kernel
theorem dX1_look_42 : decode cX1_look 42 = .ok (.aload_n 0, 1) := by decide +kernel
theorem dX1_look_43 : decode cX1_look 43 = .ok (.getfield 37, 3) := by decide +kernel
theorem dX1_look_46 : decode cX1_look 46 = .ok (.iload_n 1, 1) := by decide +kernel
theorem dX1_look_47 : decode cX1_look 47 = .ok (.invokevirtual 85, 3) := by decide +kernel
theorem dX1_look_50 : decode cX1_look 50 = .ok (.istore 4, 2) := by decide +kernel
theorem dX1_look_52 : decode cX1_look 52 = .ok (.iload 4, 2) := by decide +kernel
theorem dX1_look_54 : decode cX1_look 54 = .ok (.iconst 3, 1) := by decide +kernel
theorem dX1_look_55 : decode cX1_look 55 = .ok (.if_icmp .ne 9, 3) := by decide +kernel
theorem dX1_look_58 : decode cX1_look 58 = .ok (.aload_n 0, 1) := by decide +kernel
theorem dX1_look_59 : decode cX1_look 59 = .ok (.iload_n 1, 1) := by decide +kernel
theorem dX1_look_60 : decode cX1_look 60 = .ok (.invokevirtual 88, 3) := by decide +kernel
theorem dX1_look_63 : decode cX1_look 63 = .ok (.ireturn, 1) := by decide +kernel
theorem dX1_look_64 : decode cX1_look 64 = .ok (.iload 4, 2) := by decide +kernel
theorem dX1_look_66 : decode cX1_look 66 = .ok (.iconst 2, 1) := by decide +kernel
theorem dX1_look_67 : decode cX1_look 67 = .ok (.if_icmp .ne 23, 3) := by decide +kernel
theorem dX1_look_70 : decode cX1_look 70 = .ok (.iload_n 3, 1) := by decide +kernel
theorem dX1_look_71 : decode cX1_look 71 = .ok (.ifCond .eq 12, 3) := by decide +kernel
theorem dX1_look_74 : decode cX1_look 74 = .ok (.aload_n 0, 1) := by decide +kernel
theorem dX1_look_75 : decode cX1_look 75 = .ok (.iconst 4, 1) := by decide +kernel
theorem dX1_look_76 : decode cX1_look 76 = .ok (.iload_n 1, 1) := by decide +kernel
theorem dX1_look_77 : decode cX1_look 77 = .ok (.invokevirtual 81, 3) := by decide +kernel
theorem dX1_look_80 : decode cX1_look 80 = .ok (.goto 9, 3) := by decide +kernel
theorem dX1_look_83 : decode cX1_look 83 = .ok (.aload_n 0, 1) := by decide +kernel
theorem dX1_look_84 : decode cX1_look 84 = .ok (.iload_n 1, 1) := by decide +kernel
theorem dX1_look_85 : decode cX1_look 85 = .ok (.iload_n 2, 1) := by decide +kernel
theorem dX1_look_86 : decode cX1_look 86 = .ok (.invokevirtual 91, 3) := by decide +kernel
theorem dX1_look_89 : decode cX1_look 89 = .ok (.ireturn, 1) := by decide +kernel
theorem dX1_look_90 : decode cX1_look 90 = .ok (.iload 4, 2) := by decide +kernel
theorem dX1_look_92 : decode cX1_look 92 = .ok (.iconst 1, 1) := by decide +kernel
theorem dX1_look_93 : decode cX1_look 93 = .ok (.if_icmp .ne 12, 3) := by decide +kernel
theorem dX1_look_96 : decode cX1_look 96 = .ok (.aload_n 0, 1) := by decide +kernel
theorem dX1_look_97 : decode cX1_look 97 = .ok (.iload_n 1, 1) := by decide +kernel
theorem dX1_look_98 : decode cX1_look 98 = .ok (.iload_n 2, 1) := by decide +kernel
theorem dX1_look_99 : decode cX1_look 99 = .ok (.invokevirtual 94, 3) := by decide +kernel
theorem dX1_look_102 : decode cX1_look 102 = .ok (.goto 9, 3) := by decide +kernel
theorem dX1_look_105 : decode cX1_look 105 = .ok (.aload_n 0, 1) := by decide +kernel
theorem dX1_look_106 : decode cX1_look 106 = .ok (.iconst 2, 1) := by decide +kernel
theorem dX1_look_107 : decode cX1_look 107 = .ok (.iload_n 1, 1) := by decide +kernel
theorem dX1_look_108 : decode cX1_look 108 = .ok (.invokevirtual 81, 3) := by decide +kernel
theorem dX1_look_111 : decode cX1_look 111 = .ok (.ireturn, 1) := by decide +kernel
theorem dX1_known_0 : decode cX1_known 0 = .ok (.aload_n 0, 1) := by decide +kernel
theorem dX1_known_1 : decode cX1_known 1 = .ok (.iload_n 1, 1) := by decide +kernel
theorem dX1_known_2 : decode cX1_known 2 = .ok (.invokevirtual 97, 3) := by decide +kernel
theorem dX1_known_5 : decode cX1_known 5 = .ok (.istore_n 2, 1) := by decide +kernel
theorem dX1_known_6 : decode cX1_known 6 = .ok (.iload_n 2, 1) := by decide +kernel
theorem dX1_known_7 : decode cX1_known 7 = .ok (.iconst (-1), 1) := by decide +kernel
theorem dX1_known_8 : decode cX1_known 8 = .ok (.if_icmp .eq 5, 3) := by decide +kernel
theorem dX1_known_11 : decode cX1_known 11 = .ok (.iload_n 2, 1) := by decide +kernel
theorem dX1_known_12 : decode cX1_known 12 = .ok (.ireturn, 1) := by decide +kernel
theorem dX1_known_13 : decode cX1_known 13 = .ok (.aload_n 0, 1) := by decide +kernel
theorem dX1_known_14 : decode cX1_known 14 = .ok (.iload_n 1, 1) := by decide +kernel
theorem dX1_known_15 : decode cX1_known 15 = .ok (.invokevirtual 100, 3) := by decide +kernel
theorem dX1_known_18 : decode cX1_known 18 = .ok (.istore_n 3, 1) := by decide +kernel
theorem dX1_known_19 : decode cX1_known 19 = .ok (.iload_n 3, 1) := by decide +kernel
theorem dX1_known_20 : decode cX1_known 20 = .ok (.iconst (-1), 1) := by decide +kernel
theorem dX1_known_21 : decode cX1_known 21 = .ok (.if_icmp .ne 12, 3) := by decide +kernel
theorem dX1_known_24 : decode cX1_known 24 = .ok (.aload_n 0, 1) := by decide +kernel
theorem dX1_known_25 : decode cX1_known 25 = .ok (.iconst 3, 1) := by decide +kernel
theorem dX1_known_26 : decode cX1_known 26 = .ok (.iload_n 1, 1) := by decide +kernel
theorem dX1_known_27 : decode cX1_known 27 = .ok (.invokevirtual 81, 3) := by decide +kernel
theorem dX1_known_30 : decode cX1_known 30 = .ok (.goto 4, 3) := by decide +kernel
theorem dX1_known_33 : decode cX1_known 33 = .ok (.iload_n 3, 1) := by decide +kernel
theorem dX1_known_34 : decode cX1_known 34 = .ok (.ireturn, 1) := by decide +kernel
theorem dX1_oneOfSix_0 : decode cX1_oneOfSix 0 = .ok (.aload_n 0, 1) := by decide +kernel
theorem dX1_oneOfSix_1 : decode cX1_oneOfSix 1 = .ok (.getfield 37, 3) := by decide +kernel
theorem dX1_oneOfSix_4 : decode cX1_oneOfSix 4 = .ok (.iload_n 1, 1) := by decide +kernel
theorem dX1_oneOfSix_5 : decode cX1_oneOfSix 5 = .ok (.ldc 103, 2) := by decide +kernel
theorem dX1_oneOfSix_7 : decode cX1_oneOfSix 7 = .ok (.invokevirtual 105, 3) := by decide +kernel
theorem dX1_oneOfSix_10 : decode cX1_oneOfSix 10 = .ok (.ifCond .eq 5, 3) := by decide +kernel
theorem dX1_oneOfSix_13 : decode cX1_oneOfSix 13 = .ok (.iconst 0, 1) := by decide +kernel
theorem dX1_oneOfSix_14 : decode cX1_oneOfSix 14 = .ok (.ireturn, 1) := by decide +kernel
theorem dX1_oneOfSix_15 : decode cX1_oneOfSix 15 = .ok (.aload_n 0, 1) := by decide +kernel
theorem dX1_oneOfSix_16 : decode cX1_oneOfSix 16 = .ok (.getfield 37, 3) := by decide +kernel
theorem dX1_oneOfSix_19 : decode cX1_oneOfSix 19 = .ok (.iload_n 1, 1) := by decide +kernel
theorem dX1_oneOfSix_20 : decode cX1_oneOfSix 20 = .ok (.ldc 109, 2) := by decide +kernel
theorem dX1_oneOfSix_22 : decode cX1_oneOfSix 22 = .ok (.invokevirtual 105, 3) := by decide +kernel
theorem dX1_oneOfSix_25 : decode cX1_oneOfSix 25 = .ok (.ifCond .eq 5, 3) := by decide +kernel
theorem dX1_oneOfSix_28 : decode cX1_oneOfSix 28 = .ok (.iconst 1, 1) := by decide +kernel
theorem dX1_oneOfSix_29 : decode cX1_oneOfSix 29 = .ok (.ireturn, 1) := by decide +kernel
theorem dX1_oneOfSix_30 : decode cX1_oneOfSix 30 = .ok (.aload_n 0, 1) := by decide +kernel
theorem dX1_oneOfSix_31 : decode cX1_oneOfSix 31 = .ok (.getfield 37, 3) := by decide +kernel
theorem dX1_oneOfSix_34 : decode cX1_oneOfSix 34 = .ok (.iload_n 1, 1) := by decide +kernel
theorem dX1_oneOfSix_35 : decode cX1_oneOfSix 35 = .ok (.ldc 111, 2) := by decide +kernel
theorem dX1_oneOfSix_37 : decode cX1_oneOfSix 37 = .ok (.invokevirtual 105, 3) := by decide +kernel
theorem dX1_oneOfSix_40 : decode cX1_oneOfSix 40 = .ok (.ifCond .eq 5, 3) := by decide +kernel
theorem dX1_oneOfSix_43 : decode cX1_oneOfSix 43 = .ok (.iconst 2, 1) := by decide +kernel
theorem dX1_oneOfSix_44 : decode cX1_oneOfSix 44 = .ok (.ireturn, 1) := by decide +kernel
theorem dX1_oneOfSix_45 : decode cX1_oneOfSix 45 = .ok (.aload_n 0, 1) := by decide +kernel
theorem dX1_oneOfSix_46 : decode cX1_oneOfSix 46 = .ok (.getfield 37, 3) := by decide +kernel
theorem dX1_oneOfSix_49 : decode cX1_oneOfSix 49 = .ok (.iload_n 1, 1) := by decide +kernel
theorem dX1_oneOfSix_50 : decode cX1_oneOfSix 50 = .ok (.ldc 113, 2) := by decide +kernel
theorem dX1_oneOfSix_52 : decode cX1_oneOfSix 52 = .ok (.invokevirtual 105, 3) := by decide +kernel
theorem dX1_oneOfSix_55 : decode cX1_oneOfSix 55 = .ok (.ifCond .eq 5, 3) := by decide +kernel
theorem dX1_oneOfSix_58 : decode cX1_oneOfSix 58 = .ok (.iconst 3, 1) := by decide +kernel
theorem dX1_oneOfSix_59 : decode cX1_oneOfSix 59 = .ok (.ireturn, 1) := by decide +kernel
theorem dX1_oneOfSix_60 : decode cX1_oneOfSix 60 = .ok (.aload_n 0, 1) := by decide +kernel
theorem dX1_oneOfSix_61 : decode cX1_oneOfSix 61 = .ok (.getfield 37, 3) := by decide +kernel
theorem dX1_oneOfSix_64 : decode cX1_oneOfSix 64 = .ok (.iload_n 1, 1) := by decide +kernel
theorem dX1_oneOfSix_65 : decode cX1_oneOfSix 65 = .ok (.ldc 115, 2) := by decide +kernel
theorem dX1_oneOfSix_67 : decode cX1_oneOfSix 67 = .ok (.invokevirtual 105, 3) := by decide +kernel
theorem dX1_oneOfSix_70 : decode cX1_oneOfSix 70 = .ok (.ifCond .eq 5, 3) := by decide +kernel
theorem dX1_oneOfSix_73 : decode cX1_oneOfSix 73 = .ok (.iconst 4, 1) := by decide +kernel
theorem dX1_oneOfSix_74 : decode cX1_oneOfSix 74 = .ok (.ireturn, 1) := by decide +kernel
theorem dX1_oneOfSix_75 : decode cX1_oneOfSix 75 = .ok (.aload_n 0, 1) := by decide +kernel
theorem dX1_oneOfSix_76 : decode cX1_oneOfSix 76 = .ok (.getfield 37, 3) := by decide +kernel
theorem dX1_oneOfSix_79 : decode cX1_oneOfSix 79 = .ok (.iload_n 1, 1) := by decide +kernel
theorem dX1_oneOfSix_80 : decode cX1_oneOfSix 80 = .ok (.ldc 117, 2) := by decide +kernel
theorem dX1_oneOfSix_82 : decode cX1_oneOfSix 82 = .ok (.invokevirtual 105, 3) := by decide +kernel
theorem dX1_oneOfSix_85 : decode cX1_oneOfSix 85 = .ok (.ifCond .eq 7, 3) := by decide +kernel
theorem dX1_oneOfSix_88 : decode cX1_oneOfSix 88 = .ok (.iconst 5, 1) := by decide +kernel
theorem dX1_oneOfSix_89 : decode cX1_oneOfSix 89 = .ok (.goto 4, 3) := by decide +kernel
theorem dX1_oneOfSix_92 : decode cX1_oneOfSix 92 = .ok (.iconst (-1), 1) := by decide +kernel
theorem dX1_oneOfSix_93 : decode cX1_oneOfSix 93 = .ok (.ireturn, 1) := by decide +kernel
theorem dX1_compound_0 : decode cX1_compound 0 = .ok (.aload_n 0, 1) := by decide +kernel
theorem dX1_compound_1 : decode cX1_compound 1 = .ok (.getfield 37, 3) := by decide +kernel
theorem dX1_compound_4 : decode cX1_compound 4 = .ok (.iload_n 1, 1) := by decide +kernel
theorem dX1_compound_5 : decode cX1_compound 5 = .ok (.ldc 119, 2) := by decide +kernel
theorem dX1_compound_7 : decode cX1_compound 7 = .ok (.invokevirtual 105, 3) := by decide +kernel
theorem dX1_compound_10 : decode cX1_compound 10 = .ok (.ifCond .eq 6, 3) := by decide +kernel
theorem dX1_compound_13 : decode cX1_compound 13 = .ok (.bipush 6, 2) := by decide +kernel
theorem dX1_compound_15 : decode cX1_compound 15 = .ok (.ireturn, 1) := by decide +kernel
theorem dX1_compound_16 : decode cX1_compound 16 = .ok (.aload_n 0, 1) := by decide +kernel
theorem dX1_compound_17 : decode cX1_compound 17 = .ok (.getfield 37, 3) := by decide +kernel
theorem dX1_compound_20 : decode cX1_compound 20 = .ok (.iload_n 1, 1) := by decide +kernel
theorem dX1_compound_21 : decode cX1_compound 21 = .ok (.ldc 121, 2) := by decide +kernel
theorem dX1_compound_23 : decode cX1_compound 23 = .ok (.invokevirtual 105, 3) := by decide +kernel
theorem dX1_compound_26 : decode cX1_compound 26 = .ok (.ifCond .eq 6, 3) := by decide +kernel
theorem dX1_compound_29 : decode cX1_compound 29 = .ok (.bipush 7, 2) := by decide +kernel
theorem dX1_compound_31 : decode cX1_compound 31 = .ok (.ireturn, 1) := by decide +kernel
theorem dX1_compound_32 : decode cX1_compound 32 = .ok (.aload_n 0, 1) := by decide +kernel
theorem dX1_compound_33 : decode cX1_compound 33 = .ok (.getfield 37, 3) := by decide +kernel
theorem dX1_compound_36 : decode cX1_compound 36 = .ok (.iload_n 1, 1) := by decide +kernel
theorem dX1_compound_37 : decode cX1_compound 37 = .ok (.ldc 123, 2) := by decide +kernel
theorem dX1_compound_39 : decode cX1_compound 39 = .ok (.invokevirtual 105, 3) := by decide +kernel
theorem dX1_compound_42 : decode cX1_compound 42 = .ok (.ifCond .eq 6, 3) := by decide +kernel
theorem dX1_compound_45 : decode cX1_compound 45 = .ok (.bipush 9, 2) := by decide +kernel
theorem dX1_compound_47 : decode cX1_compound 47 = .ok (.ireturn, 1) := by decide +kernel
theorem dX1_compound_48 : decode cX1_compound 48 = .ok (.aload_n 0, 1) := by decide +kernel
theorem dX1_compound_49 : decode cX1_compound 49 = .ok (.getfield 37, 3) := by decide +kernel
theorem dX1_compound_52 : decode cX1_compound 52 = .ok (.iload_n 1, 1) := by decide +kernel
theorem dX1_compound_53 : decode cX1_compound 53 = .ok (.ldc 125, 2) := by decide +kernel
theorem dX1_compound_55 : decode cX1_compound 55 = .ok (.invokevirtual 105, 3) := by decide +kernel
theorem dX1_compound_58 : decode cX1_compound 58 = .ok (.ifCond .eq 6, 3) := by decide +kernel
theorem dX1_compound_61 : decode cX1_compound 61 = .ok (.bipush 10, 2) := by decide +kernel
theorem dX1_compound_63 : decode cX1_compound 63 = .ok (.ireturn, 1) := by decide +kernel
theorem dX1_compound_64 : decode cX1_compound 64 = .ok (.aload_n 0, 1) := by decide +kernel
theorem dX1_compound_65 : decode cX1_compound 65 = .ok (.getfield 37, 3) := by decide +kernel
theorem dX1_compound_68 : decode cX1_compound 68 = .ok (.iload_n 1, 1) := by decide +kernel
theorem dX1_compound_69 : decode cX1_compound 69 = .ok (.ldc 127, 2) := by decide +kernel
theorem dX1_compound_71 : decode cX1_compound 71 = .ok (.invokevirtual 105, 3) := by decide +kernel
theorem dX1_compound_74 : decode cX1_compound 74 = .ok (.ifCond .eq 8, 3) := by decide +kernel
theorem dX1_compound_77 : decode cX1_compound 77 = .ok (.bipush 11, 2) := by decide +kernel
theorem dX1_compound_79 : decode cX1_compound 79 = .ok (.goto 4, 3) := by decide +kernel
theorem dX1_compound_82 : decode cX1_compound 82 = .ok (.iconst (-1), 1) := by decide +kernel
theorem dX1_compound_83 : decode cX1_compound 83 = .ok (.ireturn, 1) := by decide +kernel
theorem dX1_defined_0 : decode cX1_defined 0 = .ok (.aload_n 0, 1) := by decide +kernel
theorem dX1_defined_1 : decode cX1_defined 1 = .ok (.getfield 33, 3) := by decide +kernel
theorem dX1_defined_4 : decode cX1_defined 4 = .ok (.aload_n 0, 1) := by decide +kernel
theorem dX1_defined_5 : decode cX1_defined 5 = .ok (.getfield 37, 3) := by decide +kernel
theorem dX1_defined_8 : decode cX1_defined 8 = .ok (.invokevirtual 129, 3) := by decide +kernel
theorem dX1_defined_11 : decode cX1_defined 11 = .ok (.aload_n 0, 1) := by decide +kernel
theorem dX1_defined_12 : decode cX1_defined 12 = .ok (.getfield 37, 3) := by decide +kernel
theorem dX1_defined_15 : decode cX1_defined 15 = .ok (.iload_n 1, 1) := by decide +kernel
theorem dX1_defined_16 : decode cX1_defined 16 = .ok (.invokevirtual 133, 3) := by decide +kernel
theorem dX1_defined_19 : decode cX1_defined 19 = .ok (.invokevirtual 136, 3) := by decide +kernel
theorem dX1_defined_22 : decode cX1_defined 22 = .ok (.ireturn, 1) := by decide +kernel
theorem dX1_lookAtUnion_0 : decode cX1_lookAtUnion 0 = .ok (.aload_n 0, 1) := by decide +kernel
theorem dX1_lookAtUnion_1 : decode cX1_lookAtUnion 1 = .ok (.getfield 37, 3) := by decide +kernel
theorem dX1_lookAtUnion_4 : decode cX1_lookAtUnion 4 = .ok (.iload_n 1, 1) := by decide +kernel
theorem dX1_lookAtUnion_5 : decode cX1_lookAtUnion 5 = .ok (.invokevirtual 140, 3) := by decide +kernel
theorem dX1_lookAtUnion_8 : decode cX1_lookAtUnion 8 = .ok (.istore_n 3, 1) := by decide +kernel
theorem dX1_lookAtUnion_9 : decode cX1_lookAtUnion 9 = .ok (.iload_n 3, 1) := by decide +kernel
theorem dX1_lookAtUnion_10 : decode cX1_lookAtUnion 10 = .ok (.iconst 1, 1) := by decide +kernel
theorem dX1_lookAtUnion_11 : decode cX1_lookAtUnion 11 = .ok (.if_icmp .lt 9, 3) := by decide +kernel
theorem dX1_lookAtUnion_14 : decode cX1_lookAtUnion 14 = .ok (.iload_n 3, 1) := by decide +kernel
theorem dX1_lookAtUnion_15 : decode cX1_lookAtUnion 15 = .ok (.bipush 16, 2) := by decide +kernel
theorem dX1_lookAtUnion_17 : decode cX1_lookAtUnion 17 = .ok (.if_icmp .le 10, 3) := by decide +kernel
theorem dX1_lookAtUnion_20 : decode cX1_lookAtUnion 20 = .ok (.aload_n 0, 1) := by decide +kernel
theorem dX1_lookAtUnion_21 : decode cX1_lookAtUnion 21 = .ok (.iconst 5, 1) := by decide +kernel
theorem dX1_lookAtUnion_22 : decode cX1_lookAtUnion 22 = .ok (.iload_n 1, 1) := by decide +kernel
theorem dX1_lookAtUnion_23 : decode cX1_lookAtUnion 23 = .ok (.invokevirtual 81, 3) := by decide +kernel
theorem dX1_lookAtUnion_26 : decode cX1_lookAtUnion 26 = .ok (.ireturn, 1) := by decide +kernel
theorem dX1_lookAtUnion_27 : decode cX1_lookAtUnion 27 = .ok (.aload_n 0, 1) := by decide +kernel
theorem dX1_lookAtUnion_28 : decode cX1_lookAtUnion 28 = .ok (.getfield 33, 3) := by decide +kernel
theorem dX1_lookAtUnion_31 : decode cX1_lookAtUnion 31 = .ok (.bipush 8, 2) := by decide +kernel
theorem dX1_lookAtUnion_33 : decode cX1_lookAtUnion 33 = .ok (.invokevirtual 143, 3) := by decide +kernel
theorem dX1_lookAtUnion_36 : decode cX1_lookAtUnion 36 = .ok (.istore 4, 2) := by decide +kernel
theorem dX1_lookAtUnion_38 : decode cX1_lookAtUnion 38 = .ok (.aload_n 0, 1) := by decide +kernel
theorem dX1_lookAtUnion_39 : decode cX1_lookAtUnion 39 = .ok (.getfield 33, 3) := by decide +kernel
theorem dX1_lookAtUnion_42 : decode cX1_lookAtUnion 42 = .ok (.iload 4, 2) := by decide +kernel
theorem dX1_lookAtUnion_44 : decode cX1_lookAtUnion 44 = .ok (.iload_n 3, 1) := by decide +kernel
theorem dX1_lookAtUnion_45 : decode cX1_lookAtUnion 45 = .ok (.invokevirtual 146, 3) := by decide +kernel
theorem dX1_lookAtUnion_48 : decode cX1_lookAtUnion 48 = .ok (.aload_n 0, 1) := by decide +kernel
theorem dX1_lookAtUnion_49 : decode cX1_lookAtUnion 49 = .ok (.getfield 37, 3) := by decide +kernel
theorem dX1_lookAtUnion_52 : decode cX1_lookAtUnion 52 = .ok (.iload_n 1, 1) := by decide +kernel
theorem dX1_lookAtUnion_53 : decode cX1_lookAtUnion 53 = .ok (.invokevirtual 150, 3) := by decide +kernel
theorem dX1_lookAtUnion_56 : decode cX1_lookAtUnion 56 = .ok (.istore 5, 2) := by decide +kernel
theorem dX1_lookAtUnion_58 : decode cX1_lookAtUnion 58 = .ok (.iconst 0, 1) := by decide +kernel
theorem dX1_lookAtUnion_59 : decode cX1_lookAtUnion 59 = .ok (.istore 6, 2) := by decide +kernel
theorem dX1_lookAtUnion_61 : decode cX1_lookAtUnion 61 = .ok (.iload 6, 2) := by decide +kernel
theorem dX1_lookAtUnion_63 : decode cX1_lookAtUnion 63 = .ok (.iload_n 3, 1) := by decide +kernel
theorem dX1_lookAtUnion_64 : decode cX1_lookAtUnion 64 = .ok (.if_icmp .ge 91, 3) := by decide +kernel
theorem dX1_lookAtUnion_67 : decode cX1_lookAtUnion 67 = .ok (.aload_n 0, 1) := by decide +kernel
theorem dX1_lookAtUnion_68 : decode cX1_lookAtUnion 68 = .ok (.iload 5, 2) := by decide +kernel
theorem dX1_lookAtUnion_70 : decode cX1_lookAtUnion 70 = .ok (.iload_n 2, 1) := by decide +kernel
theorem dX1_lookAtUnion_71 : decode cX1_lookAtUnion 71 = .ok (.iconst 1, 1) := by decide +kernel
theorem dX1_lookAtUnion_72 : decode cX1_lookAtUnion 72 = .ok (.iadd, 1) := by decide +kernel
theorem dX1_lookAtUnion_73 : decode cX1_lookAtUnion 73 = .ok (.iconst 1, 1) := by decide +kernel
theorem dX1_lookAtUnion_74 : decode cX1_lookAtUnion 74 = .ok (.invokevirtual 57, 3) := by decide +kernel
theorem dX1_lookAtUnion_77 : decode cX1_lookAtUnion 77 = .ok (.istore 7, 2) := by decide +kernel
theorem dX1_lookAtUnion_79 : decode cX1_lookAtUnion 79 = .ok (.aload_n 0, 1) := by decide +kernel
theorem dX1_lookAtUnion_80 : decode cX1_lookAtUnion 80 = .ok (.getfield 51, 3) := by decide +kernel
theorem dX1_lookAtUnion_83 : decode cX1_lookAtUnion 83 = .ok (.ifCond .ne 25, 3) := by decide +kernel
theorem dX1_lookAtUnion_86 : decode cX1_lookAtUnion 86 = .ok (.aload_n 0, 1) := by decide +kernel
theorem dX1_lookAtUnion_87 : decode cX1_lookAtUnion 87 = .ok (.iload 4, 2) := by decide +kernel
theorem dX1_lookAtUnion_89 : decode cX1_lookAtUnion 89 = .ok (.iload 6, 2) := by decide +kernel
theorem dX1_lookAtUnion_91 : decode cX1_lookAtUnion 91 = .ok (.iload 7, 2) := by decide +kernel
theorem dX1_lookAtUnion_93 : decode cX1_lookAtUnion 93 = .ok (.invokevirtual 153, 3) := by decide +kernel
theorem dX1_lookAtUnion_96 : decode cX1_lookAtUnion 96 = .ok (.ifCond .eq 12, 3) := by decide +kernel
theorem dX1_lookAtUnion_99 : decode cX1_lookAtUnion 99 = .ok (.aload_n 0, 1) := by decide +kernel
theorem dX1_lookAtUnion_100 : decode cX1_lookAtUnion 100 = .ok (.bipush 6, 2) := by decide +kernel
theorem dX1_lookAtUnion_102 : decode cX1_lookAtUnion 102 = .ok (.iload 5, 2) := by decide +kernel
theorem dX1_lookAtUnion_104 : decode cX1_lookAtUnion 104 = .ok (.invokevirtual 81, 3) := by decide +kernel
theorem dX1_lookAtUnion_107 : decode cX1_lookAtUnion 107 = .ok (.pop, 1) := by decide +kernel
theorem dX1_lookAtUnion_108 : decode cX1_lookAtUnion 108 = .ok (.aload_n 0, 1) := by decide +kernel
theorem dX1_lookAtUnion_109 : decode cX1_lookAtUnion 109 = .ok (.getfield 51, 3) := by decide +kernel
theorem dX1_lookAtUnion_112 : decode cX1_lookAtUnion 112 = .ok (.ifCond .eq 6, 3) := by decide +kernel
theorem dX1_lookAtUnion_115 : decode cX1_lookAtUnion 115 = .ok (.iload 4, 2) := by decide +kernel
theorem dX1_lookAtUnion_117 : decode cX1_lookAtUnion 117 = .ok (.ireturn, 1) := by decide +kernel
theorem dX1_lookAtUnion_118 : decode cX1_lookAtUnion 118 = .ok (.aload_n 0, 1) := by decide +kernel
theorem dX1_lookAtUnion_119 : decode cX1_lookAtUnion 119 = .ok (.getfield 33, 3) := by decide +kernel
theorem dX1_lookAtUnion_122 : decode cX1_lookAtUnion 122 = .ok (.aload_n 0, 1) := by decide +kernel
theorem dX1_lookAtUnion_123 : decode cX1_lookAtUnion 123 = .ok (.getfield 33, 3) := by decide +kernel
theorem dX1_lookAtUnion_126 : decode cX1_lookAtUnion 126 = .ok (.iload 4, 2) := by decide +kernel
theorem dX1_lookAtUnion_128 : decode cX1_lookAtUnion 128 = .ok (.iload 6, 2) := by decide +kernel
theorem dX1_lookAtUnion_130 : decode cX1_lookAtUnion 130 = .ok (.invokevirtual 157, 3) := by decide +kernel
theorem dX1_lookAtUnion_133 : decode cX1_lookAtUnion 133 = .ok (.iload 7, 2) := by decide +kernel
theorem dX1_lookAtUnion_135 : decode cX1_lookAtUnion 135 = .ok (.invokevirtual 160, 3) := by decide +kernel
theorem dX1_lookAtUnion_138 : decode cX1_lookAtUnion 138 = .ok (.aload_n 0, 1) := by decide +kernel
theorem dX1_lookAtUnion_139 : decode cX1_lookAtUnion 139 = .ok (.getfield 37, 3) := by decide +kernel
theorem dX1_lookAtUnion_142 : decode cX1_lookAtUnion 142 = .ok (.iload 5, 2) := by decide +kernel
theorem dX1_lookAtUnion_144 : decode cX1_lookAtUnion 144 = .ok (.invokevirtual 163, 3) := by decide +kernel
theorem dX1_lookAtUnion_147 : decode cX1_lookAtUnion 147 = .ok (.istore 5, 2) := by decide +kernel
theorem dX1_lookAtUnion_149 : decode cX1_lookAtUnion 149 = .ok (.iinc 6 1, 3) := by decide +kernel
theorem dX1_lookAtUnion_152 : decode cX1_lookAtUnion 152 = .ok (.goto (-91), 3) := by decide +kernel
theorem dX1_lookAtUnion_155 : decode cX1_lookAtUnion 155 = .ok (.iload 4, 2) := by decide +kernel
theorem dX1_lookAtUnion_157 : decode cX1_lookAtUnion 157 = .ok (.ireturn, 1) := by decide +kernel
theorem dX1_hasBranchLike_0 : decode cX1_hasBranchLike 0 = .ok (.aload_n 0, 1) := by decide +kernel
theorem dX1_hasBranchLike_1 : decode cX1_hasBranchLike 1 = .ok (.getfield 33, 3) := by decide +kernel
theorem dX1_hasBranchLike_4 : decode cX1_hasBranchLike 4 = .ok (.iload_n 3, 1) := by decide +kernel
theorem dX1_hasBranchLike_5 : decode cX1_hasBranchLike 5 = .ok (.invokevirtual 166, 3) := by decide +kernel
theorem dX1_hasBranchLike_8 : decode cX1_hasBranchLike 8 = .ok (.istore 4, 2) := by decide +kernel
theorem dX1_hasBranchLike_10 : decode cX1_hasBranchLike 10 = .ok (.iload 4, 2) := by decide +kernel
theorem dX1_hasBranchLike_12 : decode cX1_hasBranchLike 12 = .ok (.bipush 6, 2) := by decide +kernel
theorem dX1_hasBranchLike_14 : decode cX1_hasBranchLike 14 = .ok (.if_icmp .eq 10, 3) := by decide +kernel
theorem dX1_hasBranchLike_17 : decode cX1_hasBranchLike 17 = .ok (.iload 4, 2) := by decide +kernel
theorem dX1_hasBranchLike_19 : decode cX1_hasBranchLike 19 = .ok (.bipush 7, 2) := by decide +kernel
theorem dX1_hasBranchLike_21 : decode cX1_hasBranchLike 21 = .ok (.if_icmp .ne 7, 3) := by decide +kernel
theorem dX1_hasBranchLike_24 : decode cX1_hasBranchLike 24 = .ok (.iconst 1, 1) := by decide +kernel
theorem dX1_hasBranchLike_25 : decode cX1_hasBranchLike 25 = .ok (.goto 4, 3) := by decide +kernel
theorem dX1_hasBranchLike_28 : decode cX1_hasBranchLike 28 = .ok (.iconst 0, 1) := by decide +kernel
theorem dX1_hasBranchLike_29 : decode cX1_hasBranchLike 29 = .ok (.istore 5, 2) := by decide +kernel
theorem dX1_hasBranchLike_31 : decode cX1_hasBranchLike 31 = .ok (.iconst 0, 1) := by decide +kernel
theorem dX1_hasBranchLike_32 : decode cX1_hasBranchLike 32 = .ok (.istore 6, 2) := by decide +kernel
theorem dX1_hasBranchLike_34 : decode cX1_hasBranchLike 34 = .ok (.iload 6, 2) := by decide +kernel
theorem dX1_hasBranchLike_36 : decode cX1_hasBranchLike 36 = .ok (.iload_n 2, 1) := by decide +kernel
theorem dX1_hasBranchLike_37 : decode cX1_hasBranchLike 37 = .ok (.if_icmp .ge 48, 3) := by decide +kernel
theorem dX1_hasBranchLike_40 : decode cX1_hasBranchLike 40 = .ok (.aload_n 0, 1) := by decide +kernel
theorem dX1_hasBranchLike_41 : decode cX1_hasBranchLike 41 = .ok (.getfield 33, 3) := by decide +kernel
theorem dX1_hasBranchLike_44 : decode cX1_hasBranchLike 44 = .ok (.iload_n 1, 1) := by decide +kernel
theorem dX1_hasBranchLike_45 : decode cX1_hasBranchLike 45 = .ok (.iload 6, 2) := by decide +kernel
theorem dX1_hasBranchLike_47 : decode cX1_hasBranchLike 47 = .ok (.invokevirtual 167, 3) := by decide +kernel
theorem dX1_hasBranchLike_50 : decode cX1_hasBranchLike 50 = .ok (.istore 7, 2) := by decide +kernel
theorem dX1_hasBranchLike_52 : decode cX1_hasBranchLike 52 = .ok (.iload 7, 2) := by decide +kernel
theorem dX1_hasBranchLike_54 : decode cX1_hasBranchLike 54 = .ok (.iload_n 3, 1) := by decide +kernel
theorem dX1_hasBranchLike_55 : decode cX1_hasBranchLike 55 = .ok (.if_icmp .eq 22, 3) := by decide +kernel
theorem dX1_hasBranchLike_58 : decode cX1_hasBranchLike 58 = .ok (.iload 5, 2) := by decide +kernel
theorem dX1_hasBranchLike_60 : decode cX1_hasBranchLike 60 = .ok (.ifCond .eq 19, 3) := by decide +kernel
theorem dX1_hasBranchLike_63 : decode cX1_hasBranchLike 63 = .ok (.aload_n 0, 1) := by decide +kernel
theorem dX1_hasBranchLike_64 : decode cX1_hasBranchLike 64 = .ok (.getfield 33, 3) := by decide +kernel
theorem dX1_hasBranchLike_67 : decode cX1_hasBranchLike 67 = .ok (.iload 7, 2) := by decide +kernel
theorem dX1_hasBranchLike_69 : decode cX1_hasBranchLike 69 = .ok (.invokevirtual 166, 3) := by decide +kernel
theorem dX1_hasBranchLike_72 : decode cX1_hasBranchLike 72 = .ok (.iload 4, 2) := by decide +kernel
theorem dX1_hasBranchLike_74 : decode cX1_hasBranchLike 74 = .ok (.if_icmp .ne 5, 3) := by decide +kernel
theorem dX1_hasBranchLike_77 : decode cX1_hasBranchLike 77 = .ok (.iconst 1, 1) := by decide +kernel
theorem dX1_hasBranchLike_78 : decode cX1_hasBranchLike 78 = .ok (.ireturn, 1) := by decide +kernel
theorem dX1_hasBranchLike_79 : decode cX1_hasBranchLike 79 = .ok (.iinc 6 1, 3) := by decide +kernel
theorem dX1_hasBranchLike_82 : decode cX1_hasBranchLike 82 = .ok (.goto (-48), 3) := by decide +kernel
theorem dX1_hasBranchLike_85 : decode cX1_hasBranchLike 85 = .ok (.iconst 0, 1) := by decide +kernel
theorem dX1_hasBranchLike_86 : decode cX1_hasBranchLike 86 = .ok (.ireturn, 1) := by decide +kernel
theorem dX1_lookAtObject_0 : decode cX1_lookAtObject 0 = .ok (.aload_n 0, 1) := by decide +kernel
theorem dX1_lookAtObject_1 : decode cX1_lookAtObject 1 = .ok (.getfield 37, 3) := by decide +kernel
theorem dX1_lookAtObject_4 : decode cX1_lookAtObject 4 = .ok (.iload_n 1, 1) := by decide +kernel
theorem dX1_lookAtObject_5 : decode cX1_lookAtObject 5 = .ok (.ldc 170, 2) := by decide +kernel
theorem dX1_lookAtObject_7 : decode cX1_lookAtObject 7 = .ok (.invokevirtual 172, 3) := by decide +kernel
theorem dX1_lookAtObject_10 : decode cX1_lookAtObject 10 = .ok (.istore_n 3, 1) := by decide +kernel
theorem dX1_lookAtObject_11 : decode cX1_lookAtObject 11 = .ok (.aload_n 0, 1) := by decide +kernel
theorem dX1_lookAtObject_12 : decode cX1_lookAtObject 12 = .ok (.getfield 37, 3) := by decide +kernel
theorem dX1_lookAtObject_15 : decode cX1_lookAtObject 15 = .ok (.iload_n 3, 1) := by decide +kernel
theorem dX1_lookAtObject_16 : decode cX1_lookAtObject 16 = .ok (.invokevirtual 176, 3) := by decide +kernel
theorem dX1_lookAtObject_19 : decode cX1_lookAtObject 19 = .ok (.ifCond .ne 11, 3) := by decide +kernel
theorem dX1_lookAtObject_22 : decode cX1_lookAtObject 22 = .ok (.aload_n 0, 1) := by decide +kernel
theorem dX1_lookAtObject_23 : decode cX1_lookAtObject 23 = .ok (.bipush 7, 2) := by decide +kernel
theorem dX1_lookAtObject_25 : decode cX1_lookAtObject 25 = .ok (.iload_n 1, 1) := by decide +kernel
theorem dX1_lookAtObject_26 : decode cX1_lookAtObject 26 = .ok (.invokevirtual 81, 3) := by decide +kernel
theorem dX1_lookAtObject_29 : decode cX1_lookAtObject 29 = .ok (.ireturn, 1) := by decide +kernel
theorem dX1_lookAtObject_30 : decode cX1_lookAtObject 30 = .ok (.aload_n 0, 1) := by decide +kernel
theorem dX1_lookAtObject_31 : decode cX1_lookAtObject 31 = .ok (.iload_n 3, 1) := by decide +kernel
theorem dX1_lookAtObject_32 : decode cX1_lookAtObject 32 = .ok (.invokevirtual 180, 3) := by decide +kernel
theorem dX1_lookAtObject_35 : decode cX1_lookAtObject 35 = .ok (.tableswitch 94 6 11 #[37, 56, 94, 75, 81, 87], 37) := by decide +kernel
theorem dX1_lookAtObject_72 : decode cX1_lookAtObject 72 = .ok (.aload_n 0, 1) := by decide +kernel
theorem dX1_lookAtObject_73 : decode cX1_lookAtObject 73 = .ok (.iload_n 1, 1) := by decide +kernel
theorem dX1_lookAtObject_74 : decode cX1_lookAtObject 74 = .ok (.bipush 6, 2) := by decide +kernel
theorem dX1_lookAtObject_76 : decode cX1_lookAtObject 76 = .ok (.aload_n 0, 1) := by decide +kernel
theorem dX1_lookAtObject_77 : decode cX1_lookAtObject 77 = .ok (.getfield 37, 3) := by decide +kernel
theorem dX1_lookAtObject_80 : decode cX1_lookAtObject 80 = .ok (.iload_n 1, 1) := by decide +kernel
theorem dX1_lookAtObject_81 : decode cX1_lookAtObject 81 = .ok (.ldc 183, 2) := by decide +kernel
theorem dX1_lookAtObject_83 : decode cX1_lookAtObject 83 = .ok (.invokevirtual 172, 3) := by decide +kernel
theorem dX1_lookAtObject_86 : decode cX1_lookAtObject 86 = .ok (.iload_n 2, 1) := by decide +kernel
theorem dX1_lookAtObject_87 : decode cX1_lookAtObject 87 = .ok (.invokevirtual 185, 3) := by decide +kernel
theorem dX1_lookAtObject_90 : decode cX1_lookAtObject 90 = .ok (.ireturn, 1) := by decide +kernel
theorem dX1_lookAtObject_91 : decode cX1_lookAtObject 91 = .ok (.aload_n 0, 1) := by decide +kernel
theorem dX1_lookAtObject_92 : decode cX1_lookAtObject 92 = .ok (.iload_n 1, 1) := by decide +kernel
theorem dX1_lookAtObject_93 : decode cX1_lookAtObject 93 = .ok (.bipush 7, 2) := by decide +kernel
theorem dX1_lookAtObject_95 : decode cX1_lookAtObject 95 = .ok (.aload_n 0, 1) := by decide +kernel
theorem dX1_lookAtObject_96 : decode cX1_lookAtObject 96 = .ok (.getfield 37, 3) := by decide +kernel
theorem dX1_lookAtObject_99 : decode cX1_lookAtObject 99 = .ok (.iload_n 1, 1) := by decide +kernel
theorem dX1_lookAtObject_100 : decode cX1_lookAtObject 100 = .ok (.ldc 189, 2) := by decide +kernel
theorem dX1_lookAtObject_102 : decode cX1_lookAtObject 102 = .ok (.invokevirtual 172, 3) := by decide +kernel
theorem dX1_lookAtObject_105 : decode cX1_lookAtObject 105 = .ok (.iload_n 2, 1) := by decide +kernel
theorem dX1_lookAtObject_106 : decode cX1_lookAtObject 106 = .ok (.invokevirtual 185, 3) := by decide +kernel
theorem dX1_lookAtObject_109 : decode cX1_lookAtObject 109 = .ok (.ireturn, 1) := by decide +kernel
theorem dX1_lookAtObject_110 : decode cX1_lookAtObject 110 = .ok (.aload_n 0, 1) := by decide +kernel
theorem dX1_lookAtObject_111 : decode cX1_lookAtObject 111 = .ok (.iload_n 1, 1) := by decide +kernel
theorem dX1_lookAtObject_112 : decode cX1_lookAtObject 112 = .ok (.invokevirtual 191, 3) := by decide +kernel
theorem dX1_lookAtObject_115 : decode cX1_lookAtObject 115 = .ok (.ireturn, 1) := by decide +kernel
theorem dX1_lookAtObject_116 : decode cX1_lookAtObject 116 = .ok (.aload_n 0, 1) := by decide +kernel
theorem dX1_lookAtObject_117 : decode cX1_lookAtObject 117 = .ok (.iload_n 1, 1) := by decide +kernel
theorem dX1_lookAtObject_118 : decode cX1_lookAtObject 118 = .ok (.invokevirtual 194, 3) := by decide +kernel
theorem dX1_lookAtObject_121 : decode cX1_lookAtObject 121 = .ok (.ireturn, 1) := by decide +kernel
theorem dX1_lookAtObject_122 : decode cX1_lookAtObject 122 = .ok (.aload_n 0, 1) := by decide +kernel
theorem dX1_lookAtObject_123 : decode cX1_lookAtObject 123 = .ok (.iload_n 1, 1) := by decide +kernel
theorem dX1_lookAtObject_124 : decode cX1_lookAtObject 124 = .ok (.iload_n 2, 1) := by decide +kernel
theorem dX1_lookAtObject_125 : decode cX1_lookAtObject 125 = .ok (.invokevirtual 197, 3) := by decide +kernel
theorem dX1_lookAtObject_128 : decode cX1_lookAtObject 128 = .ok (.ireturn, 1) := by decide +kernel
theorem dX1_lookAtObject_129 : decode cX1_lookAtObject 129 = .ok (.aload_n 0, 1) := by decide +kernel
theorem dX1_lookAtObject_130 : decode cX1_lookAtObject 130 = .ok (.iload_n 3, 1) := by decide +kernel
theorem dX1_lookAtObject_131 : decode cX1_lookAtObject 131 = .ok (.invokevirtual 88, 3) := by decide +kernel
theorem dX1_lookAtObject_134 : decode cX1_lookAtObject 134 = .ok (.ireturn, 1) := by decide +kernel
theorem dX1_lookAtItems_0 : decode cX1_lookAtItems 0 = .ok (.iload_n 3, 1) := by decide +kernel
theorem dX1_lookAtItems_1 : decode cX1_lookAtItems 1 = .ok (.iconst (-1), 1) := by decide +kernel
theorem dX1_lookAtItems_2 : decode cX1_lookAtItems 2 = .ok (.if_icmp .ne 11, 3) := by decide +kernel
theorem dX1_lookAtItems_5 : decode cX1_lookAtItems 5 = .ok (.aload_n 0, 1) := by decide +kernel
theorem dX1_lookAtItems_6 : decode cX1_lookAtItems 6 = .ok (.bipush 8, 2) := by decide +kernel
theorem dX1_lookAtItems_8 : decode cX1_lookAtItems 8 = .ok (.iload_n 1, 1) := by decide +kernel
theorem dX1_lookAtItems_9 : decode cX1_lookAtItems 9 = .ok (.invokevirtual 81, 3) := by decide +kernel
theorem dX1_lookAtItems_12 : decode cX1_lookAtItems 12 = .ok (.ireturn, 1) := by decide +kernel
theorem dX1_lookAtItems_13 : decode cX1_lookAtItems 13 = .ok (.aload_n 0, 1) := by decide +kernel
theorem dX1_lookAtItems_14 : decode cX1_lookAtItems 14 = .ok (.getfield 33, 3) := by decide +kernel
theorem dX1_lookAtItems_17 : decode cX1_lookAtItems 17 = .ok (.iload_n 2, 1) := by decide +kernel
theorem dX1_lookAtItems_18 : decode cX1_lookAtItems 18 = .ok (.invokevirtual 143, 3) := by decide +kernel
theorem dX1_lookAtItems_21 : decode cX1_lookAtItems 21 = .ok (.istore 5, 2) := by decide +kernel
theorem dX1_lookAtItems_23 : decode cX1_lookAtItems 23 = .ok (.aload_n 0, 1) := by decide +kernel
theorem dX1_lookAtItems_24 : decode cX1_lookAtItems 24 = .ok (.getfield 33, 3) := by decide +kernel
theorem dX1_lookAtItems_27 : decode cX1_lookAtItems 27 = .ok (.iload 5, 2) := by decide +kernel
theorem dX1_lookAtItems_29 : decode cX1_lookAtItems 29 = .ok (.aload_n 0, 1) := by decide +kernel
theorem dX1_lookAtItems_30 : decode cX1_lookAtItems 30 = .ok (.iload_n 3, 1) := by decide +kernel
theorem dX1_lookAtItems_31 : decode cX1_lookAtItems 31 = .ok (.iload 4, 2) := by decide +kernel
theorem dX1_lookAtItems_33 : decode cX1_lookAtItems 33 = .ok (.iconst 1, 1) := by decide +kernel
theorem dX1_lookAtItems_34 : decode cX1_lookAtItems 34 = .ok (.iadd, 1) := by decide +kernel
theorem dX1_lookAtItems_35 : decode cX1_lookAtItems 35 = .ok (.iconst 0, 1) := by decide +kernel
theorem dX1_lookAtItems_36 : decode cX1_lookAtItems 36 = .ok (.invokevirtual 57, 3) := by decide +kernel
theorem dX1_lookAtItems_39 : decode cX1_lookAtItems 39 = .ok (.invokevirtual 200, 3) := by decide +kernel
theorem dX1_lookAtItems_42 : decode cX1_lookAtItems 42 = .ok (.iload 5, 2) := by decide +kernel
theorem dX1_lookAtItems_44 : decode cX1_lookAtItems 44 = .ok (.ireturn, 1) := by decide +kernel
theorem dX1_define_0 : decode cX1_define 0 = .ok (.aload_n 0, 1) := by decide +kernel
theorem dX1_define_1 : decode cX1_define 1 = .ok (.getfield 37, 3) := by decide +kernel
theorem dX1_define_4 : decode cX1_define 4 = .ok (.iload_n 1, 1) := by decide +kernel
theorem dX1_define_5 : decode cX1_define 5 = .ok (.ldc 203, 2) := by decide +kernel
theorem dX1_define_7 : decode cX1_define 7 = .ok (.invokevirtual 172, 3) := by decide +kernel
theorem dX1_define_10 : decode cX1_define 10 = .ok (.istore_n 3, 1) := by decide +kernel
theorem dX1_define_11 : decode cX1_define 11 = .ok (.aload_n 0, 1) := by decide +kernel
theorem dX1_define_12 : decode cX1_define 12 = .ok (.getfield 37, 3) := by decide +kernel
theorem dX1_define_15 : decode cX1_define 15 = .ok (.iload_n 3, 1) := by decide +kernel
theorem dX1_define_16 : decode cX1_define 16 = .ok (.invokevirtual 176, 3) := by decide +kernel
theorem dX1_define_19 : decode cX1_define 19 = .ok (.ifCond .ne 11, 3) := by decide +kernel
theorem dX1_define_22 : decode cX1_define 22 = .ok (.aload_n 0, 1) := by decide +kernel
theorem dX1_define_23 : decode cX1_define 23 = .ok (.bipush 8, 2) := by decide +kernel
theorem dX1_define_25 : decode cX1_define 25 = .ok (.iload_n 1, 1) := by decide +kernel
theorem dX1_define_26 : decode cX1_define 26 = .ok (.invokevirtual 81, 3) := by decide +kernel
theorem dX1_define_29 : decode cX1_define 29 = .ok (.ireturn, 1) := by decide +kernel
theorem dX1_define_30 : decode cX1_define 30 = .ok (.aload_n 0, 1) := by decide +kernel
theorem dX1_define_31 : decode cX1_define 31 = .ok (.iload_n 3, 1) := by decide +kernel
theorem dX1_define_32 : decode cX1_define 32 = .ok (.invokevirtual 205, 3) := by decide +kernel
theorem dX1_define_35 : decode cX1_define 35 = .ok (.ifCond .eq 30, 3) := by decide +kernel
theorem dX1_define_38 : decode cX1_define 38 = .ok (.aload_n 0, 1) := by decide +kernel
theorem dX1_define_39 : decode cX1_define 39 = .ok (.iload_n 3, 1) := by decide +kernel
theorem dX1_define_40 : decode cX1_define 40 = .ok (.invokevirtual 97, 3) := by decide +kernel
theorem dX1_define_43 : decode cX1_define 43 = .ok (.iconst (-1), 1) := by decide +kernel
theorem dX1_define_44 : decode cX1_define 44 = .ok (.if_icmp .ne 21, 3) := by decide +kernel
theorem dX1_define_47 : decode cX1_define 47 = .ok (.aload_n 0, 1) := by decide +kernel
theorem dX1_define_48 : decode cX1_define 48 = .ok (.iload_n 3, 1) := by decide +kernel
theorem dX1_define_49 : decode cX1_define 49 = .ok (.invokevirtual 180, 3) := by decide +kernel
theorem dX1_define_52 : decode cX1_define 52 = .ok (.iconst (-1), 1) := by decide +kernel
theorem dX1_define_53 : decode cX1_define 53 = .ok (.if_icmp .ne 12, 3) := by decide +kernel
theorem dX1_define_56 : decode cX1_define 56 = .ok (.aload_n 0, 1) := by decide +kernel
theorem dX1_define_57 : decode cX1_define 57 = .ok (.iload_n 3, 1) := by decide +kernel
theorem dX1_define_58 : decode cX1_define 58 = .ok (.invokevirtual 100, 3) := by decide +kernel
theorem dX1_define_61 : decode cX1_define 61 = .ok (.iconst (-1), 1) := by decide +kernel
theorem dX1_define_62 : decode cX1_define 62 = .ok (.if_icmp .eq 11, 3) := by decide +kernel
theorem dX1_define_65 : decode cX1_define 65 = .ok (.aload_n 0, 1) := by decide +kernel
theorem dX1_define_66 : decode cX1_define 66 = .ok (.bipush 9, 2) := by decide +kernel
theorem dX1_define_68 : decode cX1_define 68 = .ok (.iload_n 3, 1) := by decide +kernel
theorem dX1_define_69 : decode cX1_define 69 = .ok (.invokevirtual 81, 3) := by decide +kernel
theorem dX1_define_72 : decode cX1_define 72 = .ok (.ireturn, 1) := by decide +kernel
theorem dX1_define_73 : decode cX1_define 73 = .ok (.aload_n 0, 1) := by decide +kernel
theorem dX1_define_74 : decode cX1_define 74 = .ok (.getfield 33, 3) := by decide +kernel
theorem dX1_define_77 : decode cX1_define 77 = .ok (.iload_n 2, 1) := by decide +kernel
theorem dX1_define_78 : decode cX1_define 78 = .ok (.invokevirtual 143, 3) := by decide +kernel
theorem dX1_define_81 : decode cX1_define 81 = .ok (.istore 4, 2) := by decide +kernel
theorem dX1_define_83 : decode cX1_define 83 = .ok (.aload_n 0, 1) := by decide +kernel
theorem dX1_define_84 : decode cX1_define 84 = .ok (.getfield 33, 3) := by decide +kernel
theorem dX1_define_87 : decode cX1_define 87 = .ok (.iload 4, 2) := by decide +kernel
theorem dX1_define_89 : decode cX1_define 89 = .ok (.aload_n 0, 1) := by decide +kernel
theorem dX1_define_90 : decode cX1_define 90 = .ok (.getfield 33, 3) := by decide +kernel
theorem dX1_define_93 : decode cX1_define 93 = .ok (.aload_n 0, 1) := by decide +kernel
theorem dX1_define_94 : decode cX1_define 94 = .ok (.getfield 37, 3) := by decide +kernel
theorem dX1_define_97 : decode cX1_define 97 = .ok (.invokevirtual 129, 3) := by decide +kernel
theorem dX1_define_100 : decode cX1_define 100 = .ok (.aload_n 0, 1) := by decide +kernel
theorem dX1_define_101 : decode cX1_define 101 = .ok (.getfield 37, 3) := by decide +kernel
theorem dX1_define_104 : decode cX1_define 104 = .ok (.iload_n 3, 1) := by decide +kernel
theorem dX1_define_105 : decode cX1_define 105 = .ok (.invokevirtual 133, 3) := by decide +kernel
theorem dX1_define_108 : decode cX1_define 108 = .ok (.invokevirtual 208, 3) := by decide +kernel
theorem dX1_define_111 : decode cX1_define 111 = .ok (.invokevirtual 211, 3) := by decide +kernel
theorem dX1_define_114 : decode cX1_define 114 = .ok (.iload 4, 2) := by decide +kernel
theorem dX1_define_116 : decode cX1_define 116 = .ok (.ireturn, 1) := by decide +kernel
theorem dX1_isName_0 : decode cX1_isName 0 = .ok (.aload_n 0, 1) := by decide +kernel
theorem dX1_isName_1 : decode cX1_isName 1 = .ok (.getfield 37, 3) := by decide +kernel
theorem dX1_isName_4 : decode cX1_isName 4 = .ok (.iload_n 1, 1) := by decide +kernel
theorem dX1_isName_5 : decode cX1_isName 5 = .ok (.invokevirtual 214, 3) := by decide +kernel
theorem dX1_isName_8 : decode cX1_isName 8 = .ok (.istore_n 2, 1) := by decide +kernel
theorem dX1_isName_9 : decode cX1_isName 9 = .ok (.iload_n 2, 1) := by decide +kernel
theorem dX1_isName_10 : decode cX1_isName 10 = .ok (.iconst 1, 1) := by decide +kernel
theorem dX1_isName_11 : decode cX1_isName 11 = .ok (.if_icmp .lt 9, 3) := by decide +kernel
theorem dX1_isName_14 : decode cX1_isName 14 = .ok (.iload_n 2, 1) := by decide +kernel
theorem dX1_isName_15 : decode cX1_isName 15 = .ok (.bipush 32, 2) := by decide +kernel
theorem dX1_isName_17 : decode cX1_isName 17 = .ok (.if_icmp .le 5, 3) := by decide +kernel
theorem dX1_isName_20 : decode cX1_isName 20 = .ok (.iconst 0, 1) := by decide +kernel
theorem dX1_isName_21 : decode cX1_isName 21 = .ok (.ireturn, 1) := by decide +kernel
theorem dX1_isName_22 : decode cX1_isName 22 = .ok (.iconst 0, 1) := by decide +kernel
theorem dX1_isName_23 : decode cX1_isName 23 = .ok (.istore_n 3, 1) := by decide +kernel
theorem dX1_isName_24 : decode cX1_isName 24 = .ok (.iload_n 3, 1) := by decide +kernel
theorem dX1_isName_25 : decode cX1_isName 25 = .ok (.iload_n 2, 1) := by decide +kernel
theorem dX1_isName_26 : decode cX1_isName 26 = .ok (.if_icmp .ge 112, 3) := by decide +kernel
theorem dX1_isName_29 : decode cX1_isName 29 = .ok (.aload_n 0, 1) := by decide +kernel
theorem dX1_isName_30 : decode cX1_isName 30 = .ok (.getfield 37, 3) := by decide +kernel
theorem dX1_isName_33 : decode cX1_isName 33 = .ok (.invokevirtual 129, 3) := by decide +kernel
theorem dX1_isName_36 : decode cX1_isName 36 = .ok (.aload_n 0, 1) := by decide +kernel
theorem dX1_isName_37 : decode cX1_isName 37 = .ok (.getfield 37, 3) := by decide +kernel
theorem dX1_isName_40 : decode cX1_isName 40 = .ok (.iload_n 1, 1) := by decide +kernel
theorem dX1_isName_41 : decode cX1_isName 41 = .ok (.invokevirtual 133, 3) := by decide +kernel
theorem dX1_isName_44 : decode cX1_isName 44 = .ok (.iconst 1, 1) := by decide +kernel
theorem dX1_isName_45 : decode cX1_isName 45 = .ok (.iadd, 1) := by decide +kernel
theorem dX1_isName_46 : decode cX1_isName 46 = .ok (.iload_n 3, 1) := by decide +kernel
theorem dX1_isName_47 : decode cX1_isName 47 = .ok (.iadd, 1) := by decide +kernel
theorem dX1_isName_48 : decode cX1_isName 48 = .ok (.invokevirtual 68, 3) := by decide +kernel
theorem dX1_isName_51 : decode cX1_isName 51 = .ok (.istore 4, 2) := by decide +kernel
theorem dX1_isName_53 : decode cX1_isName 53 = .ok (.iload 4, 2) := by decide +kernel
theorem dX1_isName_55 : decode cX1_isName 55 = .ok (.bipush 48, 2) := by decide +kernel
theorem dX1_isName_57 : decode cX1_isName 57 = .ok (.if_icmp .lt 14, 3) := by decide +kernel
theorem dX1_isName_60 : decode cX1_isName 60 = .ok (.iload 4, 2) := by decide +kernel
theorem dX1_isName_62 : decode cX1_isName 62 = .ok (.bipush 57, 2) := by decide +kernel
theorem dX1_isName_64 : decode cX1_isName 64 = .ok (.if_icmp .gt 7, 3) := by decide +kernel
theorem dX1_isName_67 : decode cX1_isName 67 = .ok (.iconst 1, 1) := by decide +kernel
theorem dX1_isName_68 : decode cX1_isName 68 = .ok (.goto 4, 3) := by decide +kernel
theorem dX1_isName_71 : decode cX1_isName 71 = .ok (.iconst 0, 1) := by decide +kernel
theorem dX1_isName_72 : decode cX1_isName 72 = .ok (.istore 5, 2) := by decide +kernel
theorem dX1_isName_74 : decode cX1_isName 74 = .ok (.iload 4, 2) := by decide +kernel
theorem dX1_isName_76 : decode cX1_isName 76 = .ok (.bipush 97, 2) := by decide +kernel
theorem dX1_isName_78 : decode cX1_isName 78 = .ok (.if_icmp .lt 10, 3) := by decide +kernel
theorem dX1_isName_81 : decode cX1_isName 81 = .ok (.iload 4, 2) := by decide +kernel
theorem dX1_isName_83 : decode cX1_isName 83 = .ok (.bipush 122, 2) := by decide +kernel
theorem dX1_isName_85 : decode cX1_isName 85 = .ok (.if_icmp .le 24, 3) := by decide +kernel
theorem dX1_isName_88 : decode cX1_isName 88 = .ok (.iload 4, 2) := by decide +kernel
theorem dX1_isName_90 : decode cX1_isName 90 = .ok (.bipush 65, 2) := by decide +kernel
theorem dX1_isName_92 : decode cX1_isName 92 = .ok (.if_icmp .lt 10, 3) := by decide +kernel
theorem dX1_isName_95 : decode cX1_isName 95 = .ok (.iload 4, 2) := by decide +kernel
theorem dX1_isName_97 : decode cX1_isName 97 = .ok (.bipush 90, 2) := by decide +kernel
theorem dX1_isName_99 : decode cX1_isName 99 = .ok (.if_icmp .le 10, 3) := by decide +kernel
theorem dX1_isName_102 : decode cX1_isName 102 = .ok (.iload 4, 2) := by decide +kernel
theorem dX1_isName_104 : decode cX1_isName 104 = .ok (.bipush 95, 2) := by decide +kernel
theorem dX1_isName_106 : decode cX1_isName 106 = .ok (.if_icmp .ne 7, 3) := by decide +kernel
theorem dX1_isName_109 : decode cX1_isName 109 = .ok (.iconst 1, 1) := by decide +kernel
theorem dX1_isName_110 : decode cX1_isName 110 = .ok (.goto 4, 3) := by decide +kernel
theorem dX1_isName_113 : decode cX1_isName 113 = .ok (.iconst 0, 1) := by decide +kernel
theorem dX1_isName_114 : decode cX1_isName 114 = .ok (.istore 6, 2) := by decide +kernel
theorem dX1_isName_116 : decode cX1_isName 116 = .ok (.iload 6, 2) := by decide +kernel
theorem dX1_isName_118 : decode cX1_isName 118 = .ok (.ifCond .ne 14, 3) := by decide +kernel
theorem dX1_isName_121 : decode cX1_isName 121 = .ok (.iload 5, 2) := by decide +kernel
theorem dX1_isName_123 : decode cX1_isName 123 = .ok (.ifCond .eq 7, 3) := by decide +kernel
theorem dX1_isName_126 : decode cX1_isName 126 = .ok (.iload_n 3, 1) := by decide +kernel
theorem dX1_isName_127 : decode cX1_isName 127 = .ok (.ifCond .gt 5, 3) := by decide +kernel
theorem dX1_isName_130 : decode cX1_isName 130 = .ok (.iconst 0, 1) := by decide +kernel
theorem dX1_isName_131 : decode cX1_isName 131 = .ok (.ireturn, 1) := by decide +kernel
theorem dX1_isName_132 : decode cX1_isName 132 = .ok (.iinc 3 1, 3) := by decide +kernel
theorem dX1_isName_135 : decode cX1_isName 135 = .ok (.goto (-111), 3) := by decide +kernel
theorem dX1_isName_138 : decode cX1_isName 138 = .ok (.iconst 1, 1) := by decide +kernel
theorem dX1_isName_139 : decode cX1_isName 139 = .ok (.ireturn, 1) := by decide +kernel
theorem dX1_lookAtFixed_0 : decode cX1_lookAtFixed 0 = .ok (.aload_n 0, 1) := by decide +kernel
theorem dX1_lookAtFixed_1 : decode cX1_lookAtFixed 1 = .ok (.iload_n 1, 1) := by decide +kernel
theorem dX1_lookAtFixed_2 : decode cX1_lookAtFixed 2 = .ok (.bipush 9, 2) := by decide +kernel
theorem dX1_lookAtFixed_4 : decode cX1_lookAtFixed 4 = .ok (.invokevirtual 217, 3) := by decide +kernel
theorem dX1_lookAtFixed_7 : decode cX1_lookAtFixed 7 = .ok (.istore_n 2, 1) := by decide +kernel
theorem dX1_lookAtFixed_8 : decode cX1_lookAtFixed 8 = .ok (.aload_n 0, 1) := by decide +kernel
theorem dX1_lookAtFixed_9 : decode cX1_lookAtFixed 9 = .ok (.getfield 51, 3) := by decide +kernel
theorem dX1_lookAtFixed_12 : decode cX1_lookAtFixed 12 = .ok (.ifCond .eq 5, 3) := by decide +kernel
theorem dX1_lookAtFixed_15 : decode cX1_lookAtFixed 15 = .ok (.iload_n 2, 1) := by decide +kernel
theorem dX1_lookAtFixed_16 : decode cX1_lookAtFixed 16 = .ok (.ireturn, 1) := by decide +kernel
theorem dX1_lookAtFixed_17 : decode cX1_lookAtFixed 17 = .ok (.aload_n 0, 1) := by decide +kernel
theorem dX1_lookAtFixed_18 : decode cX1_lookAtFixed 18 = .ok (.getfield 37, 3) := by decide +kernel
theorem dX1_lookAtFixed_21 : decode cX1_lookAtFixed 21 = .ok (.iload_n 1, 1) := by decide +kernel
theorem dX1_lookAtFixed_22 : decode cX1_lookAtFixed 22 = .ok (.ldc 220, 2) := by decide +kernel
theorem dX1_lookAtFixed_24 : decode cX1_lookAtFixed 24 = .ok (.invokevirtual 172, 3) := by decide +kernel
theorem dX1_lookAtFixed_27 : decode cX1_lookAtFixed 27 = .ok (.istore_n 3, 1) := by decide +kernel
theorem dX1_lookAtFixed_28 : decode cX1_lookAtFixed 28 = .ok (.iload_n 3, 1) := by decide +kernel
theorem dX1_lookAtFixed_29 : decode cX1_lookAtFixed 29 = .ok (.iconst (-1), 1) := by decide +kernel
theorem dX1_lookAtFixed_30 : decode cX1_lookAtFixed 30 = .ok (.if_icmp .ne 11, 3) := by decide +kernel
theorem dX1_lookAtFixed_33 : decode cX1_lookAtFixed 33 = .ok (.aload_n 0, 1) := by decide +kernel
theorem dX1_lookAtFixed_34 : decode cX1_lookAtFixed 34 = .ok (.bipush 8, 2) := by decide +kernel
theorem dX1_lookAtFixed_36 : decode cX1_lookAtFixed 36 = .ok (.iload_n 1, 1) := by decide +kernel
theorem dX1_lookAtFixed_37 : decode cX1_lookAtFixed 37 = .ok (.invokevirtual 81, 3) := by decide +kernel
theorem dX1_lookAtFixed_40 : decode cX1_lookAtFixed 40 = .ok (.ireturn, 1) := by decide +kernel
theorem dX1_lookAtFixed_41 : decode cX1_lookAtFixed 41 = .ok (.aload_n 0, 1) := by decide +kernel
theorem dX1_lookAtFixed_42 : decode cX1_lookAtFixed 42 = .ok (.getfield 37, 3) := by decide +kernel
theorem dX1_lookAtFixed_45 : decode cX1_lookAtFixed 45 = .ok (.iload_n 3, 1) := by decide +kernel
theorem dX1_lookAtFixed_46 : decode cX1_lookAtFixed 46 = .ok (.invokevirtual 85, 3) := by decide +kernel
theorem dX1_lookAtFixed_49 : decode cX1_lookAtFixed 49 = .ok (.iconst 4, 1) := by decide +kernel
theorem dX1_lookAtFixed_50 : decode cX1_lookAtFixed 50 = .ok (.if_icmp .ne 31, 3) := by decide +kernel
theorem dX1_lookAtFixed_53 : decode cX1_lookAtFixed 53 = .ok (.aload_n 0, 1) := by decide +kernel
theorem dX1_lookAtFixed_54 : decode cX1_lookAtFixed 54 = .ok (.getfield 37, 3) := by decide +kernel
theorem dX1_lookAtFixed_57 : decode cX1_lookAtFixed 57 = .ok (.iload_n 3, 1) := by decide +kernel
theorem dX1_lookAtFixed_58 : decode cX1_lookAtFixed 58 = .ok (.invokevirtual 222, 3) := by decide +kernel
theorem dX1_lookAtFixed_61 : decode cX1_lookAtFixed 61 = .ok (.lconst 0, 1) := by decide +kernel
theorem dX1_lookAtFixed_62 : decode cX1_lookAtFixed 62 = .ok (.lcmp, 1) := by decide +kernel
theorem dX1_lookAtFixed_63 : decode cX1_lookAtFixed 63 = .ok (.ifCond .lt 18, 3) := by decide +kernel
theorem dX1_lookAtFixed_66 : decode cX1_lookAtFixed 66 = .ok (.aload_n 0, 1) := by decide +kernel
theorem dX1_lookAtFixed_67 : decode cX1_lookAtFixed 67 = .ok (.getfield 37, 3) := by decide +kernel
theorem dX1_lookAtFixed_70 : decode cX1_lookAtFixed 70 = .ok (.iload_n 3, 1) := by decide +kernel
theorem dX1_lookAtFixed_71 : decode cX1_lookAtFixed 71 = .ok (.invokevirtual 222, 3) := by decide +kernel
theorem dX1_lookAtFixed_74 : decode cX1_lookAtFixed 74 = .ok (.ldc2_w 226, 3) := by decide +kernel
theorem dX1_lookAtFixed_77 : decode cX1_lookAtFixed 77 = .ok (.lcmp, 1) := by decide +kernel
theorem dX1_lookAtFixed_78 : decode cX1_lookAtFixed 78 = .ok (.ifCond .le 11, 3) := by decide +kernel
theorem dX1_lookAtFixed_81 : decode cX1_lookAtFixed 81 = .ok (.aload_n 0, 1) := by decide +kernel
theorem dX1_lookAtFixed_82 : decode cX1_lookAtFixed 82 = .ok (.bipush 10, 2) := by decide +kernel
theorem dX1_lookAtFixed_84 : decode cX1_lookAtFixed 84 = .ok (.iload_n 3, 1) := by decide +kernel
theorem dX1_lookAtFixed_85 : decode cX1_lookAtFixed 85 = .ok (.invokevirtual 81, 3) := by decide +kernel
theorem dX1_lookAtFixed_88 : decode cX1_lookAtFixed 88 = .ok (.ireturn, 1) := by decide +kernel
theorem dX1_lookAtFixed_89 : decode cX1_lookAtFixed 89 = .ok (.aload_n 0, 1) := by decide +kernel
theorem dX1_lookAtFixed_90 : decode cX1_lookAtFixed 90 = .ok (.getfield 33, 3) := by decide +kernel
theorem dX1_lookAtFixed_93 : decode cX1_lookAtFixed 93 = .ok (.iload_n 2, 1) := by decide +kernel
theorem dX1_lookAtFixed_94 : decode cX1_lookAtFixed 94 = .ok (.aload_n 0, 1) := by decide +kernel
theorem dX1_lookAtFixed_95 : decode cX1_lookAtFixed 95 = .ok (.getfield 37, 3) := by decide +kernel
theorem dX1_lookAtFixed_98 : decode cX1_lookAtFixed 98 = .ok (.iload_n 3, 1) := by decide +kernel
theorem dX1_lookAtFixed_99 : decode cX1_lookAtFixed 99 = .ok (.invokevirtual 222, 3) := by decide +kernel
theorem dX1_lookAtFixed_102 : decode cX1_lookAtFixed 102 = .ok (.l2i, 1) := by decide +kernel
theorem dX1_lookAtFixed_103 : decode cX1_lookAtFixed 103 = .ok (.invokevirtual 228, 3) := by decide +kernel
theorem dX1_lookAtFixed_106 : decode cX1_lookAtFixed 106 = .ok (.iload_n 2, 1) := by decide +kernel
theorem dX1_lookAtFixed_107 : decode cX1_lookAtFixed 107 = .ok (.ireturn, 1) := by decide +kernel
theorem dX1_lookAtEnum_0 : decode cX1_lookAtEnum 0 = .ok (.aload_n 0, 1) := by decide +kernel
theorem dX1_lookAtEnum_1 : decode cX1_lookAtEnum 1 = .ok (.iload_n 1, 1) := by decide +kernel
theorem dX1_lookAtEnum_2 : decode cX1_lookAtEnum 2 = .ok (.bipush 10, 2) := by decide +kernel
theorem dX1_lookAtEnum_4 : decode cX1_lookAtEnum 4 = .ok (.invokevirtual 217, 3) := by decide +kernel
theorem dX1_lookAtEnum_7 : decode cX1_lookAtEnum 7 = .ok (.istore_n 2, 1) := by decide +kernel
theorem dX1_lookAtEnum_8 : decode cX1_lookAtEnum 8 = .ok (.aload_n 0, 1) := by decide +kernel
theorem dX1_lookAtEnum_9 : decode cX1_lookAtEnum 9 = .ok (.getfield 51, 3) := by decide +kernel
theorem dX1_lookAtEnum_12 : decode cX1_lookAtEnum 12 = .ok (.ifCond .eq 5, 3) := by decide +kernel
theorem dX1_lookAtEnum_15 : decode cX1_lookAtEnum 15 = .ok (.iload_n 2, 1) := by decide +kernel
theorem dX1_lookAtEnum_16 : decode cX1_lookAtEnum 16 = .ok (.ireturn, 1) := by decide +kernel
theorem dX1_lookAtEnum_17 : decode cX1_lookAtEnum 17 = .ok (.aload_n 0, 1) := by decide +kernel
theorem dX1_lookAtEnum_18 : decode cX1_lookAtEnum 18 = .ok (.getfield 37, 3) := by decide +kernel
theorem dX1_lookAtEnum_21 : decode cX1_lookAtEnum 21 = .ok (.iload_n 1, 1) := by decide +kernel
theorem dX1_lookAtEnum_22 : decode cX1_lookAtEnum 22 = .ok (.ldc 231, 2) := by decide +kernel
theorem dX1_lookAtEnum_24 : decode cX1_lookAtEnum 24 = .ok (.invokevirtual 172, 3) := by decide +kernel
theorem dX1_lookAtEnum_27 : decode cX1_lookAtEnum 27 = .ok (.istore_n 3, 1) := by decide +kernel
theorem dX1_lookAtEnum_28 : decode cX1_lookAtEnum 28 = .ok (.iload_n 3, 1) := by decide +kernel
theorem dX1_lookAtEnum_29 : decode cX1_lookAtEnum 29 = .ok (.iconst (-1), 1) := by decide +kernel
theorem dX1_lookAtEnum_30 : decode cX1_lookAtEnum 30 = .ok (.if_icmp .ne 11, 3) := by decide +kernel
theorem dX1_lookAtEnum_33 : decode cX1_lookAtEnum 33 = .ok (.aload_n 0, 1) := by decide +kernel
theorem dX1_lookAtEnum_34 : decode cX1_lookAtEnum 34 = .ok (.bipush 8, 2) := by decide +kernel
theorem dX1_lookAtEnum_36 : decode cX1_lookAtEnum 36 = .ok (.iload_n 1, 1) := by decide +kernel
theorem dX1_lookAtEnum_37 : decode cX1_lookAtEnum 37 = .ok (.invokevirtual 81, 3) := by decide +kernel
theorem dX1_lookAtEnum_40 : decode cX1_lookAtEnum 40 = .ok (.ireturn, 1) := by decide +kernel
theorem dX1_lookAtEnum_41 : decode cX1_lookAtEnum 41 = .ok (.aload_n 0, 1) := by decide +kernel
theorem dX1_lookAtEnum_42 : decode cX1_lookAtEnum 42 = .ok (.getfield 37, 3) := by decide +kernel
theorem dX1_lookAtEnum_45 : decode cX1_lookAtEnum 45 = .ok (.iload_n 3, 1) := by decide +kernel
theorem dX1_lookAtEnum_46 : decode cX1_lookAtEnum 46 = .ok (.invokevirtual 140, 3) := by decide +kernel
theorem dX1_lookAtEnum_49 : decode cX1_lookAtEnum 49 = .ok (.istore 4, 2) := by decide +kernel
theorem dX1_lookAtEnum_51 : decode cX1_lookAtEnum 51 = .ok (.aload_n 0, 1) := by decide +kernel
theorem dX1_lookAtEnum_52 : decode cX1_lookAtEnum 52 = .ok (.getfield 37, 3) := by decide +kernel
theorem dX1_lookAtEnum_55 : decode cX1_lookAtEnum 55 = .ok (.iload_n 3, 1) := by decide +kernel
theorem dX1_lookAtEnum_56 : decode cX1_lookAtEnum 56 = .ok (.invokevirtual 85, 3) := by decide +kernel
theorem dX1_lookAtEnum_59 : decode cX1_lookAtEnum 59 = .ok (.iconst 2, 1) := by decide +kernel
theorem dX1_lookAtEnum_60 : decode cX1_lookAtEnum 60 = .ok (.if_icmp .ne 16, 3) := by decide +kernel
theorem dX1_lookAtEnum_63 : decode cX1_lookAtEnum 63 = .ok (.iload 4, 2) := by decide +kernel
theorem dX1_lookAtEnum_65 : decode cX1_lookAtEnum 65 = .ok (.iconst 1, 1) := by decide +kernel
theorem dX1_lookAtEnum_66 : decode cX1_lookAtEnum 66 = .ok (.if_icmp .lt 10, 3) := by decide +kernel
theorem dX1_lookAtEnum_69 : decode cX1_lookAtEnum 69 = .ok (.iload 4, 2) := by decide +kernel
theorem dX1_lookAtEnum_71 : decode cX1_lookAtEnum 71 = .ok (.bipush 32, 2) := by decide +kernel
theorem dX1_lookAtEnum_73 : decode cX1_lookAtEnum 73 = .ok (.if_icmp .le 11, 3) := by decide +kernel
theorem dX1_lookAtEnum_76 : decode cX1_lookAtEnum 76 = .ok (.aload_n 0, 1) := by decide +kernel
theorem dX1_lookAtEnum_77 : decode cX1_lookAtEnum 77 = .ok (.bipush 11, 2) := by decide +kernel
theorem dX1_lookAtEnum_79 : decode cX1_lookAtEnum 79 = .ok (.iload_n 3, 1) := by decide +kernel
theorem dX1_lookAtEnum_80 : decode cX1_lookAtEnum 80 = .ok (.invokevirtual 81, 3) := by decide +kernel
theorem dX1_lookAtEnum_83 : decode cX1_lookAtEnum 83 = .ok (.ireturn, 1) := by decide +kernel
theorem dX1_lookAtEnum_84 : decode cX1_lookAtEnum 84 = .ok (.aload_n 0, 1) := by decide +kernel
theorem dX1_lookAtEnum_85 : decode cX1_lookAtEnum 85 = .ok (.getfield 33, 3) := by decide +kernel
theorem dX1_lookAtEnum_88 : decode cX1_lookAtEnum 88 = .ok (.iload_n 2, 1) := by decide +kernel
theorem dX1_lookAtEnum_89 : decode cX1_lookAtEnum 89 = .ok (.iload 4, 2) := by decide +kernel
theorem dX1_lookAtEnum_91 : decode cX1_lookAtEnum 91 = .ok (.invokevirtual 146, 3) := by decide +kernel
theorem dX1_lookAtEnum_94 : decode cX1_lookAtEnum 94 = .ok (.aload_n 0, 1) := by decide +kernel
theorem dX1_lookAtEnum_95 : decode cX1_lookAtEnum 95 = .ok (.getfield 37, 3) := by decide +kernel
theorem dX1_lookAtEnum_98 : decode cX1_lookAtEnum 98 = .ok (.iload_n 3, 1) := by decide +kernel
theorem dX1_lookAtEnum_99 : decode cX1_lookAtEnum 99 = .ok (.invokevirtual 150, 3) := by decide +kernel
theorem dX1_lookAtEnum_102 : decode cX1_lookAtEnum 102 = .ok (.istore 5, 2) := by decide +kernel
theorem dX1_lookAtEnum_104 : decode cX1_lookAtEnum 104 = .ok (.iconst 0, 1) := by decide +kernel
theorem dX1_lookAtEnum_105 : decode cX1_lookAtEnum 105 = .ok (.istore 6, 2) := by decide +kernel
theorem dX1_lookAtEnum_107 : decode cX1_lookAtEnum 107 = .ok (.iload 6, 2) := by decide +kernel
theorem dX1_lookAtEnum_109 : decode cX1_lookAtEnum 109 = .ok (.iload 4, 2) := by decide +kernel
theorem dX1_lookAtEnum_111 : decode cX1_lookAtEnum 111 = .ok (.if_icmp .ge 101, 3) := by decide +kernel
theorem dX1_lookAtEnum_114 : decode cX1_lookAtEnum 114 = .ok (.aload_n 0, 1) := by decide +kernel
theorem dX1_lookAtEnum_115 : decode cX1_lookAtEnum 115 = .ok (.getfield 37, 3) := by decide +kernel
theorem dX1_lookAtEnum_118 : decode cX1_lookAtEnum 118 = .ok (.iload 5, 2) := by decide +kernel
theorem dX1_lookAtEnum_120 : decode cX1_lookAtEnum 120 = .ok (.invokevirtual 176, 3) := by decide +kernel
theorem dX1_lookAtEnum_123 : decode cX1_lookAtEnum 123 = .ok (.ifCond .eq 23, 3) := by decide +kernel
theorem dX1_lookAtEnum_126 : decode cX1_lookAtEnum 126 = .ok (.aload_n 0, 1) := by decide +kernel
theorem dX1_lookAtEnum_127 : decode cX1_lookAtEnum 127 = .ok (.iload 5, 2) := by decide +kernel
theorem dX1_lookAtEnum_129 : decode cX1_lookAtEnum 129 = .ok (.invokevirtual 205, 3) := by decide +kernel
theorem dX1_lookAtEnum_132 : decode cX1_lookAtEnum 132 = .ok (.ifCond .eq 14, 3) := by decide +kernel
theorem dX1_lookAtEnum_135 : decode cX1_lookAtEnum 135 = .ok (.aload_n 0, 1) := by decide +kernel
theorem dX1_lookAtEnum_136 : decode cX1_lookAtEnum 136 = .ok (.iload_n 2, 1) := by decide +kernel
theorem dX1_lookAtEnum_137 : decode cX1_lookAtEnum 137 = .ok (.iload 5, 2) := by decide +kernel
theorem dX1_lookAtEnum_139 : decode cX1_lookAtEnum 139 = .ok (.invokevirtual 233, 3) := by decide +kernel
theorem dX1_lookAtEnum_142 : decode cX1_lookAtEnum 142 = .ok (.iconst (-1), 1) := by decide +kernel
theorem dX1_lookAtEnum_143 : decode cX1_lookAtEnum 143 = .ok (.if_icmp .eq 12, 3) := by decide +kernel
theorem dX1_lookAtEnum_146 : decode cX1_lookAtEnum 146 = .ok (.aload_n 0, 1) := by decide +kernel
theorem dX1_lookAtEnum_147 : decode cX1_lookAtEnum 147 = .ok (.bipush 11, 2) := by decide +kernel
theorem dX1_lookAtEnum_149 : decode cX1_lookAtEnum 149 = .ok (.iload 5, 2) := by decide +kernel
theorem dX1_lookAtEnum_151 : decode cX1_lookAtEnum 151 = .ok (.invokevirtual 81, 3) := by decide +kernel
theorem dX1_lookAtEnum_154 : decode cX1_lookAtEnum 154 = .ok (.ireturn, 1) := by decide +kernel
theorem dX1_lookAtEnum_155 : decode cX1_lookAtEnum 155 = .ok (.aload_n 0, 1) := by decide +kernel
theorem dX1_lookAtEnum_156 : decode cX1_lookAtEnum 156 = .ok (.getfield 33, 3) := by decide +kernel
theorem dX1_lookAtEnum_159 : decode cX1_lookAtEnum 159 = .ok (.aload_n 0, 1) := by decide +kernel
theorem dX1_lookAtEnum_160 : decode cX1_lookAtEnum 160 = .ok (.getfield 33, 3) := by decide +kernel
theorem dX1_lookAtEnum_163 : decode cX1_lookAtEnum 163 = .ok (.iload_n 2, 1) := by decide +kernel
theorem dX1_lookAtEnum_164 : decode cX1_lookAtEnum 164 = .ok (.iload 6, 2) := by decide +kernel
theorem dX1_lookAtEnum_166 : decode cX1_lookAtEnum 166 = .ok (.invokevirtual 157, 3) := by decide +kernel
theorem dX1_lookAtEnum_169 : decode cX1_lookAtEnum 169 = .ok (.aload_n 0, 1) := by decide +kernel
theorem dX1_lookAtEnum_170 : decode cX1_lookAtEnum 170 = .ok (.getfield 33, 3) := by decide +kernel
theorem dX1_lookAtEnum_173 : decode cX1_lookAtEnum 173 = .ok (.aload_n 0, 1) := by decide +kernel
theorem dX1_lookAtEnum_174 : decode cX1_lookAtEnum 174 = .ok (.getfield 37, 3) := by decide +kernel
theorem dX1_lookAtEnum_177 : decode cX1_lookAtEnum 177 = .ok (.invokevirtual 129, 3) := by decide +kernel
theorem dX1_lookAtEnum_180 : decode cX1_lookAtEnum 180 = .ok (.aload_n 0, 1) := by decide +kernel
theorem dX1_lookAtEnum_181 : decode cX1_lookAtEnum 181 = .ok (.getfield 37, 3) := by decide +kernel
theorem dX1_lookAtEnum_184 : decode cX1_lookAtEnum 184 = .ok (.iload 5, 2) := by decide +kernel
theorem dX1_lookAtEnum_186 : decode cX1_lookAtEnum 186 = .ok (.invokevirtual 133, 3) := by decide +kernel
theorem dX1_lookAtEnum_189 : decode cX1_lookAtEnum 189 = .ok (.invokevirtual 208, 3) := by decide +kernel
theorem dX1_lookAtEnum_192 : decode cX1_lookAtEnum 192 = .ok (.invokevirtual 236, 3) := by decide +kernel
theorem dX1_lookAtEnum_195 : decode cX1_lookAtEnum 195 = .ok (.aload_n 0, 1) := by decide +kernel
theorem dX1_lookAtEnum_196 : decode cX1_lookAtEnum 196 = .ok (.getfield 37, 3) := by decide +kernel
theorem dX1_lookAtEnum_199 : decode cX1_lookAtEnum 199 = .ok (.iload 5, 2) := by decide +kernel
theorem dX1_lookAtEnum_201 : decode cX1_lookAtEnum 201 = .ok (.invokevirtual 163, 3) := by decide +kernel
theorem dX1_lookAtEnum_204 : decode cX1_lookAtEnum 204 = .ok (.istore 5, 2) := by decide +kernel
theorem dX1_lookAtEnum_206 : decode cX1_lookAtEnum 206 = .ok (.iinc 6 1, 3) := by decide +kernel
theorem dX1_lookAtEnum_209 : decode cX1_lookAtEnum 209 = .ok (.goto (-102), 3) := by decide +kernel
theorem dX1_lookAtEnum_212 : decode cX1_lookAtEnum 212 = .ok (.aload_n 0, 1) := by decide +kernel
theorem dX1_lookAtEnum_213 : decode cX1_lookAtEnum 213 = .ok (.iload_n 1, 1) := by decide +kernel
theorem dX1_lookAtEnum_214 : decode cX1_lookAtEnum 214 = .ok (.iload_n 2, 1) := by decide +kernel
theorem dX1_lookAtEnum_215 : decode cX1_lookAtEnum 215 = .ok (.invokevirtual 239, 3) := by decide +kernel
theorem dX1_lookAtEnum_218 : decode cX1_lookAtEnum 218 = .ok (.ireturn, 1) := by decide +kernel
theorem dX1_lookAtFallback_0 : decode cX1_lookAtFallback 0 = .ok (.aload_n 0, 1) := by decide +kernel
theorem dX1_lookAtFallback_1 : decode cX1_lookAtFallback 1 = .ok (.getfield 37, 3) := by decide +kernel
theorem dX1_lookAtFallback_4 : decode cX1_lookAtFallback 4 = .ok (.iload_n 1, 1) := by decide +kernel
theorem dX1_lookAtFallback_5 : decode cX1_lookAtFallback 5 = .ok (.ldc 242, 2) := by decide +kernel
theorem dX1_lookAtFallback_7 : decode cX1_lookAtFallback 7 = .ok (.invokevirtual 172, 3) := by decide +kernel
theorem dX1_lookAtFallback_10 : decode cX1_lookAtFallback 10 = .ok (.istore_n 3, 1) := by decide +kernel
theorem dX1_lookAtFallback_11 : decode cX1_lookAtFallback 11 = .ok (.iload_n 3, 1) := by decide +kernel
theorem dX1_lookAtFallback_12 : decode cX1_lookAtFallback 12 = .ok (.iconst (-1), 1) := by decide +kernel
theorem dX1_lookAtFallback_13 : decode cX1_lookAtFallback 13 = .ok (.if_icmp .ne 5, 3) := by decide +kernel
theorem dX1_lookAtFallback_16 : decode cX1_lookAtFallback 16 = .ok (.iload_n 2, 1) := by decide +kernel
theorem dX1_lookAtFallback_17 : decode cX1_lookAtFallback 17 = .ok (.ireturn, 1) := by decide +kernel
theorem dX1_lookAtFallback_18 : decode cX1_lookAtFallback 18 = .ok (.aload_n 0, 1) := by decide +kernel
theorem dX1_lookAtFallback_19 : decode cX1_lookAtFallback 19 = .ok (.getfield 37, 3) := by decide +kernel
theorem dX1_lookAtFallback_22 : decode cX1_lookAtFallback 22 = .ok (.iload_n 3, 1) := by decide +kernel
theorem dX1_lookAtFallback_23 : decode cX1_lookAtFallback 23 = .ok (.invokevirtual 176, 3) := by decide +kernel
theorem dX1_lookAtFallback_26 : decode cX1_lookAtFallback 26 = .ok (.ifCond .eq 12, 3) := by decide +kernel
theorem dX1_lookAtFallback_29 : decode cX1_lookAtFallback 29 = .ok (.aload_n 0, 1) := by decide +kernel
theorem dX1_lookAtFallback_30 : decode cX1_lookAtFallback 30 = .ok (.iload_n 2, 1) := by decide +kernel
theorem dX1_lookAtFallback_31 : decode cX1_lookAtFallback 31 = .ok (.iload_n 3, 1) := by decide +kernel
theorem dX1_lookAtFallback_32 : decode cX1_lookAtFallback 32 = .ok (.invokevirtual 233, 3) := by decide +kernel
theorem dX1_lookAtFallback_35 : decode cX1_lookAtFallback 35 = .ok (.goto 4, 3) := by decide +kernel
theorem dX1_lookAtFallback_38 : decode cX1_lookAtFallback 38 = .ok (.iconst (-1), 1) := by decide +kernel
theorem dX1_lookAtFallback_39 : decode cX1_lookAtFallback 39 = .ok (.istore 4, 2) := by decide +kernel
theorem dX1_lookAtFallback_41 : decode cX1_lookAtFallback 41 = .ok (.iload 4, 2) := by decide +kernel
theorem dX1_lookAtFallback_43 : decode cX1_lookAtFallback 43 = .ok (.iconst (-1), 1) := by decide +kernel
theorem dX1_lookAtFallback_44 : decode cX1_lookAtFallback 44 = .ok (.if_icmp .ne 11, 3) := by decide +kernel
theorem dX1_lookAtFallback_47 : decode cX1_lookAtFallback 47 = .ok (.aload_n 0, 1) := by decide +kernel
theorem dX1_lookAtFallback_48 : decode cX1_lookAtFallback 48 = .ok (.bipush 12, 2) := by decide +kernel
theorem dX1_lookAtFallback_50 : decode cX1_lookAtFallback 50 = .ok (.iload_n 3, 1) := by decide +kernel
theorem dX1_lookAtFallback_51 : decode cX1_lookAtFallback 51 = .ok (.invokevirtual 81, 3) := by decide +kernel
theorem dX1_lookAtFallback_54 : decode cX1_lookAtFallback 54 = .ok (.ireturn, 1) := by decide +kernel
theorem dX1_lookAtFallback_55 : decode cX1_lookAtFallback 55 = .ok (.aload_n 0, 1) := by decide +kernel
theorem dX1_lookAtFallback_56 : decode cX1_lookAtFallback 56 = .ok (.getfield 33, 3) := by decide +kernel
theorem dX1_lookAtFallback_59 : decode cX1_lookAtFallback 59 = .ok (.iload_n 2, 1) := by decide +kernel
theorem dX1_lookAtFallback_60 : decode cX1_lookAtFallback 60 = .ok (.iload 4, 2) := by decide +kernel
theorem dX1_lookAtFallback_62 : decode cX1_lookAtFallback 62 = .ok (.invokevirtual 200, 3) := by decide +kernel
theorem dX1_lookAtFallback_65 : decode cX1_lookAtFallback 65 = .ok (.iload_n 2, 1) := by decide +kernel
theorem dX1_lookAtFallback_66 : decode cX1_lookAtFallback 66 = .ok (.ireturn, 1) := by decide +kernel
theorem dX1_partSaid_0 : decode cX1_partSaid 0 = .ok (.aload_n 0, 1) := by decide +kernel
theorem dX1_partSaid_1 : decode cX1_partSaid 1 = .ok (.getfield 33, 3) := by decide +kernel
theorem dX1_partSaid_4 : decode cX1_partSaid 4 = .ok (.iload_n 1, 1) := by decide +kernel
theorem dX1_partSaid_5 : decode cX1_partSaid 5 = .ok (.aload_n 0, 1) := by decide +kernel
theorem dX1_partSaid_6 : decode cX1_partSaid 6 = .ok (.getfield 37, 3) := by decide +kernel
theorem dX1_partSaid_9 : decode cX1_partSaid 9 = .ok (.invokevirtual 129, 3) := by decide +kernel
theorem dX1_partSaid_12 : decode cX1_partSaid 12 = .ok (.aload_n 0, 1) := by decide +kernel
theorem dX1_partSaid_13 : decode cX1_partSaid 13 = .ok (.getfield 37, 3) := by decide +kernel
theorem dX1_partSaid_16 : decode cX1_partSaid 16 = .ok (.iload_n 2, 1) := by decide +kernel
theorem dX1_partSaid_17 : decode cX1_partSaid 17 = .ok (.invokevirtual 133, 3) := by decide +kernel
theorem dX1_partSaid_20 : decode cX1_partSaid 20 = .ok (.invokevirtual 244, 3) := by decide +kernel
theorem dX1_partSaid_23 : decode cX1_partSaid 23 = .ok (.ireturn, 1) := by decide +kernel
theorem dX1_lookAtRecord_0 : decode cX1_lookAtRecord 0 = .ok (.aload_n 0, 1) := by decide +kernel
theorem dX1_lookAtRecord_1 : decode cX1_lookAtRecord 1 = .ok (.iload_n 1, 1) := by decide +kernel
theorem dX1_lookAtRecord_2 : decode cX1_lookAtRecord 2 = .ok (.bipush 11, 2) := by decide +kernel
theorem dX1_lookAtRecord_4 : decode cX1_lookAtRecord 4 = .ok (.invokevirtual 217, 3) := by decide +kernel
theorem dX1_lookAtRecord_7 : decode cX1_lookAtRecord 7 = .ok (.istore_n 3, 1) := by decide +kernel
theorem dX1_lookAtRecord_8 : decode cX1_lookAtRecord 8 = .ok (.aload_n 0, 1) := by decide +kernel
theorem dX1_lookAtRecord_9 : decode cX1_lookAtRecord 9 = .ok (.getfield 51, 3) := by decide +kernel
theorem dX1_lookAtRecord_12 : decode cX1_lookAtRecord 12 = .ok (.ifCond .eq 5, 3) := by decide +kernel
theorem dX1_lookAtRecord_15 : decode cX1_lookAtRecord 15 = .ok (.iload_n 3, 1) := by decide +kernel
theorem dX1_lookAtRecord_16 : decode cX1_lookAtRecord 16 = .ok (.ireturn, 1) := by decide +kernel
theorem dX1_lookAtRecord_17 : decode cX1_lookAtRecord 17 = .ok (.aload_n 0, 1) := by decide +kernel
theorem dX1_lookAtRecord_18 : decode cX1_lookAtRecord 18 = .ok (.getfield 37, 3) := by decide +kernel
theorem dX1_lookAtRecord_21 : decode cX1_lookAtRecord 21 = .ok (.iload_n 1, 1) := by decide +kernel
theorem dX1_lookAtRecord_22 : decode cX1_lookAtRecord 22 = .ok (.ldc 248, 2) := by decide +kernel
theorem dX1_lookAtRecord_24 : decode cX1_lookAtRecord 24 = .ok (.invokevirtual 172, 3) := by decide +kernel
theorem dX1_lookAtRecord_27 : decode cX1_lookAtRecord 27 = .ok (.istore 4, 2) := by decide +kernel
theorem dX1_lookAtRecord_29 : decode cX1_lookAtRecord 29 = .ok (.iload 4, 2) := by decide +kernel
theorem dX1_lookAtRecord_31 : decode cX1_lookAtRecord 31 = .ok (.iconst (-1), 1) := by decide +kernel
theorem dX1_lookAtRecord_32 : decode cX1_lookAtRecord 32 = .ok (.if_icmp .ne 11, 3) := by decide +kernel
theorem dX1_lookAtRecord_35 : decode cX1_lookAtRecord 35 = .ok (.aload_n 0, 1) := by decide +kernel
theorem dX1_lookAtRecord_36 : decode cX1_lookAtRecord 36 = .ok (.bipush 8, 2) := by decide +kernel
theorem dX1_lookAtRecord_38 : decode cX1_lookAtRecord 38 = .ok (.iload_n 1, 1) := by decide +kernel
theorem dX1_lookAtRecord_39 : decode cX1_lookAtRecord 39 = .ok (.invokevirtual 81, 3) := by decide +kernel
theorem dX1_lookAtRecord_42 : decode cX1_lookAtRecord 42 = .ok (.ireturn, 1) := by decide +kernel
theorem dX1_lookAtRecord_43 : decode cX1_lookAtRecord 43 = .ok (.aload_n 0, 1) := by decide +kernel
theorem dX1_lookAtRecord_44 : decode cX1_lookAtRecord 44 = .ok (.getfield 37, 3) := by decide +kernel
theorem dX1_lookAtRecord_47 : decode cX1_lookAtRecord 47 = .ok (.iload 4, 2) := by decide +kernel
theorem dX1_lookAtRecord_49 : decode cX1_lookAtRecord 49 = .ok (.invokevirtual 140, 3) := by decide +kernel
theorem dX1_lookAtRecord_52 : decode cX1_lookAtRecord 52 = .ok (.istore 5, 2) := by decide +kernel
theorem dX1_lookAtRecord_54 : decode cX1_lookAtRecord 54 = .ok (.aload_n 0, 1) := by decide +kernel
theorem dX1_lookAtRecord_55 : decode cX1_lookAtRecord 55 = .ok (.getfield 37, 3) := by decide +kernel
theorem dX1_lookAtRecord_58 : decode cX1_lookAtRecord 58 = .ok (.iload 4, 2) := by decide +kernel
theorem dX1_lookAtRecord_60 : decode cX1_lookAtRecord 60 = .ok (.invokevirtual 85, 3) := by decide +kernel
theorem dX1_lookAtRecord_63 : decode cX1_lookAtRecord 63 = .ok (.iconst 2, 1) := by decide +kernel
theorem dX1_lookAtRecord_64 : decode cX1_lookAtRecord 64 = .ok (.if_icmp .ne 10, 3) := by decide +kernel
theorem dX1_lookAtRecord_67 : decode cX1_lookAtRecord 67 = .ok (.iload 5, 2) := by decide +kernel
theorem dX1_lookAtRecord_69 : decode cX1_lookAtRecord 69 = .ok (.bipush 32, 2) := by decide +kernel
theorem dX1_lookAtRecord_71 : decode cX1_lookAtRecord 71 = .ok (.if_icmp .le 12, 3) := by decide +kernel
theorem dX1_lookAtRecord_74 : decode cX1_lookAtRecord 74 = .ok (.aload_n 0, 1) := by decide +kernel
theorem dX1_lookAtRecord_75 : decode cX1_lookAtRecord 75 = .ok (.bipush 11, 2) := by decide +kernel
theorem dX1_lookAtRecord_77 : decode cX1_lookAtRecord 77 = .ok (.iload 4, 2) := by decide +kernel
theorem dX1_lookAtRecord_79 : decode cX1_lookAtRecord 79 = .ok (.invokevirtual 81, 3) := by decide +kernel
theorem dX1_lookAtRecord_82 : decode cX1_lookAtRecord 82 = .ok (.ireturn, 1) := by decide +kernel
theorem dX1_lookAtRecord_83 : decode cX1_lookAtRecord 83 = .ok (.aload_n 0, 1) := by decide +kernel
theorem dX1_lookAtRecord_84 : decode cX1_lookAtRecord 84 = .ok (.getfield 33, 3) := by decide +kernel
theorem dX1_lookAtRecord_87 : decode cX1_lookAtRecord 87 = .ok (.iload_n 3, 1) := by decide +kernel
theorem dX1_lookAtRecord_88 : decode cX1_lookAtRecord 88 = .ok (.iload 5, 2) := by decide +kernel
theorem dX1_lookAtRecord_90 : decode cX1_lookAtRecord 90 = .ok (.invokevirtual 146, 3) := by decide +kernel
theorem dX1_lookAtRecord_93 : decode cX1_lookAtRecord 93 = .ok (.aload_n 0, 1) := by decide +kernel
theorem dX1_lookAtRecord_94 : decode cX1_lookAtRecord 94 = .ok (.getfield 37, 3) := by decide +kernel
theorem dX1_lookAtRecord_97 : decode cX1_lookAtRecord 97 = .ok (.iload 4, 2) := by decide +kernel
theorem dX1_lookAtRecord_99 : decode cX1_lookAtRecord 99 = .ok (.invokevirtual 150, 3) := by decide +kernel
theorem dX1_lookAtRecord_102 : decode cX1_lookAtRecord 102 = .ok (.istore 6, 2) := by decide +kernel
theorem dX1_lookAtRecord_104 : decode cX1_lookAtRecord 104 = .ok (.iconst 0, 1) := by decide +kernel
theorem dX1_lookAtRecord_105 : decode cX1_lookAtRecord 105 = .ok (.istore 7, 2) := by decide +kernel
theorem dX1_lookAtRecord_107 : decode cX1_lookAtRecord 107 = .ok (.iload 7, 2) := by decide +kernel
theorem dX1_lookAtRecord_109 : decode cX1_lookAtRecord 109 = .ok (.iload 5, 2) := by decide +kernel
theorem dX1_lookAtRecord_111 : decode cX1_lookAtRecord 111 = .ok (.if_icmp .ge 45, 3) := by decide +kernel
theorem dX1_lookAtRecord_114 : decode cX1_lookAtRecord 114 = .ok (.aload_n 0, 1) := by decide +kernel
theorem dX1_lookAtRecord_115 : decode cX1_lookAtRecord 115 = .ok (.getfield 51, 3) := by decide +kernel
theorem dX1_lookAtRecord_118 : decode cX1_lookAtRecord 118 = .ok (.ifCond .ne 38, 3) := by decide +kernel
theorem dX1_lookAtRecord_121 : decode cX1_lookAtRecord 121 = .ok (.aload_n 0, 1) := by decide +kernel
theorem dX1_lookAtRecord_122 : decode cX1_lookAtRecord 122 = .ok (.iload_n 3, 1) := by decide +kernel
theorem dX1_lookAtRecord_123 : decode cX1_lookAtRecord 123 = .ok (.aload_n 0, 1) := by decide +kernel
theorem dX1_lookAtRecord_124 : decode cX1_lookAtRecord 124 = .ok (.getfield 33, 3) := by decide +kernel
theorem dX1_lookAtRecord_127 : decode cX1_lookAtRecord 127 = .ok (.iload_n 3, 1) := by decide +kernel
theorem dX1_lookAtRecord_128 : decode cX1_lookAtRecord 128 = .ok (.iload 7, 2) := by decide +kernel
theorem dX1_lookAtRecord_130 : decode cX1_lookAtRecord 130 = .ok (.invokevirtual 157, 3) := by decide +kernel
theorem dX1_lookAtRecord_133 : decode cX1_lookAtRecord 133 = .ok (.iload 6, 2) := by decide +kernel
theorem dX1_lookAtRecord_135 : decode cX1_lookAtRecord 135 = .ok (.iload_n 2, 1) := by decide +kernel
theorem dX1_lookAtRecord_136 : decode cX1_lookAtRecord 136 = .ok (.invokevirtual 250, 3) := by decide +kernel
theorem dX1_lookAtRecord_139 : decode cX1_lookAtRecord 139 = .ok (.aload_n 0, 1) := by decide +kernel
theorem dX1_lookAtRecord_140 : decode cX1_lookAtRecord 140 = .ok (.getfield 37, 3) := by decide +kernel
theorem dX1_lookAtRecord_143 : decode cX1_lookAtRecord 143 = .ok (.iload 6, 2) := by decide +kernel
theorem dX1_lookAtRecord_145 : decode cX1_lookAtRecord 145 = .ok (.invokevirtual 163, 3) := by decide +kernel
theorem dX1_lookAtRecord_148 : decode cX1_lookAtRecord 148 = .ok (.istore 6, 2) := by decide +kernel
theorem dX1_lookAtRecord_150 : decode cX1_lookAtRecord 150 = .ok (.iinc 7 1, 3) := by decide +kernel
theorem dX1_lookAtRecord_153 : decode cX1_lookAtRecord 153 = .ok (.goto (-46), 3) := by decide +kernel
theorem dX1_lookAtRecord_156 : decode cX1_lookAtRecord 156 = .ok (.aload_n 0, 1) := by decide +kernel
theorem dX1_lookAtRecord_157 : decode cX1_lookAtRecord 157 = .ok (.getfield 33, 3) := by decide +kernel
theorem dX1_lookAtRecord_160 : decode cX1_lookAtRecord 160 = .ok (.iload_n 3, 1) := by decide +kernel
theorem dX1_lookAtRecord_161 : decode cX1_lookAtRecord 161 = .ok (.invokevirtual 254, 3) := by decide +kernel
theorem dX1_lookAtRecord_164 : decode cX1_lookAtRecord 164 = .ok (.iload_n 3, 1) := by decide +kernel
theorem dX1_lookAtRecord_165 : decode cX1_lookAtRecord 165 = .ok (.ireturn, 1) := by decide +kernel
theorem dX1_lookAtField_0 : decode cX1_lookAtField 0 = .ok (.aload_n 0, 1) := by decide +kernel
theorem dX1_lookAtField_1 : decode cX1_lookAtField 1 = .ok (.getfield 37, 3) := by decide +kernel
theorem dX1_lookAtField_4 : decode cX1_lookAtField 4 = .ok (.iload_n 3, 1) := by decide +kernel
theorem dX1_lookAtField_5 : decode cX1_lookAtField 5 = .ok (.invokevirtual 85, 3) := by decide +kernel
theorem dX1_lookAtField_8 : decode cX1_lookAtField 8 = .ok (.iconst 1, 1) := by decide +kernel
theorem dX1_lookAtField_9 : decode cX1_lookAtField 9 = .ok (.if_icmp .eq 12, 3) := by decide +kernel
theorem dX1_lookAtField_12 : decode cX1_lookAtField 12 = .ok (.aload_n 0, 1) := by decide +kernel
theorem dX1_lookAtField_13 : decode cX1_lookAtField 13 = .ok (.bipush 11, 2) := by decide +kernel
theorem dX1_lookAtField_15 : decode cX1_lookAtField 15 = .ok (.iload_n 3, 1) := by decide +kernel
theorem dX1_lookAtField_16 : decode cX1_lookAtField 16 = .ok (.invokevirtual 81, 3) := by decide +kernel
theorem dX1_lookAtField_19 : decode cX1_lookAtField 19 = .ok (.pop, 1) := by decide +kernel
theorem dX1_lookAtField_20 : decode cX1_lookAtField 20 = .ok (.return_, 1) := by decide +kernel
theorem dX1_lookAtField_21 : decode cX1_lookAtField 21 = .ok (.aload_n 0, 1) := by decide +kernel
theorem dX1_lookAtField_22 : decode cX1_lookAtField 22 = .ok (.getfield 37, 3) := by decide +kernel
theorem dX1_lookAtField_25 : decode cX1_lookAtField 25 = .ok (.iload_n 3, 1) := by decide +kernel
theorem dX1_lookAtField_26 : decode cX1_lookAtField 26 = .ok (.ldc 203, 2) := by decide +kernel
theorem dX1_lookAtField_28 : decode cX1_lookAtField 28 = .ok (.invokevirtual 172, 3) := by decide +kernel
theorem dX1_lookAtField_31 : decode cX1_lookAtField 31 = .ok (.istore 5, 2) := by decide +kernel
theorem dX1_lookAtField_33 : decode cX1_lookAtField 33 = .ok (.aload_n 0, 1) := by decide +kernel
theorem dX1_lookAtField_34 : decode cX1_lookAtField 34 = .ok (.getfield 37, 3) := by decide +kernel
theorem dX1_lookAtField_37 : decode cX1_lookAtField 37 = .ok (.iload 5, 2) := by decide +kernel
theorem dX1_lookAtField_39 : decode cX1_lookAtField 39 = .ok (.invokevirtual 176, 3) := by decide +kernel
theorem dX1_lookAtField_42 : decode cX1_lookAtField 42 = .ok (.ifCond .ne 12, 3) := by decide +kernel
theorem dX1_lookAtField_45 : decode cX1_lookAtField 45 = .ok (.aload_n 0, 1) := by decide +kernel
theorem dX1_lookAtField_46 : decode cX1_lookAtField 46 = .ok (.bipush 8, 2) := by decide +kernel
theorem dX1_lookAtField_48 : decode cX1_lookAtField 48 = .ok (.iload_n 3, 1) := by decide +kernel
theorem dX1_lookAtField_49 : decode cX1_lookAtField 49 = .ok (.invokevirtual 81, 3) := by decide +kernel
theorem dX1_lookAtField_52 : decode cX1_lookAtField 52 = .ok (.pop, 1) := by decide +kernel
theorem dX1_lookAtField_53 : decode cX1_lookAtField 53 = .ok (.return_, 1) := by decide +kernel
theorem dX1_lookAtField_54 : decode cX1_lookAtField 54 = .ok (.aload_n 0, 1) := by decide +kernel
theorem dX1_lookAtField_55 : decode cX1_lookAtField 55 = .ok (.iload 5, 2) := by decide +kernel
theorem dX1_lookAtField_57 : decode cX1_lookAtField 57 = .ok (.invokevirtual 205, 3) := by decide +kernel
theorem dX1_lookAtField_60 : decode cX1_lookAtField 60 = .ok (.ifCond .eq 14, 3) := by decide +kernel
theorem dX1_lookAtField_63 : decode cX1_lookAtField 63 = .ok (.aload_n 0, 1) := by decide +kernel
theorem dX1_lookAtField_64 : decode cX1_lookAtField 64 = .ok (.iload_n 1, 1) := by decide +kernel
theorem dX1_lookAtField_65 : decode cX1_lookAtField 65 = .ok (.iload 5, 2) := by decide +kernel
theorem dX1_lookAtField_67 : decode cX1_lookAtField 67 = .ok (.invokevirtual 233, 3) := by decide +kernel
theorem dX1_lookAtField_70 : decode cX1_lookAtField 70 = .ok (.iconst (-1), 1) := by decide +kernel
theorem dX1_lookAtField_71 : decode cX1_lookAtField 71 = .ok (.if_icmp .eq 13, 3) := by decide +kernel
theorem dX1_lookAtField_74 : decode cX1_lookAtField 74 = .ok (.aload_n 0, 1) := by decide +kernel
theorem dX1_lookAtField_75 : decode cX1_lookAtField 75 = .ok (.bipush 9, 2) := by decide +kernel
theorem dX1_lookAtField_77 : decode cX1_lookAtField 77 = .ok (.iload 5, 2) := by decide +kernel
theorem dX1_lookAtField_79 : decode cX1_lookAtField 79 = .ok (.invokevirtual 81, 3) := by decide +kernel
theorem dX1_lookAtField_82 : decode cX1_lookAtField 82 = .ok (.pop, 1) := by decide +kernel
theorem dX1_lookAtField_83 : decode cX1_lookAtField 83 = .ok (.return_, 1) := by decide +kernel
theorem dX1_lookAtField_84 : decode cX1_lookAtField 84 = .ok (.aload_n 0, 1) := by decide +kernel
theorem dX1_lookAtField_85 : decode cX1_lookAtField 85 = .ok (.getfield 33, 3) := by decide +kernel
theorem dX1_lookAtField_88 : decode cX1_lookAtField 88 = .ok (.iload_n 2, 1) := by decide +kernel
theorem dX1_lookAtField_89 : decode cX1_lookAtField 89 = .ok (.aload_n 0, 1) := by decide +kernel
theorem dX1_lookAtField_90 : decode cX1_lookAtField 90 = .ok (.getfield 33, 3) := by decide +kernel
theorem dX1_lookAtField_93 : decode cX1_lookAtField 93 = .ok (.aload_n 0, 1) := by decide +kernel
theorem dX1_lookAtField_94 : decode cX1_lookAtField 94 = .ok (.getfield 37, 3) := by decide +kernel
theorem dX1_lookAtField_97 : decode cX1_lookAtField 97 = .ok (.invokevirtual 129, 3) := by decide +kernel
theorem dX1_lookAtField_100 : decode cX1_lookAtField 100 = .ok (.aload_n 0, 1) := by decide +kernel
theorem dX1_lookAtField_101 : decode cX1_lookAtField 101 = .ok (.getfield 37, 3) := by decide +kernel
theorem dX1_lookAtField_104 : decode cX1_lookAtField 104 = .ok (.iload 5, 2) := by decide +kernel
theorem dX1_lookAtField_106 : decode cX1_lookAtField 106 = .ok (.invokevirtual 133, 3) := by decide +kernel
theorem dX1_lookAtField_109 : decode cX1_lookAtField 109 = .ok (.invokevirtual 208, 3) := by decide +kernel
theorem dX1_lookAtField_112 : decode cX1_lookAtField 112 = .ok (.invokevirtual 236, 3) := by decide +kernel
theorem dX1_lookAtField_115 : decode cX1_lookAtField 115 = .ok (.aload_n 0, 1) := by decide +kernel
theorem dX1_lookAtField_116 : decode cX1_lookAtField 116 = .ok (.getfield 37, 3) := by decide +kernel
theorem dX1_lookAtField_119 : decode cX1_lookAtField 119 = .ok (.iload_n 3, 1) := by decide +kernel
theorem dX1_lookAtField_120 : decode cX1_lookAtField 120 = .ok (.ldc 170, 2) := by decide +kernel
theorem dX1_lookAtField_122 : decode cX1_lookAtField 122 = .ok (.invokevirtual 172, 3) := by decide +kernel
theorem dX1_lookAtField_125 : decode cX1_lookAtField 125 = .ok (.istore 6, 2) := by decide +kernel
theorem dX1_lookAtField_127 : decode cX1_lookAtField 127 = .ok (.iload 6, 2) := by decide +kernel
theorem dX1_lookAtField_129 : decode cX1_lookAtField 129 = .ok (.iconst (-1), 1) := by decide +kernel
theorem dX1_lookAtField_130 : decode cX1_lookAtField 130 = .ok (.if_icmp .ne 12, 3) := by decide +kernel
theorem dX1_lookAtField_133 : decode cX1_lookAtField 133 = .ok (.aload_n 0, 1) := by decide +kernel
theorem dX1_lookAtField_134 : decode cX1_lookAtField 134 = .ok (.bipush 8, 2) := by decide +kernel
theorem dX1_lookAtField_136 : decode cX1_lookAtField 136 = .ok (.iload_n 3, 1) := by decide +kernel
theorem dX1_lookAtField_137 : decode cX1_lookAtField 137 = .ok (.invokevirtual 81, 3) := by decide +kernel
theorem dX1_lookAtField_140 : decode cX1_lookAtField 140 = .ok (.pop, 1) := by decide +kernel
theorem dX1_lookAtField_141 : decode cX1_lookAtField 141 = .ok (.return_, 1) := by decide +kernel
theorem dX1_lookAtField_142 : decode cX1_lookAtField 142 = .ok (.aload_n 0, 1) := by decide +kernel
theorem dX1_lookAtField_143 : decode cX1_lookAtField 143 = .ok (.getfield 33, 3) := by decide +kernel
theorem dX1_lookAtField_146 : decode cX1_lookAtField 146 = .ok (.iload_n 2, 1) := by decide +kernel
theorem dX1_lookAtField_147 : decode cX1_lookAtField 147 = .ok (.aload_n 0, 1) := by decide +kernel
theorem dX1_lookAtField_148 : decode cX1_lookAtField 148 = .ok (.iload 6, 2) := by decide +kernel
theorem dX1_lookAtField_150 : decode cX1_lookAtField 150 = .ok (.iload 4, 2) := by decide +kernel
theorem dX1_lookAtField_152 : decode cX1_lookAtField 152 = .ok (.iconst 1, 1) := by decide +kernel
theorem dX1_lookAtField_153 : decode cX1_lookAtField 153 = .ok (.iadd, 1) := by decide +kernel
theorem dX1_lookAtField_154 : decode cX1_lookAtField 154 = .ok (.iconst 0, 1) := by decide +kernel
theorem dX1_lookAtField_155 : decode cX1_lookAtField 155 = .ok (.invokevirtual 57, 3) := by decide +kernel
theorem dX1_lookAtField_158 : decode cX1_lookAtField 158 = .ok (.invokevirtual 160, 3) := by decide +kernel
theorem dX1_lookAtField_161 : decode cX1_lookAtField 161 = .ok (.aload_n 0, 1) := by decide +kernel
theorem dX1_lookAtField_162 : decode cX1_lookAtField 162 = .ok (.getfield 37, 3) := by decide +kernel
theorem dX1_lookAtField_165 : decode cX1_lookAtField 165 = .ok (.iload_n 3, 1) := by decide +kernel
theorem dX1_lookAtField_166 : decode cX1_lookAtField 166 = .ok (.ldc 242, 2) := by decide +kernel
theorem dX1_lookAtField_168 : decode cX1_lookAtField 168 = .ok (.invokevirtual 172, 3) := by decide +kernel
theorem dX1_lookAtField_171 : decode cX1_lookAtField 171 = .ok (.istore 7, 2) := by decide +kernel
theorem dX1_lookAtField_173 : decode cX1_lookAtField 173 = .ok (.iload 7, 2) := by decide +kernel
theorem dX1_lookAtField_175 : decode cX1_lookAtField 175 = .ok (.iconst (-1), 1) := by decide +kernel
theorem dX1_lookAtField_176 : decode cX1_lookAtField 176 = .ok (.if_icmp .eq 22, 3) := by decide +kernel
theorem dX1_lookAtField_179 : decode cX1_lookAtField 179 = .ok (.aload_n 0, 1) := by decide +kernel
theorem dX1_lookAtField_180 : decode cX1_lookAtField 180 = .ok (.getfield 23, 3) := by decide +kernel
theorem dX1_lookAtField_183 : decode cX1_lookAtField 183 = .ok (.iload_n 2, 1) := by decide +kernel
theorem dX1_lookAtField_184 : decode cX1_lookAtField 184 = .ok (.invokevirtual 257, 3) := by decide +kernel
theorem dX1_lookAtField_187 : decode cX1_lookAtField 187 = .ok (.pop, 1) := by decide +kernel
theorem dX1_lookAtField_188 : decode cX1_lookAtField 188 = .ok (.aload_n 0, 1) := by decide +kernel
theorem dX1_lookAtField_189 : decode cX1_lookAtField 189 = .ok (.getfield 27, 3) := by decide +kernel
theorem dX1_lookAtField_192 : decode cX1_lookAtField 192 = .ok (.iload 7, 2) := by decide +kernel
theorem dX1_lookAtField_194 : decode cX1_lookAtField 194 = .ok (.invokevirtual 257, 3) := by decide +kernel
theorem dX1_lookAtField_197 : decode cX1_lookAtField 197 = .ok (.pop, 1) := by decide +kernel
theorem dX1_lookAtField_198 : decode cX1_lookAtField 198 = .ok (.return_, 1) := by decide +kernel
theorem dX2_init_0 : decode cX2_init 0 = .ok (.aload_n 0, 1) := by decide +kernel
theorem dX2_init_1 : decode cX2_init 1 = .ok (.invokespecial 3, 3) := by decide +kernel
theorem dX2_init_4 : decode cX2_init 4 = .ok (.return_, 1) := by decide +kernel
theorem dX2_fill_0 : decode cX2_fill 0 = .ok (.aload_n 0, 1) := by decide +kernel
theorem dX2_fill_1 : decode cX2_fill 1 = .ok (.iconst (-1), 1) := by decide +kernel
theorem dX2_fill_2 : decode cX2_fill 2 = .ok (.putfield 9, 3) := by decide +kernel
theorem dX2_fill_5 : decode cX2_fill 5 = .ok (.aload_n 1, 1) := by decide +kernel
theorem dX2_fill_6 : decode cX2_fill 6 = .ok (.ifnull 7, 3) := by decide +kernel
theorem dX2_fill_9 : decode cX2_fill 9 = .ok (.aload_n 3, 1) := by decide +kernel
theorem dX2_fill_10 : decode cX2_fill 10 = .ok (.ifnonnull 8, 3) := by decide +kernel
theorem dX2_fill_13 : decode cX2_fill 13 = .ok (.aload_n 0, 1) := by decide +kernel
theorem dX2_fill_14 : decode cX2_fill 14 = .ok (.getfield 9, 3) := by decide +kernel
theorem dX2_fill_17 : decode cX2_fill 17 = .ok (.ireturn, 1) := by decide +kernel
theorem dX2_fill_18 : decode cX2_fill 18 = .ok (.aload_n 0, 1) := by decide +kernel
theorem dX2_fill_19 : decode cX2_fill 19 = .ok (.aload_n 1, 1) := by decide +kernel
theorem dX2_fill_20 : decode cX2_fill 20 = .ok (.putfield 15, 3) := by decide +kernel
theorem dX2_fill_23 : decode cX2_fill 23 = .ok (.aload_n 0, 1) := by decide +kernel
theorem dX2_fill_24 : decode cX2_fill 24 = .ok (.aload_n 3, 1) := by decide +kernel
theorem dX2_fill_25 : decode cX2_fill 25 = .ok (.putfield 19, 3) := by decide +kernel
theorem dX2_fill_28 : decode cX2_fill 28 = .ok (.aload_n 0, 1) := by decide +kernel
theorem dX2_fill_29 : decode cX2_fill 29 = .ok (.getfield 19, 3) := by decide +kernel
theorem dX2_fill_32 : decode cX2_fill 32 = .ok (.invokevirtual 23, 3) := by decide +kernel
theorem dX2_fill_35 : decode cX2_fill 35 = .ok (.invokevirtual 29, 3) := by decide +kernel
theorem dX2_fill_38 : decode cX2_fill 38 = .ok (.istore 5, 2) := by decide +kernel
theorem dX2_fill_40 : decode cX2_fill 40 = .ok (.aload_n 0, 1) := by decide +kernel
theorem dX2_fill_41 : decode cX2_fill 41 = .ok (.iload_n 2, 1) := by decide +kernel
theorem dX2_fill_42 : decode cX2_fill 42 = .ok (.aload_n 0, 1) := by decide +kernel
theorem dX2_fill_43 : decode cX2_fill 43 = .ok (.getfield 19, 3) := by decide +kernel
theorem dX2_fill_46 : decode cX2_fill 46 = .ok (.iload 4, 2) := by decide +kernel
theorem dX2_fill_48 : decode cX2_fill 48 = .ok (.invokevirtual 35, 3) := by decide +kernel
theorem dX2_fill_51 : decode cX2_fill 51 = .ok (.iconst 0, 1) := by decide +kernel
theorem dX2_fill_52 : decode cX2_fill 52 = .ok (.invokevirtual 39, 3) := by decide +kernel
theorem dX2_fill_55 : decode cX2_fill 55 = .ok (.aload_n 0, 1) := by decide +kernel
theorem dX2_fill_56 : decode cX2_fill 56 = .ok (.getfield 19, 3) := by decide +kernel
theorem dX2_fill_59 : decode cX2_fill 59 = .ok (.iload 4, 2) := by decide +kernel
theorem dX2_fill_61 : decode cX2_fill 61 = .ok (.iload 5, 2) := by decide +kernel
theorem dX2_fill_63 : decode cX2_fill 63 = .ok (.aload_n 0, 1) := by decide +kernel
theorem dX2_fill_64 : decode cX2_fill 64 = .ok (.getfield 19, 3) := by decide +kernel
theorem dX2_fill_67 : decode cX2_fill 67 = .ok (.invokevirtual 23, 3) := by decide +kernel
theorem dX2_fill_70 : decode cX2_fill 70 = .ok (.invokevirtual 29, 3) := by decide +kernel
theorem dX2_fill_73 : decode cX2_fill 73 = .ok (.invokevirtual 43, 3) := by decide +kernel
theorem dX2_fill_76 : decode cX2_fill 76 = .ok (.aload_n 0, 1) := by decide +kernel
theorem dX2_fill_77 : decode cX2_fill 77 = .ok (.getfield 9, 3) := by decide +kernel
theorem dX2_fill_80 : decode cX2_fill 80 = .ok (.ireturn, 1) := by decide +kernel
theorem dX2_misfit_0 : decode cX2_misfit 0 = .ok (.aload_n 0, 1) := by decide +kernel
theorem dX2_misfit_1 : decode cX2_misfit 1 = .ok (.getfield 9, 3) := by decide +kernel
theorem dX2_misfit_4 : decode cX2_misfit 4 = .ok (.iconst (-1), 1) := by decide +kernel
theorem dX2_misfit_5 : decode cX2_misfit 5 = .ok (.if_icmp .ne 15, 3) := by decide +kernel
theorem dX2_misfit_8 : decode cX2_misfit 8 = .ok (.aload_n 0, 1) := by decide +kernel
theorem dX2_misfit_9 : decode cX2_misfit 9 = .ok (.aload_n 0, 1) := by decide +kernel
theorem dX2_misfit_10 : decode cX2_misfit 10 = .ok (.getfield 15, 3) := by decide +kernel
theorem dX2_misfit_13 : decode cX2_misfit 13 = .ok (.iload_n 1, 1) := by decide +kernel
theorem dX2_misfit_14 : decode cX2_misfit 14 = .ok (.invokevirtual 46, 3) := by decide +kernel
theorem dX2_misfit_17 : decode cX2_misfit 17 = .ok (.putfield 9, 3) := by decide +kernel
theorem dX2_misfit_20 : decode cX2_misfit 20 = .ok (.return_, 1) := by decide +kernel
theorem dX2_put_0 : decode cX2_put 0 = .ok (.iload_n 2, 1) := by decide +kernel
theorem dX2_put_1 : decode cX2_put 1 = .ok (.istore 4, 2) := by decide +kernel
theorem dX2_put_3 : decode cX2_put 3 = .ok (.aload_n 0, 1) := by decide +kernel
theorem dX2_put_4 : decode cX2_put 4 = .ok (.getfield 19, 3) := by decide +kernel
theorem dX2_put_7 : decode cX2_put 7 = .ok (.iload 4, 2) := by decide +kernel
theorem dX2_put_9 : decode cX2_put 9 = .ok (.invokevirtual 51, 3) := by decide +kernel
theorem dX2_put_12 : decode cX2_put 12 = .ok (.bipush 8, 2) := by decide +kernel
theorem dX2_put_14 : decode cX2_put 14 = .ok (.if_icmp .ne 27, 3) := by decide +kernel
theorem dX2_put_17 : decode cX2_put 17 = .ok (.aload_n 0, 1) := by decide +kernel
theorem dX2_put_18 : decode cX2_put 18 = .ok (.getfield 19, 3) := by decide +kernel
theorem dX2_put_21 : decode cX2_put 21 = .ok (.invokevirtual 23, 3) := by decide +kernel
theorem dX2_put_24 : decode cX2_put 24 = .ok (.lconst 0, 1) := by decide +kernel
theorem dX2_put_25 : decode cX2_put 25 = .ok (.invokevirtual 54, 3) := by decide +kernel
theorem dX2_put_28 : decode cX2_put 28 = .ok (.pop, 1) := by decide +kernel
theorem dX2_put_29 : decode cX2_put 29 = .ok (.aload_n 0, 1) := by decide +kernel
theorem dX2_put_30 : decode cX2_put 30 = .ok (.getfield 19, 3) := by decide +kernel
theorem dX2_put_33 : decode cX2_put 33 = .ok (.iload 4, 2) := by decide +kernel
theorem dX2_put_35 : decode cX2_put 35 = .ok (.iconst 0, 1) := by decide +kernel
theorem dX2_put_36 : decode cX2_put 36 = .ok (.invokevirtual 58, 3) := by decide +kernel
theorem dX2_put_39 : decode cX2_put 39 = .ok (.istore 4, 2) := by decide +kernel
theorem dX2_put_41 : decode cX2_put 41 = .ok (.aload_n 0, 1) := by decide +kernel
theorem dX2_put_42 : decode cX2_put 42 = .ok (.getfield 19, 3) := by decide +kernel
theorem dX2_put_45 : decode cX2_put 45 = .ok (.iload 4, 2) := by decide +kernel
theorem dX2_put_47 : decode cX2_put 47 = .ok (.invokevirtual 51, 3) := by decide +kernel
theorem dX2_put_50 : decode cX2_put 50 = .ok (.istore 5, 2) := by decide +kernel
theorem dX2_put_52 : decode cX2_put 52 = .ok (.iload_n 3, 1) := by decide +kernel
theorem dX2_put_53 : decode cX2_put 53 = .ok (.bipush 24, 2) := by decide +kernel
theorem dX2_put_55 : decode cX2_put 55 = .ok (.if_icmp .le 11, 3) := by decide +kernel
theorem dX2_put_58 : decode cX2_put 58 = .ok (.aload_n 0, 1) := by decide +kernel
theorem dX2_put_59 : decode cX2_put 59 = .ok (.iload_n 1, 1) := by decide +kernel
theorem dX2_put_60 : decode cX2_put 60 = .ok (.invokevirtual 62, 3) := by decide +kernel
theorem dX2_put_63 : decode cX2_put 63 = .ok (.goto 84, 3) := by decide +kernel
theorem dX2_put_66 : decode cX2_put 66 = .ok (.iload 5, 2) := by decide +kernel
theorem dX2_put_68 : decode cX2_put 68 = .ok (.bipush 6, 2) := by decide +kernel
theorem dX2_put_70 : decode cX2_put 70 = .ok (.if_icmp .ne 15, 3) := by decide +kernel
theorem dX2_put_73 : decode cX2_put 73 = .ok (.aload_n 0, 1) := by decide +kernel
theorem dX2_put_74 : decode cX2_put 74 = .ok (.iload_n 1, 1) := by decide +kernel
theorem dX2_put_75 : decode cX2_put 75 = .ok (.iload 4, 2) := by decide +kernel
theorem dX2_put_77 : decode cX2_put 77 = .ok (.iconst 2, 1) := by decide +kernel
theorem dX2_put_78 : decode cX2_put 78 = .ok (.iload_n 3, 1) := by decide +kernel
theorem dX2_put_79 : decode cX2_put 79 = .ok (.invokevirtual 66, 3) := by decide +kernel
theorem dX2_put_82 : decode cX2_put 82 = .ok (.goto 65, 3) := by decide +kernel
theorem dX2_put_85 : decode cX2_put 85 = .ok (.iload 5, 2) := by decide +kernel
theorem dX2_put_87 : decode cX2_put 87 = .ok (.bipush 7, 2) := by decide +kernel
theorem dX2_put_89 : decode cX2_put 89 = .ok (.if_icmp .ne 15, 3) := by decide +kernel
theorem dX2_put_92 : decode cX2_put 92 = .ok (.aload_n 0, 1) := by decide +kernel
theorem dX2_put_93 : decode cX2_put 93 = .ok (.iload_n 1, 1) := by decide +kernel
theorem dX2_put_94 : decode cX2_put 94 = .ok (.iload 4, 2) := by decide +kernel
theorem dX2_put_96 : decode cX2_put 96 = .ok (.iconst 1, 1) := by decide +kernel
theorem dX2_put_97 : decode cX2_put 97 = .ok (.iload_n 3, 1) := by decide +kernel
theorem dX2_put_98 : decode cX2_put 98 = .ok (.invokevirtual 66, 3) := by decide +kernel
theorem dX2_put_101 : decode cX2_put 101 = .ok (.goto 46, 3) := by decide +kernel
theorem dX2_put_104 : decode cX2_put 104 = .ok (.iload 5, 2) := by decide +kernel
theorem dX2_put_106 : decode cX2_put 106 = .ok (.bipush 11, 2) := by decide +kernel
theorem dX2_put_108 : decode cX2_put 108 = .ok (.if_icmp .ne 14, 3) := by decide +kernel
theorem dX2_put_111 : decode cX2_put 111 = .ok (.aload_n 0, 1) := by decide +kernel
theorem dX2_put_112 : decode cX2_put 112 = .ok (.iload_n 1, 1) := by decide +kernel
theorem dX2_put_113 : decode cX2_put 113 = .ok (.iload 4, 2) := by decide +kernel
theorem dX2_put_115 : decode cX2_put 115 = .ok (.iload_n 3, 1) := by decide +kernel
theorem dX2_put_116 : decode cX2_put 116 = .ok (.invokevirtual 70, 3) := by decide +kernel
theorem dX2_put_119 : decode cX2_put 119 = .ok (.goto 28, 3) := by decide +kernel
theorem dX2_put_122 : decode cX2_put 122 = .ok (.aload_n 0, 1) := by decide +kernel
theorem dX2_put_123 : decode cX2_put 123 = .ok (.iload_n 1, 1) := by decide +kernel
theorem dX2_put_124 : decode cX2_put 124 = .ok (.iload 4, 2) := by decide +kernel
theorem dX2_put_126 : decode cX2_put 126 = .ok (.invokevirtual 73, 3) := by decide +kernel
theorem dX2_put_129 : decode cX2_put 129 = .ok (.ifCond .eq 13, 3) := by decide +kernel
theorem dX2_put_132 : decode cX2_put 132 = .ok (.aload_n 0, 1) := by decide +kernel
theorem dX2_put_133 : decode cX2_put 133 = .ok (.iload_n 1, 1) := by decide +kernel
theorem dX2_put_134 : decode cX2_put 134 = .ok (.iload 4, 2) := by decide +kernel
theorem dX2_put_136 : decode cX2_put 136 = .ok (.invokevirtual 77, 3) := by decide +kernel
theorem dX2_put_139 : decode cX2_put 139 = .ok (.goto 8, 3) := by decide +kernel
theorem dX2_put_142 : decode cX2_put 142 = .ok (.aload_n 0, 1) := by decide +kernel
theorem dX2_put_143 : decode cX2_put 143 = .ok (.iload_n 1, 1) := by decide +kernel
theorem dX2_put_144 : decode cX2_put 144 = .ok (.invokevirtual 62, 3) := by decide +kernel
theorem dX2_put_147 : decode cX2_put 147 = .ok (.return_, 1) := by decide +kernel
theorem dX2_putItems_0 : decode cX2_putItems 0 = .ok (.aload_n 0, 1) := by decide +kernel
theorem dX2_putItems_1 : decode cX2_putItems 1 = .ok (.getfield 15, 3) := by decide +kernel
theorem dX2_putItems_4 : decode cX2_putItems 4 = .ok (.iload_n 1, 1) := by decide +kernel
theorem dX2_putItems_5 : decode cX2_putItems 5 = .ok (.invokevirtual 81, 3) := by decide +kernel
theorem dX2_putItems_8 : decode cX2_putItems 8 = .ok (.iload_n 3, 1) := by decide +kernel
theorem dX2_putItems_9 : decode cX2_putItems 9 = .ok (.if_icmp .eq 9, 3) := by decide +kernel
theorem dX2_putItems_12 : decode cX2_putItems 12 = .ok (.aload_n 0, 1) := by decide +kernel
theorem dX2_putItems_13 : decode cX2_putItems 13 = .ok (.iload_n 1, 1) := by decide +kernel
theorem dX2_putItems_14 : decode cX2_putItems 14 = .ok (.invokevirtual 62, 3) := by decide +kernel
theorem dX2_putItems_17 : decode cX2_putItems 17 = .ok (.return_, 1) := by decide +kernel
theorem dX2_putItems_18 : decode cX2_putItems 18 = .ok (.aload_n 0, 1) := by decide +kernel
theorem dX2_putItems_19 : decode cX2_putItems 19 = .ok (.getfield 15, 3) := by decide +kernel
theorem dX2_putItems_22 : decode cX2_putItems 22 = .ok (.iload_n 1, 1) := by decide +kernel
theorem dX2_putItems_23 : decode cX2_putItems 23 = .ok (.invokevirtual 82, 3) := by decide +kernel
theorem dX2_putItems_26 : decode cX2_putItems 26 = .ok (.istore 5, 2) := by decide +kernel
theorem dX2_putItems_28 : decode cX2_putItems 28 = .ok (.iload 5, 2) := by decide +kernel
theorem dX2_putItems_30 : decode cX2_putItems 30 = .ok (.ifCond .le 17, 3) := by decide +kernel
theorem dX2_putItems_33 : decode cX2_putItems 33 = .ok (.aload_n 0, 1) := by decide +kernel
theorem dX2_putItems_34 : decode cX2_putItems 34 = .ok (.getfield 19, 3) := by decide +kernel
theorem dX2_putItems_37 : decode cX2_putItems 37 = .ok (.invokevirtual 23, 3) := by decide +kernel
theorem dX2_putItems_40 : decode cX2_putItems 40 = .ok (.iload 5, 2) := by decide +kernel
theorem dX2_putItems_42 : decode cX2_putItems 42 = .ok (.i2l, 1) := by decide +kernel
theorem dX2_putItems_43 : decode cX2_putItems 43 = .ok (.invokevirtual 54, 3) := by decide +kernel
theorem dX2_putItems_46 : decode cX2_putItems 46 = .ok (.pop, 1) := by decide +kernel
theorem dX2_putItems_47 : decode cX2_putItems 47 = .ok (.aload_n 0, 1) := by decide +kernel
theorem dX2_putItems_48 : decode cX2_putItems 48 = .ok (.getfield 15, 3) := by decide +kernel
theorem dX2_putItems_51 : decode cX2_putItems 51 = .ok (.iload_n 1, 1) := by decide +kernel
theorem dX2_putItems_52 : decode cX2_putItems 52 = .ok (.invokevirtual 85, 3) := by decide +kernel
theorem dX2_putItems_55 : decode cX2_putItems 55 = .ok (.istore 6, 2) := by decide +kernel
theorem dX2_putItems_57 : decode cX2_putItems 57 = .ok (.iconst 0, 1) := by decide +kernel
theorem dX2_putItems_58 : decode cX2_putItems 58 = .ok (.istore 7, 2) := by decide +kernel
theorem dX2_putItems_60 : decode cX2_putItems 60 = .ok (.iload 7, 2) := by decide +kernel
theorem dX2_putItems_62 : decode cX2_putItems 62 = .ok (.iload 5, 2) := by decide +kernel
theorem dX2_putItems_64 : decode cX2_putItems 64 = .ok (.if_icmp .ge 64, 3) := by decide +kernel
theorem dX2_putItems_67 : decode cX2_putItems 67 = .ok (.aload_n 0, 1) := by decide +kernel
theorem dX2_putItems_68 : decode cX2_putItems 68 = .ok (.getfield 9, 3) := by decide +kernel
theorem dX2_putItems_71 : decode cX2_putItems 71 = .ok (.iconst (-1), 1) := by decide +kernel
theorem dX2_putItems_72 : decode cX2_putItems 72 = .ok (.if_icmp .ne 56, 3) := by decide +kernel
theorem dX2_putItems_75 : decode cX2_putItems 75 = .ok (.iload_n 3, 1) := by decide +kernel
theorem dX2_putItems_76 : decode cX2_putItems 76 = .ok (.iconst 1, 1) := by decide +kernel
theorem dX2_putItems_77 : decode cX2_putItems 77 = .ok (.if_icmp .ne 16, 3) := by decide +kernel
theorem dX2_putItems_80 : decode cX2_putItems 80 = .ok (.aload_n 0, 1) := by decide +kernel
theorem dX2_putItems_81 : decode cX2_putItems 81 = .ok (.aload_n 0, 1) := by decide +kernel
theorem dX2_putItems_82 : decode cX2_putItems 82 = .ok (.getfield 15, 3) := by decide +kernel
theorem dX2_putItems_85 : decode cX2_putItems 85 = .ok (.iload 6, 2) := by decide +kernel
theorem dX2_putItems_87 : decode cX2_putItems 87 = .ok (.invokevirtual 88, 3) := by decide +kernel
theorem dX2_putItems_90 : decode cX2_putItems 90 = .ok (.invokevirtual 91, 3) := by decide +kernel
theorem dX2_putItems_93 : decode cX2_putItems 93 = .ok (.aload_n 0, 1) := by decide +kernel
theorem dX2_putItems_94 : decode cX2_putItems 94 = .ok (.iload 6, 2) := by decide +kernel
theorem dX2_putItems_96 : decode cX2_putItems 96 = .ok (.aload_n 0, 1) := by decide +kernel
theorem dX2_putItems_97 : decode cX2_putItems 97 = .ok (.getfield 19, 3) := by decide +kernel
theorem dX2_putItems_100 : decode cX2_putItems 100 = .ok (.iload_n 2, 1) := by decide +kernel
theorem dX2_putItems_101 : decode cX2_putItems 101 = .ok (.invokevirtual 94, 3) := by decide +kernel
theorem dX2_putItems_104 : decode cX2_putItems 104 = .ok (.iload 4, 2) := by decide +kernel
theorem dX2_putItems_106 : decode cX2_putItems 106 = .ok (.iconst 1, 1) := by decide +kernel
theorem dX2_putItems_107 : decode cX2_putItems 107 = .ok (.iadd, 1) := by decide +kernel
theorem dX2_putItems_108 : decode cX2_putItems 108 = .ok (.invokevirtual 39, 3) := by decide +kernel
theorem dX2_putItems_111 : decode cX2_putItems 111 = .ok (.aload_n 0, 1) := by decide +kernel
theorem dX2_putItems_112 : decode cX2_putItems 112 = .ok (.getfield 15, 3) := by decide +kernel
theorem dX2_putItems_115 : decode cX2_putItems 115 = .ok (.iload 6, 2) := by decide +kernel
theorem dX2_putItems_117 : decode cX2_putItems 117 = .ok (.invokevirtual 97, 3) := by decide +kernel
theorem dX2_putItems_120 : decode cX2_putItems 120 = .ok (.istore 6, 2) := by decide +kernel
theorem dX2_putItems_122 : decode cX2_putItems 122 = .ok (.iinc 7 1, 3) := by decide +kernel
theorem dX2_putItems_125 : decode cX2_putItems 125 = .ok (.goto (-65), 3) := by decide +kernel
theorem dX2_putItems_128 : decode cX2_putItems 128 = .ok (.aload_n 0, 1) := by decide +kernel
theorem dX2_putItems_129 : decode cX2_putItems 129 = .ok (.getfield 19, 3) := by decide +kernel
theorem dX2_putItems_132 : decode cX2_putItems 132 = .ok (.invokevirtual 23, 3) := by decide +kernel
theorem dX2_putItems_135 : decode cX2_putItems 135 = .ok (.lconst 0, 1) := by decide +kernel
theorem dX2_putItems_136 : decode cX2_putItems 136 = .ok (.invokevirtual 54, 3) := by decide +kernel
theorem dX2_putItems_139 : decode cX2_putItems 139 = .ok (.pop, 1) := by decide +kernel
theorem dX2_putItems_140 : decode cX2_putItems 140 = .ok (.return_, 1) := by decide +kernel
theorem dX2_putFields_0 : decode cX2_putFields 0 = .ok (.aload_n 0, 1) := by decide +kernel
theorem dX2_putFields_1 : decode cX2_putFields 1 = .ok (.getfield 15, 3) := by decide +kernel
theorem dX2_putFields_4 : decode cX2_putFields 4 = .ok (.iload_n 1, 1) := by decide +kernel
theorem dX2_putFields_5 : decode cX2_putFields 5 = .ok (.invokevirtual 81, 3) := by decide +kernel
theorem dX2_putFields_8 : decode cX2_putFields 8 = .ok (.iconst 1, 1) := by decide +kernel
theorem dX2_putFields_9 : decode cX2_putFields 9 = .ok (.if_icmp .eq 9, 3) := by decide +kernel
theorem dX2_putFields_12 : decode cX2_putFields 12 = .ok (.aload_n 0, 1) := by decide +kernel
theorem dX2_putFields_13 : decode cX2_putFields 13 = .ok (.iload_n 1, 1) := by decide +kernel
theorem dX2_putFields_14 : decode cX2_putFields 14 = .ok (.invokevirtual 62, 3) := by decide +kernel
theorem dX2_putFields_17 : decode cX2_putFields 17 = .ok (.return_, 1) := by decide +kernel
theorem dX2_putFields_18 : decode cX2_putFields 18 = .ok (.iconst 0, 1) := by decide +kernel
theorem dX2_putFields_19 : decode cX2_putFields 19 = .ok (.istore 4, 2) := by decide +kernel
theorem dX2_putFields_21 : decode cX2_putFields 21 = .ok (.iload 4, 2) := by decide +kernel
theorem dX2_putFields_23 : decode cX2_putFields 23 = .ok (.aload_n 0, 1) := by decide +kernel
theorem dX2_putFields_24 : decode cX2_putFields 24 = .ok (.getfield 19, 3) := by decide +kernel
theorem dX2_putFields_27 : decode cX2_putFields 27 = .ok (.iload_n 2, 1) := by decide +kernel
theorem dX2_putFields_28 : decode cX2_putFields 28 = .ok (.invokevirtual 100, 3) := by decide +kernel
theorem dX2_putFields_31 : decode cX2_putFields 31 = .ok (.if_icmp .ge 87, 3) := by decide +kernel
theorem dX2_putFields_34 : decode cX2_putFields 34 = .ok (.aload_n 0, 1) := by decide +kernel
theorem dX2_putFields_35 : decode cX2_putFields 35 = .ok (.getfield 9, 3) := by decide +kernel
theorem dX2_putFields_38 : decode cX2_putFields 38 = .ok (.iconst (-1), 1) := by decide +kernel
theorem dX2_putFields_39 : decode cX2_putFields 39 = .ok (.if_icmp .ne 79, 3) := by decide +kernel
theorem dX2_putFields_42 : decode cX2_putFields 42 = .ok (.aload_n 0, 1) := by decide +kernel
theorem dX2_putFields_43 : decode cX2_putFields 43 = .ok (.getfield 19, 3) := by decide +kernel
theorem dX2_putFields_46 : decode cX2_putFields 46 = .ok (.iload_n 2, 1) := by decide +kernel
theorem dX2_putFields_47 : decode cX2_putFields 47 = .ok (.iload 4, 2) := by decide +kernel
theorem dX2_putFields_49 : decode cX2_putFields 49 = .ok (.invokevirtual 101, 3) := by decide +kernel
theorem dX2_putFields_52 : decode cX2_putFields 52 = .ok (.istore 5, 2) := by decide +kernel
theorem dX2_putFields_54 : decode cX2_putFields 54 = .ok (.aload_n 0, 1) := by decide +kernel
theorem dX2_putFields_55 : decode cX2_putFields 55 = .ok (.getfield 15, 3) := by decide +kernel
theorem dX2_putFields_58 : decode cX2_putFields 58 = .ok (.iload_n 1, 1) := by decide +kernel
theorem dX2_putFields_59 : decode cX2_putFields 59 = .ok (.aload_n 0, 1) := by decide +kernel
theorem dX2_putFields_60 : decode cX2_putFields 60 = .ok (.getfield 19, 3) := by decide +kernel
theorem dX2_putFields_63 : decode cX2_putFields 63 = .ok (.invokevirtual 104, 3) := by decide +kernel
theorem dX2_putFields_66 : decode cX2_putFields 66 = .ok (.aload_n 0, 1) := by decide +kernel
theorem dX2_putFields_67 : decode cX2_putFields 67 = .ok (.getfield 19, 3) := by decide +kernel
theorem dX2_putFields_70 : decode cX2_putFields 70 = .ok (.iload 5, 2) := by decide +kernel
theorem dX2_putFields_72 : decode cX2_putFields 72 = .ok (.invokevirtual 107, 3) := by decide +kernel
theorem dX2_putFields_75 : decode cX2_putFields 75 = .ok (.invokevirtual 110, 3) := by decide +kernel
theorem dX2_putFields_78 : decode cX2_putFields 78 = .ok (.istore 6, 2) := by decide +kernel
theorem dX2_putFields_80 : decode cX2_putFields 80 = .ok (.iload 6, 2) := by decide +kernel
theorem dX2_putFields_82 : decode cX2_putFields 82 = .ok (.iconst (-1), 1) := by decide +kernel
theorem dX2_putFields_83 : decode cX2_putFields 83 = .ok (.if_icmp .ne 11, 3) := by decide +kernel
theorem dX2_putFields_86 : decode cX2_putFields 86 = .ok (.aload_n 0, 1) := by decide +kernel
theorem dX2_putFields_87 : decode cX2_putFields 87 = .ok (.iload_n 1, 1) := by decide +kernel
theorem dX2_putFields_88 : decode cX2_putFields 88 = .ok (.invokevirtual 62, 3) := by decide +kernel
theorem dX2_putFields_91 : decode cX2_putFields 91 = .ok (.goto 21, 3) := by decide +kernel
theorem dX2_putFields_94 : decode cX2_putFields 94 = .ok (.aload_n 0, 1) := by decide +kernel
theorem dX2_putFields_95 : decode cX2_putFields 95 = .ok (.iload 6, 2) := by decide +kernel
theorem dX2_putFields_97 : decode cX2_putFields 97 = .ok (.aload_n 0, 1) := by decide +kernel
theorem dX2_putFields_98 : decode cX2_putFields 98 = .ok (.getfield 19, 3) := by decide +kernel
theorem dX2_putFields_101 : decode cX2_putFields 101 = .ok (.iload 5, 2) := by decide +kernel
theorem dX2_putFields_103 : decode cX2_putFields 103 = .ok (.invokevirtual 35, 3) := by decide +kernel
theorem dX2_putFields_106 : decode cX2_putFields 106 = .ok (.iload_n 3, 1) := by decide +kernel
theorem dX2_putFields_107 : decode cX2_putFields 107 = .ok (.iconst 1, 1) := by decide +kernel
theorem dX2_putFields_108 : decode cX2_putFields 108 = .ok (.iadd, 1) := by decide +kernel
theorem dX2_putFields_109 : decode cX2_putFields 109 = .ok (.invokevirtual 39, 3) := by decide +kernel
theorem dX2_putFields_112 : decode cX2_putFields 112 = .ok (.iinc 4 1, 3) := by decide +kernel
theorem dX2_putFields_115 : decode cX2_putFields 115 = .ok (.goto (-94), 3) := by decide +kernel
theorem dX2_putFields_118 : decode cX2_putFields 118 = .ok (.return_, 1) := by decide +kernel
theorem dX2_putString_0 : decode cX2_putString 0 = .ok (.aload_n 0, 1) := by decide +kernel
theorem dX2_putString_1 : decode cX2_putString 1 = .ok (.getfield 19, 3) := by decide +kernel
theorem dX2_putString_4 : decode cX2_putString 4 = .ok (.invokevirtual 23, 3) := by decide +kernel
theorem dX2_putString_7 : decode cX2_putString 7 = .ok (.aload_n 0, 1) := by decide +kernel
theorem dX2_putString_8 : decode cX2_putString 8 = .ok (.getfield 15, 3) := by decide +kernel
theorem dX2_putString_11 : decode cX2_putString 11 = .ok (.invokevirtual 114, 3) := by decide +kernel
theorem dX2_putString_14 : decode cX2_putString 14 = .ok (.iload_n 1, 1) := by decide +kernel
theorem dX2_putString_15 : decode cX2_putString 15 = .ok (.invokevirtual 117, 3) := by decide +kernel
theorem dX2_putString_18 : decode cX2_putString 18 = .ok (.i2l, 1) := by decide +kernel
theorem dX2_putString_19 : decode cX2_putString 19 = .ok (.invokevirtual 54, 3) := by decide +kernel
theorem dX2_putString_22 : decode cX2_putString 22 = .ok (.pop, 1) := by decide +kernel
theorem dX2_putString_23 : decode cX2_putString 23 = .ok (.aload_n 0, 1) := by decide +kernel
theorem dX2_putString_24 : decode cX2_putString 24 = .ok (.iload_n 1, 1) := by decide +kernel
theorem dX2_putString_25 : decode cX2_putString 25 = .ok (.invokevirtual 120, 3) := by decide +kernel
theorem dX2_putString_28 : decode cX2_putString 28 = .ok (.return_, 1) := by decide +kernel
theorem dX2_putLetters_0 : decode cX2_putLetters 0 = .ok (.aload_n 0, 1) := by decide +kernel
theorem dX2_putLetters_1 : decode cX2_putLetters 1 = .ok (.getfield 19, 3) := by decide +kernel
theorem dX2_putLetters_4 : decode cX2_putLetters 4 = .ok (.invokevirtual 23, 3) := by decide +kernel
theorem dX2_putLetters_7 : decode cX2_putLetters 7 = .ok (.aload_n 0, 1) := by decide +kernel
theorem dX2_putLetters_8 : decode cX2_putLetters 8 = .ok (.getfield 15, 3) := by decide +kernel
theorem dX2_putLetters_11 : decode cX2_putLetters 11 = .ok (.invokevirtual 114, 3) := by decide +kernel
theorem dX2_putLetters_14 : decode cX2_putLetters 14 = .ok (.iload_n 1, 1) := by decide +kernel
theorem dX2_putLetters_15 : decode cX2_putLetters 15 = .ok (.iconst 1, 1) := by decide +kernel
theorem dX2_putLetters_16 : decode cX2_putLetters 16 = .ok (.iadd, 1) := by decide +kernel
theorem dX2_putLetters_17 : decode cX2_putLetters 17 = .ok (.iload_n 1, 1) := by decide +kernel
theorem dX2_putLetters_18 : decode cX2_putLetters 18 = .ok (.iconst 1, 1) := by decide +kernel
theorem dX2_putLetters_19 : decode cX2_putLetters 19 = .ok (.iadd, 1) := by decide +kernel
theorem dX2_putLetters_20 : decode cX2_putLetters 20 = .ok (.aload_n 0, 1) := by decide +kernel
theorem dX2_putLetters_21 : decode cX2_putLetters 21 = .ok (.getfield 15, 3) := by decide +kernel
theorem dX2_putLetters_24 : decode cX2_putLetters 24 = .ok (.invokevirtual 114, 3) := by decide +kernel
theorem dX2_putLetters_27 : decode cX2_putLetters 27 = .ok (.iload_n 1, 1) := by decide +kernel
theorem dX2_putLetters_28 : decode cX2_putLetters 28 = .ok (.invokevirtual 117, 3) := by decide +kernel
theorem dX2_putLetters_31 : decode cX2_putLetters 31 = .ok (.iadd, 1) := by decide +kernel
theorem dX2_putLetters_32 : decode cX2_putLetters 32 = .ok (.invokevirtual 123, 3) := by decide +kernel
theorem dX2_putLetters_35 : decode cX2_putLetters 35 = .ok (.pop, 1) := by decide +kernel
theorem dX2_putLetters_36 : decode cX2_putLetters 36 = .ok (.return_, 1) := by decide +kernel
theorem dX2_suits_0 : decode cX2_suits 0 = .ok (.aload_n 0, 1) := by decide +kernel
theorem dX2_suits_1 : decode cX2_suits 1 = .ok (.getfield 15, 3) := by decide +kernel
theorem dX2_suits_4 : decode cX2_suits 4 = .ok (.iload_n 1, 1) := by decide +kernel
theorem dX2_suits_5 : decode cX2_suits 5 = .ok (.invokevirtual 81, 3) := by decide +kernel
theorem dX2_suits_8 : decode cX2_suits 8 = .ok (.istore_n 3, 1) := by decide +kernel
theorem dX2_suits_9 : decode cX2_suits 9 = .ok (.aload_n 0, 1) := by decide +kernel
theorem dX2_suits_10 : decode cX2_suits 10 = .ok (.getfield 19, 3) := by decide +kernel
theorem dX2_suits_13 : decode cX2_suits 13 = .ok (.iload_n 2, 1) := by decide +kernel
theorem dX2_suits_14 : decode cX2_suits 14 = .ok (.invokevirtual 51, 3) := by decide +kernel
theorem dX2_suits_17 : decode cX2_suits 17 = .ok (.tableswitch 211 0 10 #[59, 71, 88, 121, 132, 132, 211, 211, 211, 143, 173], 59) := by decide +kernel
theorem dX2_suits_76 : decode cX2_suits 76 = .ok (.iload_n 3, 1) := by decide +kernel
theorem dX2_suits_77 : decode cX2_suits 77 = .ok (.bipush 7, 2) := by decide +kernel
theorem dX2_suits_79 : decode cX2_suits 79 = .ok (.if_icmp .ne 7, 3) := by decide +kernel
theorem dX2_suits_82 : decode cX2_suits 82 = .ok (.iconst 1, 1) := by decide +kernel
theorem dX2_suits_83 : decode cX2_suits 83 = .ok (.goto 4, 3) := by decide +kernel
theorem dX2_suits_86 : decode cX2_suits 86 = .ok (.iconst 0, 1) := by decide +kernel
theorem dX2_suits_87 : decode cX2_suits 87 = .ok (.ireturn, 1) := by decide +kernel
theorem dX2_suits_88 : decode cX2_suits 88 = .ok (.iload_n 3, 1) := by decide +kernel
theorem dX2_suits_89 : decode cX2_suits 89 = .ok (.iconst 5, 1) := by decide +kernel
theorem dX2_suits_90 : decode cX2_suits 90 = .ok (.if_icmp .eq 9, 3) := by decide +kernel
theorem dX2_suits_93 : decode cX2_suits 93 = .ok (.iload_n 3, 1) := by decide +kernel
theorem dX2_suits_94 : decode cX2_suits 94 = .ok (.bipush 6, 2) := by decide +kernel
theorem dX2_suits_96 : decode cX2_suits 96 = .ok (.if_icmp .ne 7, 3) := by decide +kernel
theorem dX2_suits_99 : decode cX2_suits 99 = .ok (.iconst 1, 1) := by decide +kernel
theorem dX2_suits_100 : decode cX2_suits 100 = .ok (.goto 4, 3) := by decide +kernel
theorem dX2_suits_103 : decode cX2_suits 103 = .ok (.iconst 0, 1) := by decide +kernel
theorem dX2_suits_104 : decode cX2_suits 104 = .ok (.ireturn, 1) := by decide +kernel
theorem dX2_suits_105 : decode cX2_suits 105 = .ok (.iload_n 3, 1) := by decide +kernel
theorem dX2_suits_106 : decode cX2_suits 106 = .ok (.iconst 4, 1) := by decide +kernel
theorem dX2_suits_107 : decode cX2_suits 107 = .ok (.if_icmp .ne 29, 3) := by decide +kernel
theorem dX2_suits_110 : decode cX2_suits 110 = .ok (.aload_n 0, 1) := by decide +kernel
theorem dX2_suits_111 : decode cX2_suits 111 = .ok (.getfield 15, 3) := by decide +kernel
theorem dX2_suits_114 : decode cX2_suits 114 = .ok (.iload_n 1, 1) := by decide +kernel
theorem dX2_suits_115 : decode cX2_suits 115 = .ok (.invokevirtual 127, 3) := by decide +kernel
theorem dX2_suits_118 : decode cX2_suits 118 = .ok (.aload_n 0, 1) := by decide +kernel
theorem dX2_suits_119 : decode cX2_suits 119 = .ok (.getfield 15, 3) := by decide +kernel
theorem dX2_suits_122 : decode cX2_suits 122 = .ok (.iload_n 1, 1) := by decide +kernel
theorem dX2_suits_123 : decode cX2_suits 123 = .ok (.invokevirtual 127, 3) := by decide +kernel
theorem dX2_suits_126 : decode cX2_suits 126 = .ok (.l2i, 1) := by decide +kernel
theorem dX2_suits_127 : decode cX2_suits 127 = .ok (.i2l, 1) := by decide +kernel
theorem dX2_suits_128 : decode cX2_suits 128 = .ok (.lcmp, 1) := by decide +kernel
theorem dX2_suits_129 : decode cX2_suits 129 = .ok (.ifCond .ne 7, 3) := by decide +kernel
theorem dX2_suits_132 : decode cX2_suits 132 = .ok (.iconst 1, 1) := by decide +kernel
theorem dX2_suits_133 : decode cX2_suits 133 = .ok (.goto 4, 3) := by decide +kernel
theorem dX2_suits_136 : decode cX2_suits 136 = .ok (.iconst 0, 1) := by decide +kernel
theorem dX2_suits_137 : decode cX2_suits 137 = .ok (.ireturn, 1) := by decide +kernel
theorem dX2_suits_138 : decode cX2_suits 138 = .ok (.iload_n 3, 1) := by decide +kernel
theorem dX2_suits_139 : decode cX2_suits 139 = .ok (.iconst 4, 1) := by decide +kernel
theorem dX2_suits_140 : decode cX2_suits 140 = .ok (.if_icmp .ne 7, 3) := by decide +kernel
theorem dX2_suits_143 : decode cX2_suits 143 = .ok (.iconst 1, 1) := by decide +kernel
theorem dX2_suits_144 : decode cX2_suits 144 = .ok (.goto 4, 3) := by decide +kernel
theorem dX2_suits_147 : decode cX2_suits 147 = .ok (.iconst 0, 1) := by decide +kernel
theorem dX2_suits_148 : decode cX2_suits 148 = .ok (.ireturn, 1) := by decide +kernel
theorem dX2_suits_149 : decode cX2_suits 149 = .ok (.iload_n 3, 1) := by decide +kernel
theorem dX2_suits_150 : decode cX2_suits 150 = .ok (.iconst 3, 1) := by decide +kernel
theorem dX2_suits_151 : decode cX2_suits 151 = .ok (.if_icmp .ne 7, 3) := by decide +kernel
theorem dX2_suits_154 : decode cX2_suits 154 = .ok (.iconst 1, 1) := by decide +kernel
theorem dX2_suits_155 : decode cX2_suits 155 = .ok (.goto 4, 3) := by decide +kernel
theorem dX2_suits_158 : decode cX2_suits 158 = .ok (.iconst 0, 1) := by decide +kernel
theorem dX2_suits_159 : decode cX2_suits 159 = .ok (.ireturn, 1) := by decide +kernel
theorem dX2_suits_160 : decode cX2_suits 160 = .ok (.iload_n 3, 1) := by decide +kernel
theorem dX2_suits_161 : decode cX2_suits 161 = .ok (.iconst 3, 1) := by decide +kernel
theorem dX2_suits_162 : decode cX2_suits 162 = .ok (.if_icmp .ne 26, 3) := by decide +kernel
theorem dX2_suits_165 : decode cX2_suits 165 = .ok (.aload_n 0, 1) := by decide +kernel
theorem dX2_suits_166 : decode cX2_suits 166 = .ok (.getfield 15, 3) := by decide +kernel
theorem dX2_suits_169 : decode cX2_suits 169 = .ok (.iload_n 1, 1) := by decide +kernel
theorem dX2_suits_170 : decode cX2_suits 170 = .ok (.invokevirtual 131, 3) := by decide +kernel
theorem dX2_suits_173 : decode cX2_suits 173 = .ok (.aload_n 0, 1) := by decide +kernel
theorem dX2_suits_174 : decode cX2_suits 174 = .ok (.getfield 19, 3) := by decide +kernel
theorem dX2_suits_177 : decode cX2_suits 177 = .ok (.iload_n 2, 1) := by decide +kernel
theorem dX2_suits_178 : decode cX2_suits 178 = .ok (.invokevirtual 134, 3) := by decide +kernel
theorem dX2_suits_181 : decode cX2_suits 181 = .ok (.if_icmp .ne 7, 3) := by decide +kernel
theorem dX2_suits_184 : decode cX2_suits 184 = .ok (.iconst 1, 1) := by decide +kernel
theorem dX2_suits_185 : decode cX2_suits 185 = .ok (.goto 4, 3) := by decide +kernel
theorem dX2_suits_188 : decode cX2_suits 188 = .ok (.iconst 0, 1) := by decide +kernel
theorem dX2_suits_189 : decode cX2_suits 189 = .ok (.ireturn, 1) := by decide +kernel
theorem dX2_suits_190 : decode cX2_suits 190 = .ok (.iload_n 3, 1) := by decide +kernel
theorem dX2_suits_191 : decode cX2_suits 191 = .ok (.iconst 3, 1) := by decide +kernel
theorem dX2_suits_192 : decode cX2_suits 192 = .ok (.if_icmp .ne 34, 3) := by decide +kernel
theorem dX2_suits_195 : decode cX2_suits 195 = .ok (.aload_n 0, 1) := by decide +kernel
theorem dX2_suits_196 : decode cX2_suits 196 = .ok (.getfield 19, 3) := by decide +kernel
theorem dX2_suits_199 : decode cX2_suits 199 = .ok (.iload_n 2, 1) := by decide +kernel
theorem dX2_suits_200 : decode cX2_suits 200 = .ok (.aload_n 0, 1) := by decide +kernel
theorem dX2_suits_201 : decode cX2_suits 201 = .ok (.getfield 15, 3) := by decide +kernel
theorem dX2_suits_204 : decode cX2_suits 204 = .ok (.invokevirtual 114, 3) := by decide +kernel
theorem dX2_suits_207 : decode cX2_suits 207 = .ok (.aload_n 0, 1) := by decide +kernel
theorem dX2_suits_208 : decode cX2_suits 208 = .ok (.getfield 15, 3) := by decide +kernel
theorem dX2_suits_211 : decode cX2_suits 211 = .ok (.iload_n 1, 1) := by decide +kernel
theorem dX2_suits_212 : decode cX2_suits 212 = .ok (.invokevirtual 137, 3) := by decide +kernel
theorem dX2_suits_215 : decode cX2_suits 215 = .ok (.invokevirtual 140, 3) := by decide +kernel
theorem dX2_suits_218 : decode cX2_suits 218 = .ok (.iconst (-1), 1) := by decide +kernel
theorem dX2_suits_219 : decode cX2_suits 219 = .ok (.if_icmp .eq 7, 3) := by decide +kernel
theorem dX2_suits_222 : decode cX2_suits 222 = .ok (.iconst 1, 1) := by decide +kernel
theorem dX2_suits_223 : decode cX2_suits 223 = .ok (.goto 4, 3) := by decide +kernel
theorem dX2_suits_226 : decode cX2_suits 226 = .ok (.iconst 0, 1) := by decide +kernel
theorem dX2_suits_227 : decode cX2_suits 227 = .ok (.ireturn, 1) := by decide +kernel
theorem dX2_suits_228 : decode cX2_suits 228 = .ok (.iconst 0, 1) := by decide +kernel
theorem dX2_suits_229 : decode cX2_suits 229 = .ok (.ireturn, 1) := by decide +kernel
theorem dX2_putPlain_0 : decode cX2_putPlain 0 = .ok (.aload_n 0, 1) := by decide +kernel
theorem dX2_putPlain_1 : decode cX2_putPlain 1 = .ok (.getfield 19, 3) := by decide +kernel
theorem dX2_putPlain_4 : decode cX2_putPlain 4 = .ok (.invokevirtual 23, 3) := by decide +kernel
theorem dX2_putPlain_7 : decode cX2_putPlain 7 = .ok (.astore_n 3, 1) := by decide +kernel
theorem dX2_putPlain_8 : decode cX2_putPlain 8 = .ok (.aload_n 0, 1) := by decide +kernel
theorem dX2_putPlain_9 : decode cX2_putPlain 9 = .ok (.getfield 19, 3) := by decide +kernel
theorem dX2_putPlain_12 : decode cX2_putPlain 12 = .ok (.iload_n 2, 1) := by decide +kernel
theorem dX2_putPlain_13 : decode cX2_putPlain 13 = .ok (.invokevirtual 51, 3) := by decide +kernel
theorem dX2_putPlain_16 : decode cX2_putPlain 16 = .ok (.tableswitch 149 1 10 #[56, 79, 79, 93, 93, 149, 149, 149, 106, 119], 56) := by decide +kernel
theorem dX2_putPlain_72 : decode cX2_putPlain 72 = .ok (.aload_n 3, 1) := by decide +kernel
theorem dX2_putPlain_73 : decode cX2_putPlain 73 = .ok (.aload_n 0, 1) := by decide +kernel
theorem dX2_putPlain_74 : decode cX2_putPlain 74 = .ok (.getfield 15, 3) := by decide +kernel
theorem dX2_putPlain_77 : decode cX2_putPlain 77 = .ok (.iload_n 1, 1) := by decide +kernel
theorem dX2_putPlain_78 : decode cX2_putPlain 78 = .ok (.invokevirtual 81, 3) := by decide +kernel
theorem dX2_putPlain_81 : decode cX2_putPlain 81 = .ok (.iconst 5, 1) := by decide +kernel
theorem dX2_putPlain_82 : decode cX2_putPlain 82 = .ok (.if_icmp .ne 7, 3) := by decide +kernel
theorem dX2_putPlain_85 : decode cX2_putPlain 85 = .ok (.iconst 1, 1) := by decide +kernel
theorem dX2_putPlain_86 : decode cX2_putPlain 86 = .ok (.goto 4, 3) := by decide +kernel
theorem dX2_putPlain_89 : decode cX2_putPlain 89 = .ok (.iconst 0, 1) := by decide +kernel
theorem dX2_putPlain_90 : decode cX2_putPlain 90 = .ok (.invokevirtual 143, 3) := by decide +kernel
theorem dX2_putPlain_93 : decode cX2_putPlain 93 = .ok (.pop, 1) := by decide +kernel
theorem dX2_putPlain_94 : decode cX2_putPlain 94 = .ok (.return_, 1) := by decide +kernel
theorem dX2_putPlain_95 : decode cX2_putPlain 95 = .ok (.aload_n 3, 1) := by decide +kernel
theorem dX2_putPlain_96 : decode cX2_putPlain 96 = .ok (.aload_n 0, 1) := by decide +kernel
theorem dX2_putPlain_97 : decode cX2_putPlain 97 = .ok (.getfield 15, 3) := by decide +kernel
theorem dX2_putPlain_100 : decode cX2_putPlain 100 = .ok (.iload_n 1, 1) := by decide +kernel
theorem dX2_putPlain_101 : decode cX2_putPlain 101 = .ok (.invokevirtual 127, 3) := by decide +kernel
theorem dX2_putPlain_104 : decode cX2_putPlain 104 = .ok (.invokevirtual 54, 3) := by decide +kernel
theorem dX2_putPlain_107 : decode cX2_putPlain 107 = .ok (.pop, 1) := by decide +kernel
theorem dX2_putPlain_108 : decode cX2_putPlain 108 = .ok (.return_, 1) := by decide +kernel
theorem dX2_putPlain_109 : decode cX2_putPlain 109 = .ok (.aload_n 0, 1) := by decide +kernel
theorem dX2_putPlain_110 : decode cX2_putPlain 110 = .ok (.aload_n 0, 1) := by decide +kernel
theorem dX2_putPlain_111 : decode cX2_putPlain 111 = .ok (.getfield 15, 3) := by decide +kernel
theorem dX2_putPlain_114 : decode cX2_putPlain 114 = .ok (.iload_n 1, 1) := by decide +kernel
theorem dX2_putPlain_115 : decode cX2_putPlain 115 = .ok (.invokevirtual 137, 3) := by decide +kernel
theorem dX2_putPlain_118 : decode cX2_putPlain 118 = .ok (.invokevirtual 91, 3) := by decide +kernel
theorem dX2_putPlain_121 : decode cX2_putPlain 121 = .ok (.return_, 1) := by decide +kernel
theorem dX2_putPlain_122 : decode cX2_putPlain 122 = .ok (.aload_n 0, 1) := by decide +kernel
theorem dX2_putPlain_123 : decode cX2_putPlain 123 = .ok (.aload_n 0, 1) := by decide +kernel
theorem dX2_putPlain_124 : decode cX2_putPlain 124 = .ok (.getfield 15, 3) := by decide +kernel
theorem dX2_putPlain_127 : decode cX2_putPlain 127 = .ok (.iload_n 1, 1) := by decide +kernel
theorem dX2_putPlain_128 : decode cX2_putPlain 128 = .ok (.invokevirtual 137, 3) := by decide +kernel
theorem dX2_putPlain_131 : decode cX2_putPlain 131 = .ok (.invokevirtual 120, 3) := by decide +kernel
theorem dX2_putPlain_134 : decode cX2_putPlain 134 = .ok (.return_, 1) := by decide +kernel
theorem dX2_putPlain_135 : decode cX2_putPlain 135 = .ok (.aload_n 3, 1) := by decide +kernel
theorem dX2_putPlain_136 : decode cX2_putPlain 136 = .ok (.aload_n 0, 1) := by decide +kernel
theorem dX2_putPlain_137 : decode cX2_putPlain 137 = .ok (.getfield 19, 3) := by decide +kernel
theorem dX2_putPlain_140 : decode cX2_putPlain 140 = .ok (.iload_n 2, 1) := by decide +kernel
theorem dX2_putPlain_141 : decode cX2_putPlain 141 = .ok (.aload_n 0, 1) := by decide +kernel
theorem dX2_putPlain_142 : decode cX2_putPlain 142 = .ok (.getfield 15, 3) := by decide +kernel
theorem dX2_putPlain_145 : decode cX2_putPlain 145 = .ok (.invokevirtual 114, 3) := by decide +kernel
theorem dX2_putPlain_148 : decode cX2_putPlain 148 = .ok (.aload_n 0, 1) := by decide +kernel
theorem dX2_putPlain_149 : decode cX2_putPlain 149 = .ok (.getfield 15, 3) := by decide +kernel
theorem dX2_putPlain_152 : decode cX2_putPlain 152 = .ok (.iload_n 1, 1) := by decide +kernel
theorem dX2_putPlain_153 : decode cX2_putPlain 153 = .ok (.invokevirtual 137, 3) := by decide +kernel
theorem dX2_putPlain_156 : decode cX2_putPlain 156 = .ok (.invokevirtual 140, 3) := by decide +kernel
theorem dX2_putPlain_159 : decode cX2_putPlain 159 = .ok (.i2l, 1) := by decide +kernel
theorem dX2_putPlain_160 : decode cX2_putPlain 160 = .ok (.invokevirtual 54, 3) := by decide +kernel
theorem dX2_putPlain_163 : decode cX2_putPlain 163 = .ok (.pop, 1) := by decide +kernel
theorem dX2_putPlain_164 : decode cX2_putPlain 164 = .ok (.return_, 1) := by decide +kernel
theorem dX2_putPlain_165 : decode cX2_putPlain 165 = .ok (.return_, 1) := by decide +kernel
theorem dX3_init_0 : decode cX3_init 0 = .ok (.aload_n 0, 1) := by decide +kernel
theorem dX3_init_1 : decode cX3_init 1 = .ok (.invokespecial 5, 3) := by decide +kernel
theorem dX3_init_4 : decode cX3_init 4 = .ok (.aload_n 0, 1) := by decide +kernel
theorem dX3_init_5 : decode cX3_init 5 = .ok (.new 11, 3) := by decide +kernel
theorem dX3_init_8 : decode cX3_init 8 = .ok (.dup, 1) := by decide +kernel
theorem dX3_init_9 : decode cX3_init 9 = .ok (.sipush 17956, 3) := by decide +kernel
theorem dX3_init_12 : decode cX3_init 12 = .ok (.invokespecial 15, 3) := by decide +kernel
theorem dX3_init_15 : decode cX3_init 15 = .ok (.putfield 18, 3) := by decide +kernel
theorem dX3_init_18 : decode cX3_init 18 = .ok (.aload_n 0, 1) := by decide +kernel
theorem dX3_init_19 : decode cX3_init 19 = .ok (.new 11, 3) := by decide +kernel
theorem dX3_init_22 : decode cX3_init 22 = .ok (.dup, 1) := by decide +kernel
theorem dX3_init_23 : decode cX3_init 23 = .ok (.sipush 17956, 3) := by decide +kernel
theorem dX3_init_26 : decode cX3_init 26 = .ok (.invokespecial 15, 3) := by decide +kernel
theorem dX3_init_29 : decode cX3_init 29 = .ok (.putfield 22, 3) := by decide +kernel
theorem dX3_init_32 : decode cX3_init 32 = .ok (.return_, 1) := by decide +kernel
theorem dX3_fit_0 : decode cX3_fit 0 = .ok (.aload_n 1, 1) := by decide +kernel
theorem dX3_fit_1 : decode cX3_fit 1 = .ok (.ifnull 7, 3) := by decide +kernel
theorem dX3_fit_4 : decode cX3_fit 4 = .ok (.aload_n 2, 1) := by decide +kernel
theorem dX3_fit_5 : decode cX3_fit 5 = .ok (.ifnonnull 5, 3) := by decide +kernel
theorem dX3_fit_8 : decode cX3_fit 8 = .ok (.iconst 0, 1) := by decide +kernel
theorem dX3_fit_9 : decode cX3_fit 9 = .ok (.ireturn, 1) := by decide +kernel
theorem dX3_fit_10 : decode cX3_fit 10 = .ok (.aload_n 0, 1) := by decide +kernel
theorem dX3_fit_11 : decode cX3_fit 11 = .ok (.aload_n 1, 1) := by decide +kernel
theorem dX3_fit_12 : decode cX3_fit 12 = .ok (.putfield 25, 3) := by decide +kernel
theorem dX3_fit_15 : decode cX3_fit 15 = .ok (.aload_n 0, 1) := by decide +kernel
theorem dX3_fit_16 : decode cX3_fit 16 = .ok (.aload_n 2, 1) := by decide +kernel
theorem dX3_fit_17 : decode cX3_fit 17 = .ok (.putfield 29, 3) := by decide +kernel
theorem dX3_fit_20 : decode cX3_fit 20 = .ok (.aload_n 0, 1) := by decide +kernel
theorem dX3_fit_21 : decode cX3_fit 21 = .ok (.dup, 1) := by decide +kernel
theorem dX3_fit_22 : decode cX3_fit 22 = .ok (.getfield 32, 3) := by decide +kernel
theorem dX3_fit_25 : decode cX3_fit 25 = .ok (.iconst 1, 1) := by decide +kernel
theorem dX3_fit_26 : decode cX3_fit 26 = .ok (.iadd, 1) := by decide +kernel
theorem dX3_fit_27 : decode cX3_fit 27 = .ok (.putfield 32, 3) := by decide +kernel
theorem dX3_fit_30 : decode cX3_fit 30 = .ok (.aload_n 0, 1) := by decide +kernel
theorem dX3_fit_31 : decode cX3_fit 31 = .ok (.getfield 22, 3) := by decide +kernel
theorem dX3_fit_34 : decode cX3_fit 34 = .ok (.iconst 0, 1) := by decide +kernel
theorem dX3_fit_35 : decode cX3_fit 35 = .ok (.invokevirtual 36, 3) := by decide +kernel
theorem dX3_fit_38 : decode cX3_fit 38 = .ok (.aload_n 0, 1) := by decide +kernel
theorem dX3_fit_39 : decode cX3_fit 39 = .ok (.aload_n 0, 1) := by decide +kernel
theorem dX3_fit_40 : decode cX3_fit 40 = .ok (.getfield 25, 3) := by decide +kernel
theorem dX3_fit_43 : decode cX3_fit 43 = .ok (.invokevirtual 39, 3) := by decide +kernel
theorem dX3_fit_46 : decode cX3_fit 46 = .ok (.aload_n 0, 1) := by decide +kernel
theorem dX3_fit_47 : decode cX3_fit 47 = .ok (.getfield 29, 3) := by decide +kernel
theorem dX3_fit_50 : decode cX3_fit 50 = .ok (.invokevirtual 39, 3) := by decide +kernel
theorem dX3_fit_53 : decode cX3_fit 53 = .ok (.invokevirtual 43, 3) := by decide +kernel
theorem dX3_fit_56 : decode cX3_fit 56 = .ok (.iconst 0, 1) := by decide +kernel
theorem dX3_fit_57 : decode cX3_fit 57 = .ok (.istore_n 3, 1) := by decide +kernel
theorem dX3_fit_58 : decode cX3_fit 58 = .ok (.iload_n 3, 1) := by decide +kernel
theorem dX3_fit_59 : decode cX3_fit 59 = .ok (.sipush 17956, 3) := by decide +kernel
theorem dX3_fit_62 : decode cX3_fit 62 = .ok (.if_icmp .ge 74, 3) := by decide +kernel
theorem dX3_fit_65 : decode cX3_fit 65 = .ok (.aload_n 0, 1) := by decide +kernel
theorem dX3_fit_66 : decode cX3_fit 66 = .ok (.getfield 22, 3) := by decide +kernel
theorem dX3_fit_69 : decode cX3_fit 69 = .ok (.invokevirtual 47, 3) := by decide +kernel
theorem dX3_fit_72 : decode cX3_fit 72 = .ok (.ifCond .le 64, 3) := by decide +kernel
theorem dX3_fit_75 : decode cX3_fit 75 = .ok (.aload_n 0, 1) := by decide +kernel
theorem dX3_fit_76 : decode cX3_fit 76 = .ok (.getfield 22, 3) := by decide +kernel
theorem dX3_fit_79 : decode cX3_fit 79 = .ok (.aload_n 0, 1) := by decide +kernel
theorem dX3_fit_80 : decode cX3_fit 80 = .ok (.getfield 22, 3) := by decide +kernel
theorem dX3_fit_83 : decode cX3_fit 83 = .ok (.invokevirtual 47, 3) := by decide +kernel
theorem dX3_fit_86 : decode cX3_fit 86 = .ok (.iconst 1, 1) := by decide +kernel
theorem dX3_fit_87 : decode cX3_fit 87 = .ok (.isub, 1) := by decide +kernel
theorem dX3_fit_88 : decode cX3_fit 88 = .ok (.invokevirtual 50, 3) := by decide +kernel
theorem dX3_fit_91 : decode cX3_fit 91 = .ok (.istore 4, 2) := by decide +kernel
theorem dX3_fit_93 : decode cX3_fit 93 = .ok (.aload_n 0, 1) := by decide +kernel
theorem dX3_fit_94 : decode cX3_fit 94 = .ok (.getfield 22, 3) := by decide +kernel
theorem dX3_fit_97 : decode cX3_fit 97 = .ok (.aload_n 0, 1) := by decide +kernel
theorem dX3_fit_98 : decode cX3_fit 98 = .ok (.getfield 22, 3) := by decide +kernel
theorem dX3_fit_101 : decode cX3_fit 101 = .ok (.invokevirtual 47, 3) := by decide +kernel
theorem dX3_fit_104 : decode cX3_fit 104 = .ok (.iconst 1, 1) := by decide +kernel
theorem dX3_fit_105 : decode cX3_fit 105 = .ok (.isub, 1) := by decide +kernel
theorem dX3_fit_106 : decode cX3_fit 106 = .ok (.invokevirtual 36, 3) := by decide +kernel
theorem dX3_fit_109 : decode cX3_fit 109 = .ok (.aload_n 0, 1) := by decide +kernel
theorem dX3_fit_110 : decode cX3_fit 110 = .ok (.iload 4, 2) := by decide +kernel
theorem dX3_fit_112 : decode cX3_fit 112 = .ok (.sipush 134, 3) := by decide +kernel
theorem dX3_fit_115 : decode cX3_fit 115 = .ok (.idiv, 1) := by decide +kernel
theorem dX3_fit_116 : decode cX3_fit 116 = .ok (.iload 4, 2) := by decide +kernel
theorem dX3_fit_118 : decode cX3_fit 118 = .ok (.sipush 134, 3) := by decide +kernel
theorem dX3_fit_121 : decode cX3_fit 121 = .ok (.irem, 1) := by decide +kernel
theorem dX3_fit_122 : decode cX3_fit 122 = .ok (.invokevirtual 54, 3) := by decide +kernel
theorem dX3_fit_125 : decode cX3_fit 125 = .ok (.ifCond .ne 5, 3) := by decide +kernel
theorem dX3_fit_128 : decode cX3_fit 128 = .ok (.iconst 0, 1) := by decide +kernel
theorem dX3_fit_129 : decode cX3_fit 129 = .ok (.ireturn, 1) := by decide +kernel
theorem dX3_fit_130 : decode cX3_fit 130 = .ok (.iinc 3 1, 3) := by decide +kernel
theorem dX3_fit_133 : decode cX3_fit 133 = .ok (.goto (-75), 3) := by decide +kernel
theorem dX3_fit_136 : decode cX3_fit 136 = .ok (.iconst 1, 1) := by decide +kernel
theorem dX3_fit_137 : decode cX3_fit 137 = .ok (.ireturn, 1) := by decide +kernel
theorem dX3_ask_0 : decode cX3_ask 0 = .ok (.iload_n 1, 1) := by decide +kernel
theorem dX3_ask_1 : decode cX3_ask 1 = .ok (.sipush 134, 3) := by decide +kernel
theorem dX3_ask_4 : decode cX3_ask 4 = .ok (.imul, 1) := by decide +kernel
theorem dX3_ask_5 : decode cX3_ask 5 = .ok (.iload_n 2, 1) := by decide +kernel
theorem dX3_ask_6 : decode cX3_ask 6 = .ok (.iadd, 1) := by decide +kernel
theorem dX3_ask_7 : decode cX3_ask 7 = .ok (.istore_n 3, 1) := by decide +kernel
theorem dX3_ask_8 : decode cX3_ask 8 = .ok (.aload_n 0, 1) := by decide +kernel
theorem dX3_ask_9 : decode cX3_ask 9 = .ok (.getfield 18, 3) := by decide +kernel
theorem dX3_ask_12 : decode cX3_ask 12 = .ok (.iload_n 3, 1) := by decide +kernel
theorem dX3_ask_13 : decode cX3_ask 13 = .ok (.invokevirtual 50, 3) := by decide +kernel
theorem dX3_ask_16 : decode cX3_ask 16 = .ok (.aload_n 0, 1) := by decide +kernel
theorem dX3_ask_17 : decode cX3_ask 17 = .ok (.getfield 32, 3) := by decide +kernel
theorem dX3_ask_20 : decode cX3_ask 20 = .ok (.if_icmp .eq 24, 3) := by decide +kernel
theorem dX3_ask_23 : decode cX3_ask 23 = .ok (.aload_n 0, 1) := by decide +kernel
theorem dX3_ask_24 : decode cX3_ask 24 = .ok (.getfield 18, 3) := by decide +kernel
theorem dX3_ask_27 : decode cX3_ask 27 = .ok (.iload_n 3, 1) := by decide +kernel
theorem dX3_ask_28 : decode cX3_ask 28 = .ok (.aload_n 0, 1) := by decide +kernel
theorem dX3_ask_29 : decode cX3_ask 29 = .ok (.getfield 32, 3) := by decide +kernel
theorem dX3_ask_32 : decode cX3_ask 32 = .ok (.invokevirtual 58, 3) := by decide +kernel
theorem dX3_ask_35 : decode cX3_ask 35 = .ok (.aload_n 0, 1) := by decide +kernel
theorem dX3_ask_36 : decode cX3_ask 36 = .ok (.getfield 22, 3) := by decide +kernel
theorem dX3_ask_39 : decode cX3_ask 39 = .ok (.iload_n 3, 1) := by decide +kernel
theorem dX3_ask_40 : decode cX3_ask 40 = .ok (.invokevirtual 61, 3) := by decide +kernel
theorem dX3_ask_43 : decode cX3_ask 43 = .ok (.pop, 1) := by decide +kernel
theorem dX3_ask_44 : decode cX3_ask 44 = .ok (.return_, 1) := by decide +kernel
theorem dX3_fitBySelves_0 : decode cX3_fitBySelves 0 = .ok (.aload_n 0, 1) := by decide +kernel
theorem dX3_fitBySelves_1 : decode cX3_fitBySelves 1 = .ok (.getfield 25, 3) := by decide +kernel
theorem dX3_fitBySelves_4 : decode cX3_fitBySelves 4 = .ok (.iload_n 1, 1) := by decide +kernel
theorem dX3_fitBySelves_5 : decode cX3_fitBySelves 5 = .ok (.invokevirtual 65, 3) := by decide +kernel
theorem dX3_fitBySelves_8 : decode cX3_fitBySelves 8 = .ok (.istore_n 3, 1) := by decide +kernel
theorem dX3_fitBySelves_9 : decode cX3_fitBySelves 9 = .ok (.iload_n 3, 1) := by decide +kernel
theorem dX3_fitBySelves_10 : decode cX3_fitBySelves 10 = .ok (.bipush 8, 2) := by decide +kernel
theorem dX3_fitBySelves_12 : decode cX3_fitBySelves 12 = .ok (.if_icmp .ne 42, 3) := by decide +kernel
theorem dX3_fitBySelves_15 : decode cX3_fitBySelves 15 = .ok (.iconst 0, 1) := by decide +kernel
theorem dX3_fitBySelves_16 : decode cX3_fitBySelves 16 = .ok (.istore 4, 2) := by decide +kernel
theorem dX3_fitBySelves_18 : decode cX3_fitBySelves 18 = .ok (.iload 4, 2) := by decide +kernel
theorem dX3_fitBySelves_20 : decode cX3_fitBySelves 20 = .ok (.aload_n 0, 1) := by decide +kernel
theorem dX3_fitBySelves_21 : decode cX3_fitBySelves 21 = .ok (.getfield 25, 3) := by decide +kernel
theorem dX3_fitBySelves_24 : decode cX3_fitBySelves 24 = .ok (.iload_n 1, 1) := by decide +kernel
theorem dX3_fitBySelves_25 : decode cX3_fitBySelves 25 = .ok (.invokevirtual 68, 3) := by decide +kernel
theorem dX3_fitBySelves_28 : decode cX3_fitBySelves 28 = .ok (.if_icmp .ge 24, 3) := by decide +kernel
theorem dX3_fitBySelves_31 : decode cX3_fitBySelves 31 = .ok (.aload_n 0, 1) := by decide +kernel
theorem dX3_fitBySelves_32 : decode cX3_fitBySelves 32 = .ok (.aload_n 0, 1) := by decide +kernel
theorem dX3_fitBySelves_33 : decode cX3_fitBySelves 33 = .ok (.getfield 25, 3) := by decide +kernel
theorem dX3_fitBySelves_36 : decode cX3_fitBySelves 36 = .ok (.iload_n 1, 1) := by decide +kernel
theorem dX3_fitBySelves_37 : decode cX3_fitBySelves 37 = .ok (.iload 4, 2) := by decide +kernel
theorem dX3_fitBySelves_39 : decode cX3_fitBySelves 39 = .ok (.invokevirtual 71, 3) := by decide +kernel
theorem dX3_fitBySelves_42 : decode cX3_fitBySelves 42 = .ok (.iload_n 2, 1) := by decide +kernel
theorem dX3_fitBySelves_43 : decode cX3_fitBySelves 43 = .ok (.invokevirtual 43, 3) := by decide +kernel
theorem dX3_fitBySelves_46 : decode cX3_fitBySelves 46 = .ok (.iinc 4 1, 3) := by decide +kernel
theorem dX3_fitBySelves_49 : decode cX3_fitBySelves 49 = .ok (.goto (-31), 3) := by decide +kernel
theorem dX3_fitBySelves_52 : decode cX3_fitBySelves 52 = .ok (.iconst 1, 1) := by decide +kernel
theorem dX3_fitBySelves_53 : decode cX3_fitBySelves 53 = .ok (.ireturn, 1) := by decide +kernel
theorem dX3_fitBySelves_54 : decode cX3_fitBySelves 54 = .ok (.aload_n 0, 1) := by decide +kernel
theorem dX3_fitBySelves_55 : decode cX3_fitBySelves 55 = .ok (.getfield 29, 3) := by decide +kernel
theorem dX3_fitBySelves_58 : decode cX3_fitBySelves 58 = .ok (.iload_n 2, 1) := by decide +kernel
theorem dX3_fitBySelves_59 : decode cX3_fitBySelves 59 = .ok (.invokevirtual 65, 3) := by decide +kernel
theorem dX3_fitBySelves_62 : decode cX3_fitBySelves 62 = .ok (.bipush 8, 2) := by decide +kernel
theorem dX3_fitBySelves_64 : decode cX3_fitBySelves 64 = .ok (.if_icmp .ne 51, 3) := by decide +kernel
theorem dX3_fitBySelves_67 : decode cX3_fitBySelves 67 = .ok (.aload_n 0, 1) := by decide +kernel
theorem dX3_fitBySelves_68 : decode cX3_fitBySelves 68 = .ok (.getfield 25, 3) := by decide +kernel
theorem dX3_fitBySelves_71 : decode cX3_fitBySelves 71 = .ok (.iload_n 1, 1) := by decide +kernel
theorem dX3_fitBySelves_72 : decode cX3_fitBySelves 72 = .ok (.aload_n 0, 1) := by decide +kernel
theorem dX3_fitBySelves_73 : decode cX3_fitBySelves 73 = .ok (.getfield 29, 3) := by decide +kernel
theorem dX3_fitBySelves_76 : decode cX3_fitBySelves 76 = .ok (.iload_n 2, 1) := by decide +kernel
theorem dX3_fitBySelves_77 : decode cX3_fitBySelves 77 = .ok (.invokestatic 75, 3) := by decide +kernel
theorem dX3_fitBySelves_80 : decode cX3_fitBySelves 80 = .ok (.istore 4, 2) := by decide +kernel
theorem dX3_fitBySelves_82 : decode cX3_fitBySelves 82 = .ok (.iload 4, 2) := by decide +kernel
theorem dX3_fitBySelves_84 : decode cX3_fitBySelves 84 = .ok (.iconst (-1), 1) := by decide +kernel
theorem dX3_fitBySelves_85 : decode cX3_fitBySelves 85 = .ok (.if_icmp .eq 18, 3) := by decide +kernel
theorem dX3_fitBySelves_88 : decode cX3_fitBySelves 88 = .ok (.aload_n 0, 1) := by decide +kernel
theorem dX3_fitBySelves_89 : decode cX3_fitBySelves 89 = .ok (.iload_n 1, 1) := by decide +kernel
theorem dX3_fitBySelves_90 : decode cX3_fitBySelves 90 = .ok (.aload_n 0, 1) := by decide +kernel
theorem dX3_fitBySelves_91 : decode cX3_fitBySelves 91 = .ok (.getfield 29, 3) := by decide +kernel
theorem dX3_fitBySelves_94 : decode cX3_fitBySelves 94 = .ok (.iload_n 2, 1) := by decide +kernel
theorem dX3_fitBySelves_95 : decode cX3_fitBySelves 95 = .ok (.iload 4, 2) := by decide +kernel
theorem dX3_fitBySelves_97 : decode cX3_fitBySelves 97 = .ok (.invokevirtual 71, 3) := by decide +kernel
theorem dX3_fitBySelves_100 : decode cX3_fitBySelves 100 = .ok (.invokevirtual 43, 3) := by decide +kernel
theorem dX3_fitBySelves_103 : decode cX3_fitBySelves 103 = .ok (.iload 4, 2) := by decide +kernel
theorem dX3_fitBySelves_105 : decode cX3_fitBySelves 105 = .ok (.iconst (-1), 1) := by decide +kernel
theorem dX3_fitBySelves_106 : decode cX3_fitBySelves 106 = .ok (.if_icmp .eq 7, 3) := by decide +kernel
theorem dX3_fitBySelves_109 : decode cX3_fitBySelves 109 = .ok (.iconst 1, 1) := by decide +kernel
theorem dX3_fitBySelves_110 : decode cX3_fitBySelves 110 = .ok (.goto 4, 3) := by decide +kernel
theorem dX3_fitBySelves_113 : decode cX3_fitBySelves 113 = .ok (.iconst 0, 1) := by decide +kernel
theorem dX3_fitBySelves_114 : decode cX3_fitBySelves 114 = .ok (.ireturn, 1) := by decide +kernel
theorem dX3_fitBySelves_115 : decode cX3_fitBySelves 115 = .ok (.iload_n 3, 1) := by decide +kernel
theorem dX3_fitBySelves_116 : decode cX3_fitBySelves 116 = .ok (.bipush 6, 2) := by decide +kernel
theorem dX3_fitBySelves_118 : decode cX3_fitBySelves 118 = .ok (.if_icmp .eq 9, 3) := by decide +kernel
theorem dX3_fitBySelves_121 : decode cX3_fitBySelves 121 = .ok (.iload_n 3, 1) := by decide +kernel
theorem dX3_fitBySelves_122 : decode cX3_fitBySelves 122 = .ok (.bipush 7, 2) := by decide +kernel
theorem dX3_fitBySelves_124 : decode cX3_fitBySelves 124 = .ok (.if_icmp .ne 53, 3) := by decide +kernel
theorem dX3_fitBySelves_127 : decode cX3_fitBySelves 127 = .ok (.aload_n 0, 1) := by decide +kernel
theorem dX3_fitBySelves_128 : decode cX3_fitBySelves 128 = .ok (.getfield 29, 3) := by decide +kernel
theorem dX3_fitBySelves_131 : decode cX3_fitBySelves 131 = .ok (.iload_n 2, 1) := by decide +kernel
theorem dX3_fitBySelves_132 : decode cX3_fitBySelves 132 = .ok (.invokevirtual 65, 3) := by decide +kernel
theorem dX3_fitBySelves_135 : decode cX3_fitBySelves 135 = .ok (.iload_n 3, 1) := by decide +kernel
theorem dX3_fitBySelves_136 : decode cX3_fitBySelves 136 = .ok (.if_icmp .ne 23, 3) := by decide +kernel
theorem dX3_fitBySelves_139 : decode cX3_fitBySelves 139 = .ok (.aload_n 0, 1) := by decide +kernel
theorem dX3_fitBySelves_140 : decode cX3_fitBySelves 140 = .ok (.aload_n 0, 1) := by decide +kernel
theorem dX3_fitBySelves_141 : decode cX3_fitBySelves 141 = .ok (.getfield 25, 3) := by decide +kernel
theorem dX3_fitBySelves_144 : decode cX3_fitBySelves 144 = .ok (.iload_n 1, 1) := by decide +kernel
theorem dX3_fitBySelves_145 : decode cX3_fitBySelves 145 = .ok (.invokevirtual 79, 3) := by decide +kernel
theorem dX3_fitBySelves_148 : decode cX3_fitBySelves 148 = .ok (.aload_n 0, 1) := by decide +kernel
theorem dX3_fitBySelves_149 : decode cX3_fitBySelves 149 = .ok (.getfield 29, 3) := by decide +kernel
theorem dX3_fitBySelves_152 : decode cX3_fitBySelves 152 = .ok (.iload_n 2, 1) := by decide +kernel
theorem dX3_fitBySelves_153 : decode cX3_fitBySelves 153 = .ok (.invokevirtual 79, 3) := by decide +kernel
theorem dX3_fitBySelves_156 : decode cX3_fitBySelves 156 = .ok (.invokevirtual 43, 3) := by decide +kernel
theorem dX3_fitBySelves_159 : decode cX3_fitBySelves 159 = .ok (.aload_n 0, 1) := by decide +kernel
theorem dX3_fitBySelves_160 : decode cX3_fitBySelves 160 = .ok (.getfield 29, 3) := by decide +kernel
theorem dX3_fitBySelves_163 : decode cX3_fitBySelves 163 = .ok (.iload_n 2, 1) := by decide +kernel
theorem dX3_fitBySelves_164 : decode cX3_fitBySelves 164 = .ok (.invokevirtual 65, 3) := by decide +kernel
theorem dX3_fitBySelves_167 : decode cX3_fitBySelves 167 = .ok (.iload_n 3, 1) := by decide +kernel
theorem dX3_fitBySelves_168 : decode cX3_fitBySelves 168 = .ok (.if_icmp .ne 7, 3) := by decide +kernel
theorem dX3_fitBySelves_171 : decode cX3_fitBySelves 171 = .ok (.iconst 1, 1) := by decide +kernel
theorem dX3_fitBySelves_172 : decode cX3_fitBySelves 172 = .ok (.goto 4, 3) := by decide +kernel
theorem dX3_fitBySelves_175 : decode cX3_fitBySelves 175 = .ok (.iconst 0, 1) := by decide +kernel
theorem dX3_fitBySelves_176 : decode cX3_fitBySelves 176 = .ok (.ireturn, 1) := by decide +kernel
theorem dX3_fitBySelves_177 : decode cX3_fitBySelves 177 = .ok (.aload_n 0, 1) := by decide +kernel
theorem dX3_fitBySelves_178 : decode cX3_fitBySelves 178 = .ok (.getfield 25, 3) := by decide +kernel
theorem dX3_fitBySelves_181 : decode cX3_fitBySelves 181 = .ok (.iload_n 1, 1) := by decide +kernel
theorem dX3_fitBySelves_182 : decode cX3_fitBySelves 182 = .ok (.aload_n 0, 1) := by decide +kernel
theorem dX3_fitBySelves_183 : decode cX3_fitBySelves 183 = .ok (.getfield 29, 3) := by decide +kernel
theorem dX3_fitBySelves_186 : decode cX3_fitBySelves 186 = .ok (.iload_n 2, 1) := by decide +kernel
theorem dX3_fitBySelves_187 : decode cX3_fitBySelves 187 = .ok (.invokestatic 82, 3) := by decide +kernel
theorem dX3_fitBySelves_190 : decode cX3_fitBySelves 190 = .ok (.ifCond .ne 5, 3) := by decide +kernel
theorem dX3_fitBySelves_193 : decode cX3_fitBySelves 193 = .ok (.iconst 0, 1) := by decide +kernel
theorem dX3_fitBySelves_194 : decode cX3_fitBySelves 194 = .ok (.ireturn, 1) := by decide +kernel
theorem dX3_fitBySelves_195 : decode cX3_fitBySelves 195 = .ok (.iload_n 3, 1) := by decide +kernel
theorem dX3_fitBySelves_196 : decode cX3_fitBySelves 196 = .ok (.bipush 10, 2) := by decide +kernel
theorem dX3_fitBySelves_198 : decode cX3_fitBySelves 198 = .ok (.if_icmp .ne 30, 3) := by decide +kernel
theorem dX3_fitBySelves_201 : decode cX3_fitBySelves 201 = .ok (.aload_n 0, 1) := by decide +kernel
theorem dX3_fitBySelves_202 : decode cX3_fitBySelves 202 = .ok (.getfield 29, 3) := by decide +kernel
theorem dX3_fitBySelves_205 : decode cX3_fitBySelves 205 = .ok (.iload_n 2, 1) := by decide +kernel
theorem dX3_fitBySelves_206 : decode cX3_fitBySelves 206 = .ok (.invokevirtual 86, 3) := by decide +kernel
theorem dX3_fitBySelves_209 : decode cX3_fitBySelves 209 = .ok (.iconst (-1), 1) := by decide +kernel
theorem dX3_fitBySelves_210 : decode cX3_fitBySelves 210 = .ok (.if_icmp .ne 12, 3) := by decide +kernel
theorem dX3_fitBySelves_213 : decode cX3_fitBySelves 213 = .ok (.aload_n 0, 1) := by decide +kernel
theorem dX3_fitBySelves_214 : decode cX3_fitBySelves 214 = .ok (.iload_n 1, 1) := by decide +kernel
theorem dX3_fitBySelves_215 : decode cX3_fitBySelves 215 = .ok (.iload_n 2, 1) := by decide +kernel
theorem dX3_fitBySelves_216 : decode cX3_fitBySelves 216 = .ok (.invokevirtual 89, 3) := by decide +kernel
theorem dX3_fitBySelves_219 : decode cX3_fitBySelves 219 = .ok (.ifCond .eq 7, 3) := by decide +kernel
theorem dX3_fitBySelves_222 : decode cX3_fitBySelves 222 = .ok (.iconst 1, 1) := by decide +kernel
theorem dX3_fitBySelves_223 : decode cX3_fitBySelves 223 = .ok (.goto 4, 3) := by decide +kernel
theorem dX3_fitBySelves_226 : decode cX3_fitBySelves 226 = .ok (.iconst 0, 1) := by decide +kernel
theorem dX3_fitBySelves_227 : decode cX3_fitBySelves 227 = .ok (.ireturn, 1) := by decide +kernel
theorem dX3_fitBySelves_228 : decode cX3_fitBySelves 228 = .ok (.iload_n 3, 1) := by decide +kernel
theorem dX3_fitBySelves_229 : decode cX3_fitBySelves 229 = .ok (.bipush 11, 2) := by decide +kernel
theorem dX3_fitBySelves_231 : decode cX3_fitBySelves 231 = .ok (.if_icmp .ne 12, 3) := by decide +kernel
theorem dX3_fitBySelves_234 : decode cX3_fitBySelves 234 = .ok (.aload_n 0, 1) := by decide +kernel
theorem dX3_fitBySelves_235 : decode cX3_fitBySelves 235 = .ok (.iload_n 1, 1) := by decide +kernel
theorem dX3_fitBySelves_236 : decode cX3_fitBySelves 236 = .ok (.iload_n 2, 1) := by decide +kernel
theorem dX3_fitBySelves_237 : decode cX3_fitBySelves 237 = .ok (.invokevirtual 92, 3) := by decide +kernel
theorem dX3_fitBySelves_240 : decode cX3_fitBySelves 240 = .ok (.ifCond .eq 7, 3) := by decide +kernel
theorem dX3_fitBySelves_243 : decode cX3_fitBySelves 243 = .ok (.iconst 1, 1) := by decide +kernel
theorem dX3_fitBySelves_244 : decode cX3_fitBySelves 244 = .ok (.goto 4, 3) := by decide +kernel
theorem dX3_fitBySelves_247 : decode cX3_fitBySelves 247 = .ok (.iconst 0, 1) := by decide +kernel
theorem dX3_fitBySelves_248 : decode cX3_fitBySelves 248 = .ok (.ireturn, 1) := by decide +kernel
theorem dX3_hasAllSymbols_0 : decode cX3_hasAllSymbols 0 = .ok (.iconst 0, 1) := by decide +kernel
theorem dX3_hasAllSymbols_1 : decode cX3_hasAllSymbols 1 = .ok (.istore_n 3, 1) := by decide +kernel
theorem dX3_hasAllSymbols_2 : decode cX3_hasAllSymbols 2 = .ok (.iload_n 3, 1) := by decide +kernel
theorem dX3_hasAllSymbols_3 : decode cX3_hasAllSymbols 3 = .ok (.aload_n 0, 1) := by decide +kernel
theorem dX3_hasAllSymbols_4 : decode cX3_hasAllSymbols 4 = .ok (.getfield 25, 3) := by decide +kernel
theorem dX3_hasAllSymbols_7 : decode cX3_hasAllSymbols 7 = .ok (.iload_n 1, 1) := by decide +kernel
theorem dX3_hasAllSymbols_8 : decode cX3_hasAllSymbols 8 = .ok (.invokevirtual 68, 3) := by decide +kernel
theorem dX3_hasAllSymbols_11 : decode cX3_hasAllSymbols 11 = .ok (.if_icmp .ge 46, 3) := by decide +kernel
theorem dX3_hasAllSymbols_14 : decode cX3_hasAllSymbols 14 = .ok (.aload_n 0, 1) := by decide +kernel
theorem dX3_hasAllSymbols_15 : decode cX3_hasAllSymbols 15 = .ok (.getfield 29, 3) := by decide +kernel
theorem dX3_hasAllSymbols_18 : decode cX3_hasAllSymbols 18 = .ok (.iload_n 2, 1) := by decide +kernel
theorem dX3_hasAllSymbols_19 : decode cX3_hasAllSymbols 19 = .ok (.aload_n 0, 1) := by decide +kernel
theorem dX3_hasAllSymbols_20 : decode cX3_hasAllSymbols 20 = .ok (.getfield 25, 3) := by decide +kernel
theorem dX3_hasAllSymbols_23 : decode cX3_hasAllSymbols 23 = .ok (.invokevirtual 95, 3) := by decide +kernel
theorem dX3_hasAllSymbols_26 : decode cX3_hasAllSymbols 26 = .ok (.aload_n 0, 1) := by decide +kernel
theorem dX3_hasAllSymbols_27 : decode cX3_hasAllSymbols 27 = .ok (.getfield 25, 3) := by decide +kernel
theorem dX3_hasAllSymbols_30 : decode cX3_hasAllSymbols 30 = .ok (.aload_n 0, 1) := by decide +kernel
theorem dX3_hasAllSymbols_31 : decode cX3_hasAllSymbols 31 = .ok (.getfield 25, 3) := by decide +kernel
theorem dX3_hasAllSymbols_34 : decode cX3_hasAllSymbols 34 = .ok (.iload_n 1, 1) := by decide +kernel
theorem dX3_hasAllSymbols_35 : decode cX3_hasAllSymbols 35 = .ok (.iload_n 3, 1) := by decide +kernel
theorem dX3_hasAllSymbols_36 : decode cX3_hasAllSymbols 36 = .ok (.invokevirtual 99, 3) := by decide +kernel
theorem dX3_hasAllSymbols_39 : decode cX3_hasAllSymbols 39 = .ok (.invokevirtual 102, 3) := by decide +kernel
theorem dX3_hasAllSymbols_42 : decode cX3_hasAllSymbols 42 = .ok (.invokevirtual 105, 3) := by decide +kernel
theorem dX3_hasAllSymbols_45 : decode cX3_hasAllSymbols 45 = .ok (.iconst (-1), 1) := by decide +kernel
theorem dX3_hasAllSymbols_46 : decode cX3_hasAllSymbols 46 = .ok (.if_icmp .ne 5, 3) := by decide +kernel
theorem dX3_hasAllSymbols_49 : decode cX3_hasAllSymbols 49 = .ok (.iconst 0, 1) := by decide +kernel
theorem dX3_hasAllSymbols_50 : decode cX3_hasAllSymbols 50 = .ok (.ireturn, 1) := by decide +kernel
theorem dX3_hasAllSymbols_51 : decode cX3_hasAllSymbols 51 = .ok (.iinc 3 1, 3) := by decide +kernel
theorem dX3_hasAllSymbols_54 : decode cX3_hasAllSymbols 54 = .ok (.goto (-52), 3) := by decide +kernel
theorem dX3_hasAllSymbols_57 : decode cX3_hasAllSymbols 57 = .ok (.iconst 1, 1) := by decide +kernel
theorem dX3_hasAllSymbols_58 : decode cX3_hasAllSymbols 58 = .ok (.ireturn, 1) := by decide +kernel
theorem dX3_fitFields_0 : decode cX3_fitFields 0 = .ok (.iconst 0, 1) := by decide +kernel
theorem dX3_fitFields_1 : decode cX3_fitFields 1 = .ok (.istore_n 3, 1) := by decide +kernel
theorem dX3_fitFields_2 : decode cX3_fitFields 2 = .ok (.iload_n 3, 1) := by decide +kernel
theorem dX3_fitFields_3 : decode cX3_fitFields 3 = .ok (.aload_n 0, 1) := by decide +kernel
theorem dX3_fitFields_4 : decode cX3_fitFields 4 = .ok (.getfield 29, 3) := by decide +kernel
theorem dX3_fitFields_7 : decode cX3_fitFields 7 = .ok (.iload_n 2, 1) := by decide +kernel
theorem dX3_fitFields_8 : decode cX3_fitFields 8 = .ok (.invokevirtual 68, 3) := by decide +kernel
theorem dX3_fitFields_11 : decode cX3_fitFields 11 = .ok (.if_icmp .ge 99, 3) := by decide +kernel
theorem dX3_fitFields_14 : decode cX3_fitFields 14 = .ok (.aload_n 0, 1) := by decide +kernel
theorem dX3_fitFields_15 : decode cX3_fitFields 15 = .ok (.getfield 29, 3) := by decide +kernel
theorem dX3_fitFields_18 : decode cX3_fitFields 18 = .ok (.iload_n 2, 1) := by decide +kernel
theorem dX3_fitFields_19 : decode cX3_fitFields 19 = .ok (.iload_n 3, 1) := by decide +kernel
theorem dX3_fitFields_20 : decode cX3_fitFields 20 = .ok (.invokevirtual 99, 3) := by decide +kernel
theorem dX3_fitFields_23 : decode cX3_fitFields 23 = .ok (.istore 4, 2) := by decide +kernel
theorem dX3_fitFields_25 : decode cX3_fitFields 25 = .ok (.aload_n 0, 1) := by decide +kernel
theorem dX3_fitFields_26 : decode cX3_fitFields 26 = .ok (.getfield 25, 3) := by decide +kernel
theorem dX3_fitFields_29 : decode cX3_fitFields 29 = .ok (.iload_n 1, 1) := by decide +kernel
theorem dX3_fitFields_30 : decode cX3_fitFields 30 = .ok (.aload_n 0, 1) := by decide +kernel
theorem dX3_fitFields_31 : decode cX3_fitFields 31 = .ok (.getfield 29, 3) := by decide +kernel
theorem dX3_fitFields_34 : decode cX3_fitFields 34 = .ok (.invokevirtual 95, 3) := by decide +kernel
theorem dX3_fitFields_37 : decode cX3_fitFields 37 = .ok (.aload_n 0, 1) := by decide +kernel
theorem dX3_fitFields_38 : decode cX3_fitFields 38 = .ok (.getfield 29, 3) := by decide +kernel
theorem dX3_fitFields_41 : decode cX3_fitFields 41 = .ok (.iload 4, 2) := by decide +kernel
theorem dX3_fitFields_43 : decode cX3_fitFields 43 = .ok (.invokevirtual 102, 3) := by decide +kernel
theorem dX3_fitFields_46 : decode cX3_fitFields 46 = .ok (.invokevirtual 105, 3) := by decide +kernel
theorem dX3_fitFields_49 : decode cX3_fitFields 49 = .ok (.istore 5, 2) := by decide +kernel
theorem dX3_fitFields_51 : decode cX3_fitFields 51 = .ok (.iload 5, 2) := by decide +kernel
theorem dX3_fitFields_53 : decode cX3_fitFields 53 = .ok (.iconst (-1), 1) := by decide +kernel
theorem dX3_fitFields_54 : decode cX3_fitFields 54 = .ok (.if_icmp .eq 36, 3) := by decide +kernel
theorem dX3_fitFields_57 : decode cX3_fitFields 57 = .ok (.aload_n 0, 1) := by decide +kernel
theorem dX3_fitFields_58 : decode cX3_fitFields 58 = .ok (.aload_n 0, 1) := by decide +kernel
theorem dX3_fitFields_59 : decode cX3_fitFields 59 = .ok (.getfield 25, 3) := by decide +kernel
theorem dX3_fitFields_62 : decode cX3_fitFields 62 = .ok (.aload_n 0, 1) := by decide +kernel
theorem dX3_fitFields_63 : decode cX3_fitFields 63 = .ok (.getfield 25, 3) := by decide +kernel
theorem dX3_fitFields_66 : decode cX3_fitFields 66 = .ok (.iload_n 1, 1) := by decide +kernel
theorem dX3_fitFields_67 : decode cX3_fitFields 67 = .ok (.iload 5, 2) := by decide +kernel
theorem dX3_fitFields_69 : decode cX3_fitFields 69 = .ok (.invokevirtual 99, 3) := by decide +kernel
theorem dX3_fitFields_72 : decode cX3_fitFields 72 = .ok (.invokevirtual 109, 3) := by decide +kernel
theorem dX3_fitFields_75 : decode cX3_fitFields 75 = .ok (.aload_n 0, 1) := by decide +kernel
theorem dX3_fitFields_76 : decode cX3_fitFields 76 = .ok (.getfield 29, 3) := by decide +kernel
theorem dX3_fitFields_79 : decode cX3_fitFields 79 = .ok (.iload 4, 2) := by decide +kernel
theorem dX3_fitFields_81 : decode cX3_fitFields 81 = .ok (.invokevirtual 109, 3) := by decide +kernel
theorem dX3_fitFields_84 : decode cX3_fitFields 84 = .ok (.invokevirtual 43, 3) := by decide +kernel
theorem dX3_fitFields_87 : decode cX3_fitFields 87 = .ok (.goto 17, 3) := by decide +kernel
theorem dX3_fitFields_90 : decode cX3_fitFields 90 = .ok (.aload_n 0, 1) := by decide +kernel
theorem dX3_fitFields_91 : decode cX3_fitFields 91 = .ok (.getfield 29, 3) := by decide +kernel
theorem dX3_fitFields_94 : decode cX3_fitFields 94 = .ok (.iload 4, 2) := by decide +kernel
theorem dX3_fitFields_96 : decode cX3_fitFields 96 = .ok (.invokevirtual 112, 3) := by decide +kernel
theorem dX3_fitFields_99 : decode cX3_fitFields 99 = .ok (.ifCond .ne 5, 3) := by decide +kernel
theorem dX3_fitFields_102 : decode cX3_fitFields 102 = .ok (.iconst 0, 1) := by decide +kernel
theorem dX3_fitFields_103 : decode cX3_fitFields 103 = .ok (.ireturn, 1) := by decide +kernel
theorem dX3_fitFields_104 : decode cX3_fitFields 104 = .ok (.iinc 3 1, 3) := by decide +kernel
theorem dX3_fitFields_107 : decode cX3_fitFields 107 = .ok (.goto (-105), 3) := by decide +kernel
theorem dX3_fitFields_110 : decode cX3_fitFields 110 = .ok (.iconst 1, 1) := by decide +kernel
theorem dX3_fitFields_111 : decode cX3_fitFields 111 = .ok (.ireturn, 1) := by decide +kernel
theorem dX4_init_0 : decode cX4_init 0 = .ok (.aload_n 0, 1) := by decide +kernel
theorem dX4_init_1 : decode cX4_init 1 = .ok (.invokespecial 3, 3) := by decide +kernel
theorem dX4_init_4 : decode cX4_init 4 = .ok (.aload_n 0, 1) := by decide +kernel
theorem dX4_init_5 : decode cX4_init 5 = .ok (.iconst (-1), 1) := by decide +kernel
theorem dX4_init_6 : decode cX4_init 6 = .ok (.putfield 9, 3) := by decide +kernel
theorem dX4_init_9 : decode cX4_init 9 = .ok (.return_, 1) := by decide +kernel
theorem dX4_lookAtRows_0 : decode cX4_lookAtRows 0 = .ok (.aload_n 0, 1) := by decide +kernel
theorem dX4_lookAtRows_1 : decode cX4_lookAtRows 1 = .ok (.iconst (-1), 1) := by decide +kernel
theorem dX4_lookAtRows_2 : decode cX4_lookAtRows 2 = .ok (.putfield 9, 3) := by decide +kernel
theorem dX4_lookAtRows_5 : decode cX4_lookAtRows 5 = .ok (.aload_n 0, 1) := by decide +kernel
theorem dX4_lookAtRows_6 : decode cX4_lookAtRows 6 = .ok (.iconst 0, 1) := by decide +kernel
theorem dX4_lookAtRows_7 : decode cX4_lookAtRows 7 = .ok (.putfield 15, 3) := by decide +kernel
theorem dX4_lookAtRows_10 : decode cX4_lookAtRows 10 = .ok (.aload_n 0, 1) := by decide +kernel
theorem dX4_lookAtRows_11 : decode cX4_lookAtRows 11 = .ok (.iconst 0, 1) := by decide +kernel
theorem dX4_lookAtRows_12 : decode cX4_lookAtRows 12 = .ok (.putfield 18, 3) := by decide +kernel
theorem dX4_lookAtRows_15 : decode cX4_lookAtRows 15 = .ok (.aload_n 1, 1) := by decide +kernel
theorem dX4_lookAtRows_16 : decode cX4_lookAtRows 16 = .ok (.ifnull 18, 3) := by decide +kernel
theorem dX4_lookAtRows_19 : decode cX4_lookAtRows 19 = .ok (.aload_n 2, 1) := by decide +kernel
theorem dX4_lookAtRows_20 : decode cX4_lookAtRows 20 = .ok (.ifnull 14, 3) := by decide +kernel
theorem dX4_lookAtRows_23 : decode cX4_lookAtRows 23 = .ok (.aload_n 3, 1) := by decide +kernel
theorem dX4_lookAtRows_24 : decode cX4_lookAtRows 24 = .ok (.ifnull 10, 3) := by decide +kernel
theorem dX4_lookAtRows_27 : decode cX4_lookAtRows 27 = .ok (.aload_n 1, 1) := by decide +kernel
theorem dX4_lookAtRows_28 : decode cX4_lookAtRows 28 = .ok (.invokevirtual 21, 3) := by decide +kernel
theorem dX4_lookAtRows_31 : decode cX4_lookAtRows 31 = .ok (.ifCond .ne 6, 3) := by decide +kernel
theorem dX4_lookAtRows_34 : decode cX4_lookAtRows 34 = .ok (.bipush (-34), 2) := by decide +kernel
theorem dX4_lookAtRows_36 : decode cX4_lookAtRows 36 = .ok (.ireturn, 1) := by decide +kernel
theorem dX4_lookAtRows_37 : decode cX4_lookAtRows 37 = .ok (.aload_n 0, 1) := by decide +kernel
theorem dX4_lookAtRows_38 : decode cX4_lookAtRows 38 = .ok (.aload_n 1, 1) := by decide +kernel
theorem dX4_lookAtRows_39 : decode cX4_lookAtRows 39 = .ok (.putfield 27, 3) := by decide +kernel
theorem dX4_lookAtRows_42 : decode cX4_lookAtRows 42 = .ok (.aload_n 0, 1) := by decide +kernel
theorem dX4_lookAtRows_43 : decode cX4_lookAtRows 43 = .ok (.aload_n 2, 1) := by decide +kernel
theorem dX4_lookAtRows_44 : decode cX4_lookAtRows 44 = .ok (.putfield 31, 3) := by decide +kernel
theorem dX4_lookAtRows_47 : decode cX4_lookAtRows 47 = .ok (.aload_n 0, 1) := by decide +kernel
theorem dX4_lookAtRows_48 : decode cX4_lookAtRows 48 = .ok (.aload_n 3, 1) := by decide +kernel
theorem dX4_lookAtRows_49 : decode cX4_lookAtRows 49 = .ok (.invokevirtual 35, 3) := by decide +kernel
theorem dX4_lookAtRows_52 : decode cX4_lookAtRows 52 = .ok (.putfield 41, 3) := by decide +kernel
theorem dX4_lookAtRows_55 : decode cX4_lookAtRows 55 = .ok (.aload_n 3, 1) := by decide +kernel
theorem dX4_lookAtRows_56 : decode cX4_lookAtRows 56 = .ok (.invokevirtual 44, 3) := by decide +kernel
theorem dX4_lookAtRows_59 : decode cX4_lookAtRows 59 = .ok (.iconst 0, 1) := by decide +kernel
theorem dX4_lookAtRows_60 : decode cX4_lookAtRows 60 = .ok (.istore 4, 2) := by decide +kernel
theorem dX4_lookAtRows_62 : decode cX4_lookAtRows 62 = .ok (.iload 4, 2) := by decide +kernel
theorem dX4_lookAtRows_64 : decode cX4_lookAtRows 64 = .ok (.sipush 4096, 3) := by decide +kernel
theorem dX4_lookAtRows_67 : decode cX4_lookAtRows 67 = .ok (.if_icmp .ge 80, 3) := by decide +kernel
theorem dX4_lookAtRows_70 : decode cX4_lookAtRows 70 = .ok (.aload_n 0, 1) := by decide +kernel
theorem dX4_lookAtRows_71 : decode cX4_lookAtRows 71 = .ok (.getfield 18, 3) := by decide +kernel
theorem dX4_lookAtRows_74 : decode cX4_lookAtRows 74 = .ok (.aload_n 0, 1) := by decide +kernel
theorem dX4_lookAtRows_75 : decode cX4_lookAtRows 75 = .ok (.getfield 27, 3) := by decide +kernel
theorem dX4_lookAtRows_78 : decode cX4_lookAtRows 78 = .ok (.invokevirtual 21, 3) := by decide +kernel
theorem dX4_lookAtRows_81 : decode cX4_lookAtRows 81 = .ok (.if_icmp .ge 66, 3) := by decide +kernel
theorem dX4_lookAtRows_84 : decode cX4_lookAtRows 84 = .ok (.aload_n 0, 1) := by decide +kernel
theorem dX4_lookAtRows_85 : decode cX4_lookAtRows 85 = .ok (.getfield 18, 3) := by decide +kernel
theorem dX4_lookAtRows_88 : decode cX4_lookAtRows 88 = .ok (.istore 5, 2) := by decide +kernel
theorem dX4_lookAtRows_90 : decode cX4_lookAtRows 90 = .ok (.aload_n 0, 1) := by decide +kernel
theorem dX4_lookAtRows_91 : decode cX4_lookAtRows 91 = .ok (.iconst 0, 1) := by decide +kernel
theorem dX4_lookAtRows_92 : decode cX4_lookAtRows 92 = .ok (.putfield 47, 3) := by decide +kernel
theorem dX4_lookAtRows_95 : decode cX4_lookAtRows 95 = .ok (.aload_n 0, 1) := by decide +kernel
theorem dX4_lookAtRows_96 : decode cX4_lookAtRows 96 = .ok (.iconst 0, 1) := by decide +kernel
theorem dX4_lookAtRows_97 : decode cX4_lookAtRows 97 = .ok (.putfield 50, 3) := by decide +kernel
theorem dX4_lookAtRows_100 : decode cX4_lookAtRows 100 = .ok (.aload_n 3, 1) := by decide +kernel
theorem dX4_lookAtRows_101 : decode cX4_lookAtRows 101 = .ok (.invokevirtual 53, 3) := by decide +kernel
theorem dX4_lookAtRows_104 : decode cX4_lookAtRows 104 = .ok (.aload_n 0, 1) := by decide +kernel
theorem dX4_lookAtRows_105 : decode cX4_lookAtRows 105 = .ok (.aload_n 0, 1) := by decide +kernel
theorem dX4_lookAtRows_106 : decode cX4_lookAtRows 106 = .ok (.getfield 31, 3) := by decide +kernel
theorem dX4_lookAtRows_109 : decode cX4_lookAtRows 109 = .ok (.invokevirtual 56, 3) := by decide +kernel
theorem dX4_lookAtRows_112 : decode cX4_lookAtRows 112 = .ok (.iconst 0, 1) := by decide +kernel
theorem dX4_lookAtRows_113 : decode cX4_lookAtRows 113 = .ok (.invokevirtual 61, 3) := by decide +kernel
theorem dX4_lookAtRows_116 : decode cX4_lookAtRows 116 = .ok (.aload_n 0, 1) := by decide +kernel
theorem dX4_lookAtRows_117 : decode cX4_lookAtRows 117 = .ok (.getfield 15, 3) := by decide +kernel
theorem dX4_lookAtRows_120 : decode cX4_lookAtRows 120 = .ok (.ifCond .eq 9, 3) := by decide +kernel
theorem dX4_lookAtRows_123 : decode cX4_lookAtRows 123 = .ok (.aload_n 0, 1) := by decide +kernel
theorem dX4_lookAtRows_124 : decode cX4_lookAtRows 124 = .ok (.getfield 15, 3) := by decide +kernel
theorem dX4_lookAtRows_127 : decode cX4_lookAtRows 127 = .ok (.ineg, 1) := by decide +kernel
theorem dX4_lookAtRows_128 : decode cX4_lookAtRows 128 = .ok (.ireturn, 1) := by decide +kernel
theorem dX4_lookAtRows_129 : decode cX4_lookAtRows 129 = .ok (.aload_n 0, 1) := by decide +kernel
theorem dX4_lookAtRows_130 : decode cX4_lookAtRows 130 = .ok (.getfield 18, 3) := by decide +kernel
theorem dX4_lookAtRows_133 : decode cX4_lookAtRows 133 = .ok (.iload 5, 2) := by decide +kernel
theorem dX4_lookAtRows_135 : decode cX4_lookAtRows 135 = .ok (.if_icmp .ne 6, 3) := by decide +kernel
theorem dX4_lookAtRows_138 : decode cX4_lookAtRows 138 = .ok (.bipush (-34), 2) := by decide +kernel
theorem dX4_lookAtRows_140 : decode cX4_lookAtRows 140 = .ok (.ireturn, 1) := by decide +kernel
theorem dX4_lookAtRows_141 : decode cX4_lookAtRows 141 = .ok (.iinc 4 1, 3) := by decide +kernel
theorem dX4_lookAtRows_144 : decode cX4_lookAtRows 144 = .ok (.goto (-82), 3) := by decide +kernel
theorem dX4_lookAtRows_147 : decode cX4_lookAtRows 147 = .ok (.aload_n 3, 1) := by decide +kernel
theorem dX4_lookAtRows_148 : decode cX4_lookAtRows 148 = .ok (.invokevirtual 65, 3) := by decide +kernel
theorem dX4_lookAtRows_151 : decode cX4_lookAtRows 151 = .ok (.ireturn, 1) := by decide +kernel
theorem dX4_wrongPlace_0 : decode cX4_wrongPlace 0 = .ok (.aload_n 0, 1) := by decide +kernel
theorem dX4_wrongPlace_1 : decode cX4_wrongPlace 1 = .ok (.getfield 9, 3) := by decide +kernel
theorem dX4_wrongPlace_4 : decode cX4_wrongPlace 4 = .ok (.ireturn, 1) := by decide +kernel
theorem dX4_fail_0 : decode cX4_fail 0 = .ok (.aload_n 0, 1) := by decide +kernel
theorem dX4_fail_1 : decode cX4_fail 1 = .ok (.getfield 15, 3) := by decide +kernel
theorem dX4_fail_4 : decode cX4_fail 4 = .ok (.ifCond .ne 13, 3) := by decide +kernel
theorem dX4_fail_7 : decode cX4_fail 7 = .ok (.aload_n 0, 1) := by decide +kernel
theorem dX4_fail_8 : decode cX4_fail 8 = .ok (.iload_n 1, 1) := by decide +kernel
theorem dX4_fail_9 : decode cX4_fail 9 = .ok (.putfield 15, 3) := by decide +kernel
theorem dX4_fail_12 : decode cX4_fail 12 = .ok (.aload_n 0, 1) := by decide +kernel
theorem dX4_fail_13 : decode cX4_fail 13 = .ok (.iload_n 2, 1) := by decide +kernel
theorem dX4_fail_14 : decode cX4_fail 14 = .ok (.putfield 9, 3) := by decide +kernel
theorem dX4_fail_17 : decode cX4_fail 17 = .ok (.return_, 1) := by decide +kernel
theorem dX4_look_0 : decode cX4_look 0 = .ok (.iload_n 2, 1) := by decide +kernel
theorem dX4_look_1 : decode cX4_look 1 = .ok (.bipush 32, 2) := by decide +kernel
theorem dX4_look_3 : decode cX4_look 3 = .ok (.if_icmp .lt 14, 3) := by decide +kernel
theorem dX4_look_6 : decode cX4_look 6 = .ok (.aload_n 0, 1) := by decide +kernel
theorem dX4_look_7 : decode cX4_look 7 = .ok (.bipush 7, 2) := by decide +kernel
theorem dX4_look_9 : decode cX4_look 9 = .ok (.aload_n 0, 1) := by decide +kernel
theorem dX4_look_10 : decode cX4_look 10 = .ok (.getfield 18, 3) := by decide +kernel
theorem dX4_look_13 : decode cX4_look 13 = .ok (.invokevirtual 66, 3) := by decide +kernel
theorem dX4_look_16 : decode cX4_look 16 = .ok (.return_, 1) := by decide +kernel
theorem dX4_look_17 : decode cX4_look 17 = .ok (.aload_n 0, 1) := by decide +kernel
theorem dX4_look_18 : decode cX4_look 18 = .ok (.getfield 47, 3) := by decide +kernel
theorem dX4_look_21 : decode cX4_look 21 = .ok (.sipush 4000, 3) := by decide +kernel
theorem dX4_look_24 : decode cX4_look 24 = .ok (.if_icmp .lt 14, 3) := by decide +kernel
theorem dX4_look_27 : decode cX4_look 27 = .ok (.aload_n 0, 1) := by decide +kernel
theorem dX4_look_28 : decode cX4_look 28 = .ok (.bipush 8, 2) := by decide +kernel
theorem dX4_look_30 : decode cX4_look 30 = .ok (.aload_n 0, 1) := by decide +kernel
theorem dX4_look_31 : decode cX4_look 31 = .ok (.getfield 18, 3) := by decide +kernel
theorem dX4_look_34 : decode cX4_look 34 = .ok (.invokevirtual 66, 3) := by decide +kernel
theorem dX4_look_37 : decode cX4_look 37 = .ok (.return_, 1) := by decide +kernel
theorem dX4_look_38 : decode cX4_look 38 = .ok (.aload_n 0, 1) := by decide +kernel
theorem dX4_look_39 : decode cX4_look 39 = .ok (.dup, 1) := by decide +kernel
theorem dX4_look_40 : decode cX4_look 40 = .ok (.getfield 47, 3) := by decide +kernel
theorem dX4_look_43 : decode cX4_look 43 = .ok (.iconst 1, 1) := by decide +kernel
theorem dX4_look_44 : decode cX4_look 44 = .ok (.iadd, 1) := by decide +kernel
theorem dX4_look_45 : decode cX4_look 45 = .ok (.putfield 47, 3) := by decide +kernel
theorem dX4_look_48 : decode cX4_look 48 = .ok (.aload_n 0, 1) := by decide +kernel
theorem dX4_look_49 : decode cX4_look 49 = .ok (.getfield 31, 3) := by decide +kernel
theorem dX4_look_52 : decode cX4_look 52 = .ok (.iload_n 1, 1) := by decide +kernel
theorem dX4_look_53 : decode cX4_look 53 = .ok (.invokevirtual 69, 3) := by decide +kernel
theorem dX4_look_56 : decode cX4_look 56 = .ok (.tableswitch 135 1 11 #[60, 65, 65, 87, 87, 121, 121, 114, 92, 106, 128], 60) := by decide +kernel
theorem dX4_look_116 : decode cX4_look 116 = .ok (.aload_n 0, 1) := by decide +kernel
theorem dX4_look_117 : decode cX4_look 117 = .ok (.invokevirtual 73, 3) := by decide +kernel
theorem dX4_look_120 : decode cX4_look 120 = .ok (.return_, 1) := by decide +kernel
theorem dX4_look_121 : decode cX4_look 121 = .ok (.aload_n 0, 1) := by decide +kernel
theorem dX4_look_122 : decode cX4_look 122 = .ok (.aload_n 0, 1) := by decide +kernel
theorem dX4_look_123 : decode cX4_look 123 = .ok (.getfield 31, 3) := by decide +kernel
theorem dX4_look_126 : decode cX4_look 126 = .ok (.iload_n 1, 1) := by decide +kernel
theorem dX4_look_127 : decode cX4_look 127 = .ok (.invokevirtual 69, 3) := by decide +kernel
theorem dX4_look_130 : decode cX4_look 130 = .ok (.iconst 2, 1) := by decide +kernel
theorem dX4_look_131 : decode cX4_look 131 = .ok (.if_icmp .ne 7, 3) := by decide +kernel
theorem dX4_look_134 : decode cX4_look 134 = .ok (.iconst 1, 1) := by decide +kernel
theorem dX4_look_135 : decode cX4_look 135 = .ok (.goto 4, 3) := by decide +kernel
theorem dX4_look_138 : decode cX4_look 138 = .ok (.iconst 0, 1) := by decide +kernel
theorem dX4_look_139 : decode cX4_look 139 = .ok (.invokevirtual 76, 3) := by decide +kernel
theorem dX4_look_142 : decode cX4_look 142 = .ok (.return_, 1) := by decide +kernel
theorem dX4_look_143 : decode cX4_look 143 = .ok (.aload_n 0, 1) := by decide +kernel
theorem dX4_look_144 : decode cX4_look 144 = .ok (.invokevirtual 80, 3) := by decide +kernel
theorem dX4_look_147 : decode cX4_look 147 = .ok (.return_, 1) := by decide +kernel
theorem dX4_look_148 : decode cX4_look 148 = .ok (.aload_n 0, 1) := by decide +kernel
theorem dX4_look_149 : decode cX4_look 149 = .ok (.aload_n 0, 1) := by decide +kernel
theorem dX4_look_150 : decode cX4_look 150 = .ok (.getfield 31, 3) := by decide +kernel
theorem dX4_look_153 : decode cX4_look 153 = .ok (.iload_n 1, 1) := by decide +kernel
theorem dX4_look_154 : decode cX4_look 154 = .ok (.invokevirtual 83, 3) := by decide +kernel
theorem dX4_look_157 : decode cX4_look 157 = .ok (.i2l, 1) := by decide +kernel
theorem dX4_look_158 : decode cX4_look 158 = .ok (.invokevirtual 86, 3) := by decide +kernel
theorem dX4_look_161 : decode cX4_look 161 = .ok (.return_, 1) := by decide +kernel
theorem dX4_look_162 : decode cX4_look 162 = .ok (.aload_n 0, 1) := by decide +kernel
theorem dX4_look_163 : decode cX4_look 163 = .ok (.iload_n 1, 1) := by decide +kernel
theorem dX4_look_164 : decode cX4_look 164 = .ok (.iconst 5, 1) := by decide +kernel
theorem dX4_look_165 : decode cX4_look 165 = .ok (.invokevirtual 90, 3) := by decide +kernel
theorem dX4_look_168 : decode cX4_look 168 = .ok (.pop, 1) := by decide +kernel
theorem dX4_look_169 : decode cX4_look 169 = .ok (.return_, 1) := by decide +kernel
theorem dX4_look_170 : decode cX4_look 170 = .ok (.aload_n 0, 1) := by decide +kernel
theorem dX4_look_171 : decode cX4_look 171 = .ok (.iload_n 1, 1) := by decide +kernel
theorem dX4_look_172 : decode cX4_look 172 = .ok (.iload_n 2, 1) := by decide +kernel
theorem dX4_look_173 : decode cX4_look 173 = .ok (.invokevirtual 94, 3) := by decide +kernel
theorem dX4_look_176 : decode cX4_look 176 = .ok (.return_, 1) := by decide +kernel
theorem dX4_look_177 : decode cX4_look 177 = .ok (.aload_n 0, 1) := by decide +kernel
theorem dX4_look_178 : decode cX4_look 178 = .ok (.iload_n 1, 1) := by decide +kernel
theorem dX4_look_179 : decode cX4_look 179 = .ok (.iload_n 2, 1) := by decide +kernel
theorem dX4_look_180 : decode cX4_look 180 = .ok (.invokevirtual 97, 3) := by decide +kernel
theorem dX4_look_183 : decode cX4_look 183 = .ok (.return_, 1) := by decide +kernel
theorem dX4_look_184 : decode cX4_look 184 = .ok (.aload_n 0, 1) := by decide +kernel
theorem dX4_look_185 : decode cX4_look 185 = .ok (.iload_n 1, 1) := by decide +kernel
theorem dX4_look_186 : decode cX4_look 186 = .ok (.iload_n 2, 1) := by decide +kernel
theorem dX4_look_187 : decode cX4_look 187 = .ok (.invokevirtual 100, 3) := by decide +kernel
theorem dX4_look_190 : decode cX4_look 190 = .ok (.return_, 1) := by decide +kernel
theorem dX4_look_191 : decode cX4_look 191 = .ok (.return_, 1) := by decide +kernel
theorem dX4_lookAtBoolean_0 : decode cX4_lookAtBoolean 0 = .ok (.aload_n 0, 1) := by decide +kernel
theorem dX4_lookAtBoolean_1 : decode cX4_lookAtBoolean 1 = .ok (.getfield 18, 3) := by decide +kernel
theorem dX4_lookAtBoolean_4 : decode cX4_lookAtBoolean 4 = .ok (.aload_n 0, 1) := by decide +kernel
theorem dX4_lookAtBoolean_5 : decode cX4_lookAtBoolean 5 = .ok (.getfield 27, 3) := by decide +kernel
theorem dX4_lookAtBoolean_8 : decode cX4_lookAtBoolean 8 = .ok (.invokevirtual 21, 3) := by decide +kernel
theorem dX4_lookAtBoolean_11 : decode cX4_lookAtBoolean 11 = .ok (.if_icmp .lt 18, 3) := by decide +kernel
theorem dX4_lookAtBoolean_14 : decode cX4_lookAtBoolean 14 = .ok (.aload_n 0, 1) := by decide +kernel
theorem dX4_lookAtBoolean_15 : decode cX4_lookAtBoolean 15 = .ok (.iconst 1, 1) := by decide +kernel
theorem dX4_lookAtBoolean_16 : decode cX4_lookAtBoolean 16 = .ok (.aload_n 0, 1) := by decide +kernel
theorem dX4_lookAtBoolean_17 : decode cX4_lookAtBoolean 17 = .ok (.getfield 27, 3) := by decide +kernel
theorem dX4_lookAtBoolean_20 : decode cX4_lookAtBoolean 20 = .ok (.invokevirtual 21, 3) := by decide +kernel
theorem dX4_lookAtBoolean_23 : decode cX4_lookAtBoolean 23 = .ok (.invokevirtual 66, 3) := by decide +kernel
theorem dX4_lookAtBoolean_26 : decode cX4_lookAtBoolean 26 = .ok (.goto 59, 3) := by decide +kernel
theorem dX4_lookAtBoolean_29 : decode cX4_lookAtBoolean 29 = .ok (.aload_n 0, 1) := by decide +kernel
theorem dX4_lookAtBoolean_30 : decode cX4_lookAtBoolean 30 = .ok (.getfield 27, 3) := by decide +kernel
theorem dX4_lookAtBoolean_33 : decode cX4_lookAtBoolean 33 = .ok (.aload_n 0, 1) := by decide +kernel
theorem dX4_lookAtBoolean_34 : decode cX4_lookAtBoolean 34 = .ok (.getfield 18, 3) := by decide +kernel
theorem dX4_lookAtBoolean_37 : decode cX4_lookAtBoolean 37 = .ok (.invokevirtual 103, 3) := by decide +kernel
theorem dX4_lookAtBoolean_40 : decode cX4_lookAtBoolean 40 = .ok (.iconst 1, 1) := by decide +kernel
theorem dX4_lookAtBoolean_41 : decode cX4_lookAtBoolean 41 = .ok (.if_icmp .le 15, 3) := by decide +kernel
theorem dX4_lookAtBoolean_44 : decode cX4_lookAtBoolean 44 = .ok (.aload_n 0, 1) := by decide +kernel
theorem dX4_lookAtBoolean_45 : decode cX4_lookAtBoolean 45 = .ok (.iconst 3, 1) := by decide +kernel
theorem dX4_lookAtBoolean_46 : decode cX4_lookAtBoolean 46 = .ok (.aload_n 0, 1) := by decide +kernel
theorem dX4_lookAtBoolean_47 : decode cX4_lookAtBoolean 47 = .ok (.getfield 18, 3) := by decide +kernel
theorem dX4_lookAtBoolean_50 : decode cX4_lookAtBoolean 50 = .ok (.invokevirtual 66, 3) := by decide +kernel
theorem dX4_lookAtBoolean_53 : decode cX4_lookAtBoolean 53 = .ok (.goto 32, 3) := by decide +kernel
theorem dX4_lookAtBoolean_56 : decode cX4_lookAtBoolean 56 = .ok (.aload_n 0, 1) := by decide +kernel
theorem dX4_lookAtBoolean_57 : decode cX4_lookAtBoolean 57 = .ok (.getfield 41, 3) := by decide +kernel
theorem dX4_lookAtBoolean_60 : decode cX4_lookAtBoolean 60 = .ok (.aload_n 0, 1) := by decide +kernel
theorem dX4_lookAtBoolean_61 : decode cX4_lookAtBoolean 61 = .ok (.getfield 27, 3) := by decide +kernel
theorem dX4_lookAtBoolean_64 : decode cX4_lookAtBoolean 64 = .ok (.aload_n 0, 1) := by decide +kernel
theorem dX4_lookAtBoolean_65 : decode cX4_lookAtBoolean 65 = .ok (.getfield 18, 3) := by decide +kernel
theorem dX4_lookAtBoolean_68 : decode cX4_lookAtBoolean 68 = .ok (.invokevirtual 103, 3) := by decide +kernel
theorem dX4_lookAtBoolean_71 : decode cX4_lookAtBoolean 71 = .ok (.invokevirtual 106, 3) := by decide +kernel
theorem dX4_lookAtBoolean_74 : decode cX4_lookAtBoolean 74 = .ok (.pop, 1) := by decide +kernel
theorem dX4_lookAtBoolean_75 : decode cX4_lookAtBoolean 75 = .ok (.aload_n 0, 1) := by decide +kernel
theorem dX4_lookAtBoolean_76 : decode cX4_lookAtBoolean 76 = .ok (.dup, 1) := by decide +kernel
theorem dX4_lookAtBoolean_77 : decode cX4_lookAtBoolean 77 = .ok (.getfield 18, 3) := by decide +kernel
theorem dX4_lookAtBoolean_80 : decode cX4_lookAtBoolean 80 = .ok (.iconst 1, 1) := by decide +kernel
theorem dX4_lookAtBoolean_81 : decode cX4_lookAtBoolean 81 = .ok (.iadd, 1) := by decide +kernel
theorem dX4_lookAtBoolean_82 : decode cX4_lookAtBoolean 82 = .ok (.putfield 18, 3) := by decide +kernel
theorem dX4_lookAtBoolean_85 : decode cX4_lookAtBoolean 85 = .ok (.return_, 1) := by decide +kernel
theorem dX4_varint_0 : decode cX4_varint 0 = .ok (.aload_n 0, 1) := by decide +kernel
theorem dX4_varint_1 : decode cX4_varint 1 = .ok (.getfield 18, 3) := by decide +kernel
theorem dX4_varint_4 : decode cX4_varint 4 = .ok (.istore_n 1, 1) := by decide +kernel
theorem dX4_varint_5 : decode cX4_varint 5 = .ok (.lconst 0, 1) := by decide +kernel
theorem dX4_varint_6 : decode cX4_varint 6 = .ok (.lstore_n 2, 1) := by decide +kernel
theorem dX4_varint_7 : decode cX4_varint 7 = .ok (.iconst 0, 1) := by decide +kernel
theorem dX4_varint_8 : decode cX4_varint 8 = .ok (.istore 4, 2) := by decide +kernel
theorem dX4_varint_10 : decode cX4_varint 10 = .ok (.iload 4, 2) := by decide +kernel
theorem dX4_varint_12 : decode cX4_varint 12 = .ok (.bipush 10, 2) := by decide +kernel
theorem dX4_varint_14 : decode cX4_varint 14 = .ok (.if_icmp .ge 113, 3) := by decide +kernel
theorem dX4_varint_17 : decode cX4_varint 17 = .ok (.aload_n 0, 1) := by decide +kernel
theorem dX4_varint_18 : decode cX4_varint 18 = .ok (.getfield 18, 3) := by decide +kernel
theorem dX4_varint_21 : decode cX4_varint 21 = .ok (.aload_n 0, 1) := by decide +kernel
theorem dX4_varint_22 : decode cX4_varint 22 = .ok (.getfield 27, 3) := by decide +kernel
theorem dX4_varint_25 : decode cX4_varint 25 = .ok (.invokevirtual 21, 3) := by decide +kernel
theorem dX4_varint_28 : decode cX4_varint 28 = .ok (.if_icmp .lt 17, 3) := by decide +kernel
theorem dX4_varint_31 : decode cX4_varint 31 = .ok (.aload_n 0, 1) := by decide +kernel
theorem dX4_varint_32 : decode cX4_varint 32 = .ok (.iconst 1, 1) := by decide +kernel
theorem dX4_varint_33 : decode cX4_varint 33 = .ok (.aload_n 0, 1) := by decide +kernel
theorem dX4_varint_34 : decode cX4_varint 34 = .ok (.getfield 27, 3) := by decide +kernel
theorem dX4_varint_37 : decode cX4_varint 37 = .ok (.invokevirtual 21, 3) := by decide +kernel
theorem dX4_varint_40 : decode cX4_varint 40 = .ok (.invokevirtual 66, 3) := by decide +kernel
theorem dX4_varint_43 : decode cX4_varint 43 = .ok (.lconst 0, 1) := by decide +kernel
theorem dX4_varint_44 : decode cX4_varint 44 = .ok (.lreturn, 1) := by decide +kernel
theorem dX4_varint_45 : decode cX4_varint 45 = .ok (.aload_n 0, 1) := by decide +kernel
theorem dX4_varint_46 : decode cX4_varint 46 = .ok (.getfield 27, 3) := by decide +kernel
theorem dX4_varint_49 : decode cX4_varint 49 = .ok (.aload_n 0, 1) := by decide +kernel
theorem dX4_varint_50 : decode cX4_varint 50 = .ok (.getfield 18, 3) := by decide +kernel
theorem dX4_varint_53 : decode cX4_varint 53 = .ok (.invokevirtual 103, 3) := by decide +kernel
theorem dX4_varint_56 : decode cX4_varint 56 = .ok (.istore 5, 2) := by decide +kernel
theorem dX4_varint_58 : decode cX4_varint 58 = .ok (.iload 4, 2) := by decide +kernel
theorem dX4_varint_60 : decode cX4_varint 60 = .ok (.bipush 9, 2) := by decide +kernel
theorem dX4_varint_62 : decode cX4_varint 62 = .ok (.if_icmp .ne 17, 3) := by decide +kernel
theorem dX4_varint_65 : decode cX4_varint 65 = .ok (.iload 5, 2) := by decide +kernel
theorem dX4_varint_67 : decode cX4_varint 67 = .ok (.iconst 1, 1) := by decide +kernel
theorem dX4_varint_68 : decode cX4_varint 68 = .ok (.if_icmp .le 11, 3) := by decide +kernel
theorem dX4_varint_71 : decode cX4_varint 71 = .ok (.aload_n 0, 1) := by decide +kernel
theorem dX4_varint_72 : decode cX4_varint 72 = .ok (.iconst 2, 1) := by decide +kernel
theorem dX4_varint_73 : decode cX4_varint 73 = .ok (.iload_n 1, 1) := by decide +kernel
theorem dX4_varint_74 : decode cX4_varint 74 = .ok (.invokevirtual 66, 3) := by decide +kernel
theorem dX4_varint_77 : decode cX4_varint 77 = .ok (.lconst 0, 1) := by decide +kernel
theorem dX4_varint_78 : decode cX4_varint 78 = .ok (.lreturn, 1) := by decide +kernel
theorem dX4_varint_79 : decode cX4_varint 79 = .ok (.aload_n 0, 1) := by decide +kernel
theorem dX4_varint_80 : decode cX4_varint 80 = .ok (.dup, 1) := by decide +kernel
theorem dX4_varint_81 : decode cX4_varint 81 = .ok (.getfield 18, 3) := by decide +kernel
theorem dX4_varint_84 : decode cX4_varint 84 = .ok (.iconst 1, 1) := by decide +kernel
theorem dX4_varint_85 : decode cX4_varint 85 = .ok (.iadd, 1) := by decide +kernel
theorem dX4_varint_86 : decode cX4_varint 86 = .ok (.putfield 18, 3) := by decide +kernel
theorem dX4_varint_89 : decode cX4_varint 89 = .ok (.lload_n 2, 1) := by decide +kernel
theorem dX4_varint_90 : decode cX4_varint 90 = .ok (.iload 5, 2) := by decide +kernel
theorem dX4_varint_92 : decode cX4_varint 92 = .ok (.bipush 127, 2) := by decide +kernel
theorem dX4_varint_94 : decode cX4_varint 94 = .ok (.iand, 1) := by decide +kernel
theorem dX4_varint_95 : decode cX4_varint 95 = .ok (.i2l, 1) := by decide +kernel
theorem dX4_varint_96 : decode cX4_varint 96 = .ok (.bipush 7, 2) := by decide +kernel
theorem dX4_varint_98 : decode cX4_varint 98 = .ok (.iload 4, 2) := by decide +kernel
theorem dX4_varint_100 : decode cX4_varint 100 = .ok (.imul, 1) := by decide +kernel
theorem dX4_varint_101 : decode cX4_varint 101 = .ok (.lshl, 1) := by decide +kernel
theorem dX4_varint_102 : decode cX4_varint 102 = .ok (.lor, 1) := by decide +kernel
theorem dX4_varint_103 : decode cX4_varint 103 = .ok (.lstore_n 2, 1) := by decide +kernel
theorem dX4_varint_104 : decode cX4_varint 104 = .ok (.iload 5, 2) := by decide +kernel
theorem dX4_varint_106 : decode cX4_varint 106 = .ok (.sipush 128, 3) := by decide +kernel
theorem dX4_varint_109 : decode cX4_varint 109 = .ok (.if_icmp .ge 12, 3) := by decide +kernel
theorem dX4_varint_112 : decode cX4_varint 112 = .ok (.lload_n 2, 1) := by decide +kernel
theorem dX4_varint_113 : decode cX4_varint 113 = .ok (.iconst 1, 1) := by decide +kernel
theorem dX4_varint_114 : decode cX4_varint 114 = .ok (.lushr, 1) := by decide +kernel
theorem dX4_varint_115 : decode cX4_varint 115 = .ok (.lload_n 2, 1) := by decide +kernel
theorem dX4_varint_116 : decode cX4_varint 116 = .ok (.lconst 1, 1) := by decide +kernel
theorem dX4_varint_117 : decode cX4_varint 117 = .ok (.land, 1) := by decide +kernel
theorem dX4_varint_118 : decode cX4_varint 118 = .ok (.lneg, 1) := by decide +kernel
theorem dX4_varint_119 : decode cX4_varint 119 = .ok (.lxor, 1) := by decide +kernel
theorem dX4_varint_120 : decode cX4_varint 120 = .ok (.lreturn, 1) := by decide +kernel
theorem dX4_varint_121 : decode cX4_varint 121 = .ok (.iinc 4 1, 3) := by decide +kernel
theorem dX4_varint_124 : decode cX4_varint 124 = .ok (.goto (-114), 3) := by decide +kernel
theorem dX4_varint_127 : decode cX4_varint 127 = .ok (.lconst 0, 1) := by decide +kernel
theorem dX4_varint_128 : decode cX4_varint 128 = .ok (.lreturn, 1) := by decide +kernel
theorem dX4_lookAtNumber_0 : decode cX4_lookAtNumber 0 = .ok (.aload_n 0, 1) := by decide +kernel
theorem dX4_lookAtNumber_1 : decode cX4_lookAtNumber 1 = .ok (.getfield 18, 3) := by decide +kernel
theorem dX4_lookAtNumber_4 : decode cX4_lookAtNumber 4 = .ok (.istore_n 2, 1) := by decide +kernel
theorem dX4_lookAtNumber_5 : decode cX4_lookAtNumber 5 = .ok (.aload_n 0, 1) := by decide +kernel
theorem dX4_lookAtNumber_6 : decode cX4_lookAtNumber 6 = .ok (.invokevirtual 110, 3) := by decide +kernel
theorem dX4_lookAtNumber_9 : decode cX4_lookAtNumber 9 = .ok (.lstore_n 3, 1) := by decide +kernel
theorem dX4_lookAtNumber_10 : decode cX4_lookAtNumber 10 = .ok (.iload_n 1, 1) := by decide +kernel
theorem dX4_lookAtNumber_11 : decode cX4_lookAtNumber 11 = .ok (.ifCond .eq 17, 3) := by decide +kernel
theorem dX4_lookAtNumber_14 : decode cX4_lookAtNumber 14 = .ok (.lload_n 3, 1) := by decide +kernel
theorem dX4_lookAtNumber_15 : decode cX4_lookAtNumber 15 = .ok (.lload_n 3, 1) := by decide +kernel
theorem dX4_lookAtNumber_16 : decode cX4_lookAtNumber 16 = .ok (.l2i, 1) := by decide +kernel
theorem dX4_lookAtNumber_17 : decode cX4_lookAtNumber 17 = .ok (.i2l, 1) := by decide +kernel
theorem dX4_lookAtNumber_18 : decode cX4_lookAtNumber 18 = .ok (.lcmp, 1) := by decide +kernel
theorem dX4_lookAtNumber_19 : decode cX4_lookAtNumber 19 = .ok (.ifCond .eq 9, 3) := by decide +kernel
theorem dX4_lookAtNumber_22 : decode cX4_lookAtNumber 22 = .ok (.aload_n 0, 1) := by decide +kernel
theorem dX4_lookAtNumber_23 : decode cX4_lookAtNumber 23 = .ok (.iconst 2, 1) := by decide +kernel
theorem dX4_lookAtNumber_24 : decode cX4_lookAtNumber 24 = .ok (.iload_n 2, 1) := by decide +kernel
theorem dX4_lookAtNumber_25 : decode cX4_lookAtNumber 25 = .ok (.invokevirtual 66, 3) := by decide +kernel
theorem dX4_lookAtNumber_28 : decode cX4_lookAtNumber 28 = .ok (.aload_n 0, 1) := by decide +kernel
theorem dX4_lookAtNumber_29 : decode cX4_lookAtNumber 29 = .ok (.getfield 15, 3) := by decide +kernel
theorem dX4_lookAtNumber_32 : decode cX4_lookAtNumber 32 = .ok (.ifCond .ne 12, 3) := by decide +kernel
theorem dX4_lookAtNumber_35 : decode cX4_lookAtNumber 35 = .ok (.aload_n 0, 1) := by decide +kernel
theorem dX4_lookAtNumber_36 : decode cX4_lookAtNumber 36 = .ok (.getfield 41, 3) := by decide +kernel
theorem dX4_lookAtNumber_39 : decode cX4_lookAtNumber 39 = .ok (.lload_n 3, 1) := by decide +kernel
theorem dX4_lookAtNumber_40 : decode cX4_lookAtNumber 40 = .ok (.invokevirtual 114, 3) := by decide +kernel
theorem dX4_lookAtNumber_43 : decode cX4_lookAtNumber 43 = .ok (.pop, 1) := by decide +kernel
theorem dX4_lookAtNumber_44 : decode cX4_lookAtNumber 44 = .ok (.return_, 1) := by decide +kernel
theorem dX4_lookAtString_0 : decode cX4_lookAtString 0 = .ok (.aload_n 0, 1) := by decide +kernel
theorem dX4_lookAtString_1 : decode cX4_lookAtString 1 = .ok (.getfield 18, 3) := by decide +kernel
theorem dX4_lookAtString_4 : decode cX4_lookAtString 4 = .ok (.istore_n 1, 1) := by decide +kernel
theorem dX4_lookAtString_5 : decode cX4_lookAtString 5 = .ok (.aload_n 0, 1) := by decide +kernel
theorem dX4_lookAtString_6 : decode cX4_lookAtString 6 = .ok (.invokevirtual 110, 3) := by decide +kernel
theorem dX4_lookAtString_9 : decode cX4_lookAtString 9 = .ok (.lstore_n 2, 1) := by decide +kernel
theorem dX4_lookAtString_10 : decode cX4_lookAtString 10 = .ok (.lload_n 2, 1) := by decide +kernel
theorem dX4_lookAtString_11 : decode cX4_lookAtString 11 = .ok (.lconst 0, 1) := by decide +kernel
theorem dX4_lookAtString_12 : decode cX4_lookAtString 12 = .ok (.lcmp, 1) := by decide +kernel
theorem dX4_lookAtString_13 : decode cX4_lookAtString 13 = .ok (.ifCond .ge 10, 3) := by decide +kernel
theorem dX4_lookAtString_16 : decode cX4_lookAtString 16 = .ok (.aload_n 0, 1) := by decide +kernel
theorem dX4_lookAtString_17 : decode cX4_lookAtString 17 = .ok (.bipush 6, 2) := by decide +kernel
theorem dX4_lookAtString_19 : decode cX4_lookAtString 19 = .ok (.iload_n 1, 1) := by decide +kernel
theorem dX4_lookAtString_20 : decode cX4_lookAtString 20 = .ok (.invokevirtual 66, 3) := by decide +kernel
theorem dX4_lookAtString_23 : decode cX4_lookAtString 23 = .ok (.aload_n 0, 1) := by decide +kernel
theorem dX4_lookAtString_24 : decode cX4_lookAtString 24 = .ok (.getfield 15, 3) := by decide +kernel
theorem dX4_lookAtString_27 : decode cX4_lookAtString 27 = .ok (.ifCond .ne 17, 3) := by decide +kernel
theorem dX4_lookAtString_30 : decode cX4_lookAtString 30 = .ok (.aload_n 0, 1) := by decide +kernel
theorem dX4_lookAtString_31 : decode cX4_lookAtString 31 = .ok (.getfield 41, 3) := by decide +kernel
theorem dX4_lookAtString_34 : decode cX4_lookAtString 34 = .ok (.lload_n 2, 1) := by decide +kernel
theorem dX4_lookAtString_35 : decode cX4_lookAtString 35 = .ok (.invokevirtual 114, 3) := by decide +kernel
theorem dX4_lookAtString_38 : decode cX4_lookAtString 38 = .ok (.pop, 1) := by decide +kernel
theorem dX4_lookAtString_39 : decode cX4_lookAtString 39 = .ok (.aload_n 0, 1) := by decide +kernel
theorem dX4_lookAtString_40 : decode cX4_lookAtString 40 = .ok (.lload_n 2, 1) := by decide +kernel
theorem dX4_lookAtString_41 : decode cX4_lookAtString 41 = .ok (.invokevirtual 86, 3) := by decide +kernel
theorem dX4_lookAtString_44 : decode cX4_lookAtString 44 = .ok (.return_, 1) := by decide +kernel
theorem dX4_takeBytes_0 : decode cX4_takeBytes 0 = .ok (.lload_n 1, 1) := by decide +kernel
theorem dX4_takeBytes_1 : decode cX4_takeBytes 1 = .ok (.aload_n 0, 1) := by decide +kernel
theorem dX4_takeBytes_2 : decode cX4_takeBytes 2 = .ok (.getfield 27, 3) := by decide +kernel
theorem dX4_takeBytes_5 : decode cX4_takeBytes 5 = .ok (.invokevirtual 21, 3) := by decide +kernel
theorem dX4_takeBytes_8 : decode cX4_takeBytes 8 = .ok (.aload_n 0, 1) := by decide +kernel
theorem dX4_takeBytes_9 : decode cX4_takeBytes 9 = .ok (.getfield 18, 3) := by decide +kernel
theorem dX4_takeBytes_12 : decode cX4_takeBytes 12 = .ok (.isub, 1) := by decide +kernel
theorem dX4_takeBytes_13 : decode cX4_takeBytes 13 = .ok (.i2l, 1) := by decide +kernel
theorem dX4_takeBytes_14 : decode cX4_takeBytes 14 = .ok (.lcmp, 1) := by decide +kernel
theorem dX4_takeBytes_15 : decode cX4_takeBytes 15 = .ok (.ifCond .le 16, 3) := by decide +kernel
theorem dX4_takeBytes_18 : decode cX4_takeBytes 18 = .ok (.aload_n 0, 1) := by decide +kernel
theorem dX4_takeBytes_19 : decode cX4_takeBytes 19 = .ok (.iconst 1, 1) := by decide +kernel
theorem dX4_takeBytes_20 : decode cX4_takeBytes 20 = .ok (.aload_n 0, 1) := by decide +kernel
theorem dX4_takeBytes_21 : decode cX4_takeBytes 21 = .ok (.getfield 27, 3) := by decide +kernel
theorem dX4_takeBytes_24 : decode cX4_takeBytes 24 = .ok (.invokevirtual 21, 3) := by decide +kernel
theorem dX4_takeBytes_27 : decode cX4_takeBytes 27 = .ok (.invokevirtual 66, 3) := by decide +kernel
theorem dX4_takeBytes_30 : decode cX4_takeBytes 30 = .ok (.return_, 1) := by decide +kernel
theorem dX4_takeBytes_31 : decode cX4_takeBytes 31 = .ok (.aload_n 0, 1) := by decide +kernel
theorem dX4_takeBytes_32 : decode cX4_takeBytes 32 = .ok (.getfield 41, 3) := by decide +kernel
theorem dX4_takeBytes_35 : decode cX4_takeBytes 35 = .ok (.aload_n 0, 1) := by decide +kernel
theorem dX4_takeBytes_36 : decode cX4_takeBytes 36 = .ok (.getfield 27, 3) := by decide +kernel
theorem dX4_takeBytes_39 : decode cX4_takeBytes 39 = .ok (.aload_n 0, 1) := by decide +kernel
theorem dX4_takeBytes_40 : decode cX4_takeBytes 40 = .ok (.getfield 18, 3) := by decide +kernel
theorem dX4_takeBytes_43 : decode cX4_takeBytes 43 = .ok (.aload_n 0, 1) := by decide +kernel
theorem dX4_takeBytes_44 : decode cX4_takeBytes 44 = .ok (.getfield 18, 3) := by decide +kernel
theorem dX4_takeBytes_47 : decode cX4_takeBytes 47 = .ok (.lload_n 1, 1) := by decide +kernel
theorem dX4_takeBytes_48 : decode cX4_takeBytes 48 = .ok (.l2i, 1) := by decide +kernel
theorem dX4_takeBytes_49 : decode cX4_takeBytes 49 = .ok (.iadd, 1) := by decide +kernel
theorem dX4_takeBytes_50 : decode cX4_takeBytes 50 = .ok (.invokevirtual 118, 3) := by decide +kernel
theorem dX4_takeBytes_53 : decode cX4_takeBytes 53 = .ok (.pop, 1) := by decide +kernel
theorem dX4_takeBytes_54 : decode cX4_takeBytes 54 = .ok (.aload_n 0, 1) := by decide +kernel
theorem dX4_takeBytes_55 : decode cX4_takeBytes 55 = .ok (.dup, 1) := by decide +kernel
theorem dX4_takeBytes_56 : decode cX4_takeBytes 56 = .ok (.getfield 18, 3) := by decide +kernel
theorem dX4_takeBytes_59 : decode cX4_takeBytes 59 = .ok (.lload_n 1, 1) := by decide +kernel
theorem dX4_takeBytes_60 : decode cX4_takeBytes 60 = .ok (.l2i, 1) := by decide +kernel
theorem dX4_takeBytes_61 : decode cX4_takeBytes 61 = .ok (.iadd, 1) := by decide +kernel
theorem dX4_takeBytes_62 : decode cX4_takeBytes 62 = .ok (.putfield 18, 3) := by decide +kernel
theorem dX4_takeBytes_65 : decode cX4_takeBytes 65 = .ok (.return_, 1) := by decide +kernel
theorem dX4_lookAtChoice_0 : decode cX4_lookAtChoice 0 = .ok (.aload_n 0, 1) := by decide +kernel
theorem dX4_lookAtChoice_1 : decode cX4_lookAtChoice 1 = .ok (.getfield 18, 3) := by decide +kernel
theorem dX4_lookAtChoice_4 : decode cX4_lookAtChoice 4 = .ok (.istore_n 3, 1) := by decide +kernel
theorem dX4_lookAtChoice_5 : decode cX4_lookAtChoice 5 = .ok (.aload_n 0, 1) := by decide +kernel
theorem dX4_lookAtChoice_6 : decode cX4_lookAtChoice 6 = .ok (.invokevirtual 110, 3) := by decide +kernel
theorem dX4_lookAtChoice_9 : decode cX4_lookAtChoice 9 = .ok (.lstore 4, 2) := by decide +kernel
theorem dX4_lookAtChoice_11 : decode cX4_lookAtChoice 11 = .ok (.lload 4, 2) := by decide +kernel
theorem dX4_lookAtChoice_13 : decode cX4_lookAtChoice 13 = .ok (.lconst 0, 1) := by decide +kernel
theorem dX4_lookAtChoice_14 : decode cX4_lookAtChoice 14 = .ok (.lcmp, 1) := by decide +kernel
theorem dX4_lookAtChoice_15 : decode cX4_lookAtChoice 15 = .ok (.ifCond .lt 18, 3) := by decide +kernel
theorem dX4_lookAtChoice_18 : decode cX4_lookAtChoice 18 = .ok (.lload 4, 2) := by decide +kernel
theorem dX4_lookAtChoice_20 : decode cX4_lookAtChoice 20 = .ok (.aload_n 0, 1) := by decide +kernel
theorem dX4_lookAtChoice_21 : decode cX4_lookAtChoice 21 = .ok (.getfield 31, 3) := by decide +kernel
theorem dX4_lookAtChoice_24 : decode cX4_lookAtChoice 24 = .ok (.iload_n 1, 1) := by decide +kernel
theorem dX4_lookAtChoice_25 : decode cX4_lookAtChoice 25 = .ok (.invokevirtual 122, 3) := by decide +kernel
theorem dX4_lookAtChoice_28 : decode cX4_lookAtChoice 28 = .ok (.i2l, 1) := by decide +kernel
theorem dX4_lookAtChoice_29 : decode cX4_lookAtChoice 29 = .ok (.lcmp, 1) := by decide +kernel
theorem dX4_lookAtChoice_30 : decode cX4_lookAtChoice 30 = .ok (.ifCond .lt 9, 3) := by decide +kernel
theorem dX4_lookAtChoice_33 : decode cX4_lookAtChoice 33 = .ok (.aload_n 0, 1) := by decide +kernel
theorem dX4_lookAtChoice_34 : decode cX4_lookAtChoice 34 = .ok (.iload_n 2, 1) := by decide +kernel
theorem dX4_lookAtChoice_35 : decode cX4_lookAtChoice 35 = .ok (.iload_n 3, 1) := by decide +kernel
theorem dX4_lookAtChoice_36 : decode cX4_lookAtChoice 36 = .ok (.invokevirtual 66, 3) := by decide +kernel
theorem dX4_lookAtChoice_39 : decode cX4_lookAtChoice 39 = .ok (.aload_n 0, 1) := by decide +kernel
theorem dX4_lookAtChoice_40 : decode cX4_lookAtChoice 40 = .ok (.getfield 15, 3) := by decide +kernel
theorem dX4_lookAtChoice_43 : decode cX4_lookAtChoice 43 = .ok (.ifCond .eq 5, 3) := by decide +kernel
theorem dX4_lookAtChoice_46 : decode cX4_lookAtChoice 46 = .ok (.iconst (-1), 1) := by decide +kernel
theorem dX4_lookAtChoice_47 : decode cX4_lookAtChoice 47 = .ok (.ireturn, 1) := by decide +kernel
theorem dX4_lookAtChoice_48 : decode cX4_lookAtChoice 48 = .ok (.aload_n 0, 1) := by decide +kernel
theorem dX4_lookAtChoice_49 : decode cX4_lookAtChoice 49 = .ok (.getfield 41, 3) := by decide +kernel
theorem dX4_lookAtChoice_52 : decode cX4_lookAtChoice 52 = .ok (.lload 4, 2) := by decide +kernel
theorem dX4_lookAtChoice_54 : decode cX4_lookAtChoice 54 = .ok (.invokevirtual 114, 3) := by decide +kernel
theorem dX4_lookAtChoice_57 : decode cX4_lookAtChoice 57 = .ok (.pop, 1) := by decide +kernel
theorem dX4_lookAtChoice_58 : decode cX4_lookAtChoice 58 = .ok (.lload 4, 2) := by decide +kernel
theorem dX4_lookAtChoice_60 : decode cX4_lookAtChoice 60 = .ok (.l2i, 1) := by decide +kernel
theorem dX4_lookAtChoice_61 : decode cX4_lookAtChoice 61 = .ok (.ireturn, 1) := by decide +kernel
theorem dX4_lookAtUnion_0 : decode cX4_lookAtUnion 0 = .ok (.aload_n 0, 1) := by decide +kernel
theorem dX4_lookAtUnion_1 : decode cX4_lookAtUnion 1 = .ok (.iload_n 1, 1) := by decide +kernel
theorem dX4_lookAtUnion_2 : decode cX4_lookAtUnion 2 = .ok (.iconst 4, 1) := by decide +kernel
theorem dX4_lookAtUnion_3 : decode cX4_lookAtUnion 3 = .ok (.invokevirtual 90, 3) := by decide +kernel
theorem dX4_lookAtUnion_6 : decode cX4_lookAtUnion 6 = .ok (.istore_n 3, 1) := by decide +kernel
theorem dX4_lookAtUnion_7 : decode cX4_lookAtUnion 7 = .ok (.aload_n 0, 1) := by decide +kernel
theorem dX4_lookAtUnion_8 : decode cX4_lookAtUnion 8 = .ok (.getfield 15, 3) := by decide +kernel
theorem dX4_lookAtUnion_11 : decode cX4_lookAtUnion 11 = .ok (.ifCond .ne 19, 3) := by decide +kernel
theorem dX4_lookAtUnion_14 : decode cX4_lookAtUnion 14 = .ok (.aload_n 0, 1) := by decide +kernel
theorem dX4_lookAtUnion_15 : decode cX4_lookAtUnion 15 = .ok (.aload_n 0, 1) := by decide +kernel
theorem dX4_lookAtUnion_16 : decode cX4_lookAtUnion 16 = .ok (.getfield 31, 3) := by decide +kernel
theorem dX4_lookAtUnion_19 : decode cX4_lookAtUnion 19 = .ok (.iload_n 1, 1) := by decide +kernel
theorem dX4_lookAtUnion_20 : decode cX4_lookAtUnion 20 = .ok (.iload_n 3, 1) := by decide +kernel
theorem dX4_lookAtUnion_21 : decode cX4_lookAtUnion 21 = .ok (.invokevirtual 125, 3) := by decide +kernel
theorem dX4_lookAtUnion_24 : decode cX4_lookAtUnion 24 = .ok (.iload_n 2, 1) := by decide +kernel
theorem dX4_lookAtUnion_25 : decode cX4_lookAtUnion 25 = .ok (.iconst 1, 1) := by decide +kernel
theorem dX4_lookAtUnion_26 : decode cX4_lookAtUnion 26 = .ok (.iadd, 1) := by decide +kernel
theorem dX4_lookAtUnion_27 : decode cX4_lookAtUnion 27 = .ok (.invokevirtual 61, 3) := by decide +kernel
theorem dX4_lookAtUnion_30 : decode cX4_lookAtUnion 30 = .ok (.return_, 1) := by decide +kernel
theorem dX4_lookAtFields_0 : decode cX4_lookAtFields 0 = .ok (.iconst 0, 1) := by decide +kernel
theorem dX4_lookAtFields_1 : decode cX4_lookAtFields 1 = .ok (.istore_n 3, 1) := by decide +kernel
theorem dX4_lookAtFields_2 : decode cX4_lookAtFields 2 = .ok (.iload_n 3, 1) := by decide +kernel
theorem dX4_lookAtFields_3 : decode cX4_lookAtFields 3 = .ok (.aload_n 0, 1) := by decide +kernel
theorem dX4_lookAtFields_4 : decode cX4_lookAtFields 4 = .ok (.getfield 31, 3) := by decide +kernel
theorem dX4_lookAtFields_7 : decode cX4_lookAtFields 7 = .ok (.iload_n 1, 1) := by decide +kernel
theorem dX4_lookAtFields_8 : decode cX4_lookAtFields 8 = .ok (.invokevirtual 122, 3) := by decide +kernel
theorem dX4_lookAtFields_11 : decode cX4_lookAtFields 11 = .ok (.if_icmp .ge 39, 3) := by decide +kernel
theorem dX4_lookAtFields_14 : decode cX4_lookAtFields 14 = .ok (.aload_n 0, 1) := by decide +kernel
theorem dX4_lookAtFields_15 : decode cX4_lookAtFields 15 = .ok (.getfield 15, 3) := by decide +kernel
theorem dX4_lookAtFields_18 : decode cX4_lookAtFields 18 = .ok (.ifCond .ne 32, 3) := by decide +kernel
theorem dX4_lookAtFields_21 : decode cX4_lookAtFields 21 = .ok (.aload_n 0, 1) := by decide +kernel
theorem dX4_lookAtFields_22 : decode cX4_lookAtFields 22 = .ok (.aload_n 0, 1) := by decide +kernel
theorem dX4_lookAtFields_23 : decode cX4_lookAtFields 23 = .ok (.getfield 31, 3) := by decide +kernel
theorem dX4_lookAtFields_26 : decode cX4_lookAtFields 26 = .ok (.aload_n 0, 1) := by decide +kernel
theorem dX4_lookAtFields_27 : decode cX4_lookAtFields 27 = .ok (.getfield 31, 3) := by decide +kernel
theorem dX4_lookAtFields_30 : decode cX4_lookAtFields 30 = .ok (.iload_n 1, 1) := by decide +kernel
theorem dX4_lookAtFields_31 : decode cX4_lookAtFields 31 = .ok (.iload_n 3, 1) := by decide +kernel
theorem dX4_lookAtFields_32 : decode cX4_lookAtFields 32 = .ok (.invokevirtual 128, 3) := by decide +kernel
theorem dX4_lookAtFields_35 : decode cX4_lookAtFields 35 = .ok (.invokevirtual 131, 3) := by decide +kernel
theorem dX4_lookAtFields_38 : decode cX4_lookAtFields 38 = .ok (.iload_n 2, 1) := by decide +kernel
theorem dX4_lookAtFields_39 : decode cX4_lookAtFields 39 = .ok (.iconst 1, 1) := by decide +kernel
theorem dX4_lookAtFields_40 : decode cX4_lookAtFields 40 = .ok (.iadd, 1) := by decide +kernel
theorem dX4_lookAtFields_41 : decode cX4_lookAtFields 41 = .ok (.invokevirtual 61, 3) := by decide +kernel
theorem dX4_lookAtFields_44 : decode cX4_lookAtFields 44 = .ok (.iinc 3 1, 3) := by decide +kernel
theorem dX4_lookAtFields_47 : decode cX4_lookAtFields 47 = .ok (.goto (-45), 3) := by decide +kernel
theorem dX4_lookAtFields_50 : decode cX4_lookAtFields 50 = .ok (.return_, 1) := by decide +kernel
theorem dX4_lookAtBlocks_0 : decode cX4_lookAtBlocks 0 = .ok (.aload_n 0, 1) := by decide +kernel
theorem dX4_lookAtBlocks_1 : decode cX4_lookAtBlocks 1 = .ok (.getfield 41, 3) := by decide +kernel
theorem dX4_lookAtBlocks_4 : decode cX4_lookAtBlocks 4 = .ok (.invokevirtual 21, 3) := by decide +kernel
theorem dX4_lookAtBlocks_7 : decode cX4_lookAtBlocks 7 = .ok (.istore_n 3, 1) := by decide +kernel
theorem dX4_lookAtBlocks_8 : decode cX4_lookAtBlocks 8 = .ok (.iconst 0, 1) := by decide +kernel
theorem dX4_lookAtBlocks_9 : decode cX4_lookAtBlocks 9 = .ok (.istore 4, 2) := by decide +kernel
theorem dX4_lookAtBlocks_11 : decode cX4_lookAtBlocks 11 = .ok (.iconst 0, 1) := by decide +kernel
theorem dX4_lookAtBlocks_12 : decode cX4_lookAtBlocks 12 = .ok (.istore 5, 2) := by decide +kernel
theorem dX4_lookAtBlocks_14 : decode cX4_lookAtBlocks 14 = .ok (.iload 5, 2) := by decide +kernel
theorem dX4_lookAtBlocks_16 : decode cX4_lookAtBlocks 16 = .ok (.sipush 4096, 3) := by decide +kernel
theorem dX4_lookAtBlocks_19 : decode cX4_lookAtBlocks 19 = .ok (.if_icmp .gt 129, 3) := by decide +kernel
theorem dX4_lookAtBlocks_22 : decode cX4_lookAtBlocks 22 = .ok (.aload_n 0, 1) := by decide +kernel
theorem dX4_lookAtBlocks_23 : decode cX4_lookAtBlocks 23 = .ok (.getfield 18, 3) := by decide +kernel
theorem dX4_lookAtBlocks_26 : decode cX4_lookAtBlocks 26 = .ok (.istore 6, 2) := by decide +kernel
theorem dX4_lookAtBlocks_28 : decode cX4_lookAtBlocks 28 = .ok (.aload_n 0, 1) := by decide +kernel
theorem dX4_lookAtBlocks_29 : decode cX4_lookAtBlocks 29 = .ok (.invokevirtual 110, 3) := by decide +kernel
theorem dX4_lookAtBlocks_32 : decode cX4_lookAtBlocks 32 = .ok (.lstore 7, 2) := by decide +kernel
theorem dX4_lookAtBlocks_34 : decode cX4_lookAtBlocks 34 = .ok (.lload 7, 2) := by decide +kernel
theorem dX4_lookAtBlocks_36 : decode cX4_lookAtBlocks 36 = .ok (.sipush 2000, 3) := by decide +kernel
theorem dX4_lookAtBlocks_39 : decode cX4_lookAtBlocks 39 = .ok (.aload_n 0, 1) := by decide +kernel
theorem dX4_lookAtBlocks_40 : decode cX4_lookAtBlocks 40 = .ok (.getfield 50, 3) := by decide +kernel
theorem dX4_lookAtBlocks_43 : decode cX4_lookAtBlocks 43 = .ok (.isub, 1) := by decide +kernel
theorem dX4_lookAtBlocks_44 : decode cX4_lookAtBlocks 44 = .ok (.i2l, 1) := by decide +kernel
theorem dX4_lookAtBlocks_45 : decode cX4_lookAtBlocks 45 = .ok (.lcmp, 1) := by decide +kernel
theorem dX4_lookAtBlocks_46 : decode cX4_lookAtBlocks 46 = .ok (.ifCond .gt 18, 3) := by decide +kernel
theorem dX4_lookAtBlocks_49 : decode cX4_lookAtBlocks 49 = .ok (.lload 7, 2) := by decide +kernel
theorem dX4_lookAtBlocks_51 : decode cX4_lookAtBlocks 51 = .ok (.aload_n 0, 1) := by decide +kernel
theorem dX4_lookAtBlocks_52 : decode cX4_lookAtBlocks 52 = .ok (.getfield 50, 3) := by decide +kernel
theorem dX4_lookAtBlocks_55 : decode cX4_lookAtBlocks 55 = .ok (.sipush 2000, 3) := by decide +kernel
theorem dX4_lookAtBlocks_58 : decode cX4_lookAtBlocks 58 = .ok (.isub, 1) := by decide +kernel
theorem dX4_lookAtBlocks_59 : decode cX4_lookAtBlocks 59 = .ok (.i2l, 1) := by decide +kernel
theorem dX4_lookAtBlocks_60 : decode cX4_lookAtBlocks 60 = .ok (.lcmp, 1) := by decide +kernel
theorem dX4_lookAtBlocks_61 : decode cX4_lookAtBlocks 61 = .ok (.ifCond .ge 11, 3) := by decide +kernel
theorem dX4_lookAtBlocks_64 : decode cX4_lookAtBlocks 64 = .ok (.aload_n 0, 1) := by decide +kernel
theorem dX4_lookAtBlocks_65 : decode cX4_lookAtBlocks 65 = .ok (.bipush 6, 2) := by decide +kernel
theorem dX4_lookAtBlocks_67 : decode cX4_lookAtBlocks 67 = .ok (.iload 6, 2) := by decide +kernel
theorem dX4_lookAtBlocks_69 : decode cX4_lookAtBlocks 69 = .ok (.invokevirtual 66, 3) := by decide +kernel
theorem dX4_lookAtBlocks_72 : decode cX4_lookAtBlocks 72 = .ok (.aload_n 0, 1) := by decide +kernel
theorem dX4_lookAtBlocks_73 : decode cX4_lookAtBlocks 73 = .ok (.getfield 15, 3) := by decide +kernel
theorem dX4_lookAtBlocks_76 : decode cX4_lookAtBlocks 76 = .ok (.ifCond .eq 4, 3) := by decide +kernel
theorem dX4_lookAtBlocks_79 : decode cX4_lookAtBlocks 79 = .ok (.return_, 1) := by decide +kernel
theorem dX4_lookAtBlocks_80 : decode cX4_lookAtBlocks 80 = .ok (.lload 7, 2) := by decide +kernel
theorem dX4_lookAtBlocks_82 : decode cX4_lookAtBlocks 82 = .ok (.lconst 0, 1) := by decide +kernel
theorem dX4_lookAtBlocks_83 : decode cX4_lookAtBlocks 83 = .ok (.lcmp, 1) := by decide +kernel
theorem dX4_lookAtBlocks_84 : decode cX4_lookAtBlocks 84 = .ok (.ifCond .ne 6, 3) := by decide +kernel
theorem dX4_lookAtBlocks_87 : decode cX4_lookAtBlocks 87 = .ok (.goto 61, 3) := by decide +kernel
theorem dX4_lookAtBlocks_90 : decode cX4_lookAtBlocks 90 = .ok (.lload 7, 2) := by decide +kernel
theorem dX4_lookAtBlocks_92 : decode cX4_lookAtBlocks 92 = .ok (.invokestatic 134, 3) := by decide +kernel
theorem dX4_lookAtBlocks_95 : decode cX4_lookAtBlocks 95 = .ok (.l2i, 1) := by decide +kernel
theorem dX4_lookAtBlocks_96 : decode cX4_lookAtBlocks 96 = .ok (.istore 9, 2) := by decide +kernel
theorem dX4_lookAtBlocks_98 : decode cX4_lookAtBlocks 98 = .ok (.aload_n 0, 1) := by decide +kernel
theorem dX4_lookAtBlocks_99 : decode cX4_lookAtBlocks 99 = .ok (.dup, 1) := by decide +kernel
theorem dX4_lookAtBlocks_100 : decode cX4_lookAtBlocks 100 = .ok (.getfield 50, 3) := by decide +kernel
theorem dX4_lookAtBlocks_103 : decode cX4_lookAtBlocks 103 = .ok (.iload 9, 2) := by decide +kernel
theorem dX4_lookAtBlocks_105 : decode cX4_lookAtBlocks 105 = .ok (.iadd, 1) := by decide +kernel
theorem dX4_lookAtBlocks_106 : decode cX4_lookAtBlocks 106 = .ok (.putfield 50, 3) := by decide +kernel
theorem dX4_lookAtBlocks_109 : decode cX4_lookAtBlocks 109 = .ok (.iload 4, 2) := by decide +kernel
theorem dX4_lookAtBlocks_111 : decode cX4_lookAtBlocks 111 = .ok (.iload 9, 2) := by decide +kernel
theorem dX4_lookAtBlocks_113 : decode cX4_lookAtBlocks 113 = .ok (.iadd, 1) := by decide +kernel
theorem dX4_lookAtBlocks_114 : decode cX4_lookAtBlocks 114 = .ok (.istore 4, 2) := by decide +kernel
theorem dX4_lookAtBlocks_116 : decode cX4_lookAtBlocks 116 = .ok (.lload 7, 2) := by decide +kernel
