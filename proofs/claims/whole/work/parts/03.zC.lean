theorem dC_init_0 : decode cC_init 0 = .ok (.aload_n 0, 1) := by decide +kernel
theorem dC_init_1 : decode cC_init 1 = .ok (.invokespecial 3, 3) := by decide +kernel
theorem dC_init_4 : decode cC_init 4 = .ok (.aload_n 0, 1) := by decide +kernel
theorem dC_init_5 : decode cC_init 5 = .ok (.bipush 8, 2) := by decide +kernel
theorem dC_init_7 : decode cC_init 7 = .ok (.newarray .int, 2) := by decide +kernel
theorem dC_init_9 : decode cC_init 9 = .ok (.putfield 9, 3) := by decide +kernel
theorem dC_init_12 : decode cC_init 12 = .ok (.aload_n 0, 1) := by decide +kernel
theorem dC_init_13 : decode cC_init 13 = .ok (.bipush 64, 2) := by decide +kernel
theorem dC_init_15 : decode cC_init 15 = .ok (.invokestatic 13, 3) := by decide +kernel
theorem dC_init_18 : decode cC_init 18 = .ok (.putfield 17, 3) := by decide +kernel
theorem dC_init_21 : decode cC_init 21 = .ok (.aload_n 0, 1) := by decide +kernel
theorem dC_init_22 : decode cC_init 22 = .ok (.new 21, 3) := by decide +kernel
theorem dC_init_25 : decode cC_init 25 = .ok (.dup, 1) := by decide +kernel
theorem dC_init_26 : decode cC_init 26 = .ok (.invokespecial 23, 3) := by decide +kernel
theorem dC_init_29 : decode cC_init 29 = .ok (.putfield 24, 3) := by decide +kernel
theorem dC_init_32 : decode cC_init 32 = .ok (.aload_n 0, 1) := by decide +kernel
theorem dC_init_33 : decode cC_init 33 = .ok (.bipush 11, 2) := by decide +kernel
theorem dC_init_35 : decode cC_init 35 = .ok (.newarray .int, 2) := by decide +kernel
theorem dC_init_37 : decode cC_init 37 = .ok (.putfield 28, 3) := by decide +kernel
theorem dC_init_40 : decode cC_init 40 = .ok (.aload_n 0, 1) := by decide +kernel
theorem dC_init_41 : decode cC_init 41 = .ok (.sipush 264, 3) := by decide +kernel
theorem dC_init_44 : decode cC_init 44 = .ok (.anewarray 31, 3) := by decide +kernel
theorem dC_init_47 : decode cC_init 47 = .ok (.putfield 33, 3) := by decide +kernel
theorem dC_init_50 : decode cC_init 50 = .ok (.aload_n 0, 1) := by decide +kernel
theorem dC_init_51 : decode cC_init 51 = .ok (.bipush 32, 2) := by decide +kernel
theorem dC_init_53 : decode cC_init 53 = .ok (.anewarray 31, 3) := by decide +kernel
theorem dC_init_56 : decode cC_init 56 = .ok (.putfield 37, 3) := by decide +kernel
theorem dC_init_59 : decode cC_init 59 = .ok (.aload_n 0, 1) := by decide +kernel
theorem dC_init_60 : decode cC_init 60 = .ok (.aconst_null, 1) := by decide +kernel
theorem dC_init_61 : decode cC_init 61 = .ok (.putfield 40, 3) := by decide +kernel
theorem dC_init_64 : decode cC_init 64 = .ok (.aload_n 0, 1) := by decide +kernel
theorem dC_init_65 : decode cC_init 65 = .ok (.iconst 1, 1) := by decide +kernel
theorem dC_init_66 : decode cC_init 66 = .ok (.putfield 44, 3) := by decide +kernel
theorem dC_init_69 : decode cC_init 69 = .ok (.return_, 1) := by decide +kernel
theorem dC_newPages_0 : decode cC_newPages 0 = .ok (.iload_n 0, 1) := by decide +kernel
theorem dC_newPages_1 : decode cC_newPages 1 = .ok (.anewarray 116, 3) := by decide +kernel
theorem dC_newPages_4 : decode cC_newPages 4 = .ok (.astore_n 1, 1) := by decide +kernel
theorem dC_newPages_5 : decode cC_newPages 5 = .ok (.iconst 0, 1) := by decide +kernel
theorem dC_newPages_6 : decode cC_newPages 6 = .ok (.istore_n 2, 1) := by decide +kernel
theorem dC_newPages_7 : decode cC_newPages 7 = .ok (.iload_n 2, 1) := by decide +kernel
theorem dC_newPages_8 : decode cC_newPages 8 = .ok (.iload_n 0, 1) := by decide +kernel
theorem dC_newPages_9 : decode cC_newPages 9 = .ok (.if_icmp .ge 19, 3) := by decide +kernel
theorem dC_newPages_12 : decode cC_newPages 12 = .ok (.aload_n 1, 1) := by decide +kernel
theorem dC_newPages_13 : decode cC_newPages 13 = .ok (.iload_n 2, 1) := by decide +kernel
theorem dC_newPages_14 : decode cC_newPages 14 = .ok (.new 116, 3) := by decide +kernel
theorem dC_newPages_17 : decode cC_newPages 17 = .ok (.dup, 1) := by decide +kernel
theorem dC_newPages_18 : decode cC_newPages 18 = .ok (.invokespecial 213, 3) := by decide +kernel
theorem dC_newPages_21 : decode cC_newPages 21 = .ok (.aastore, 1) := by decide +kernel
theorem dC_newPages_22 : decode cC_newPages 22 = .ok (.iinc 2 1, 3) := by decide +kernel
theorem dC_newPages_25 : decode cC_newPages 25 = .ok (.goto (-18), 3) := by decide +kernel
theorem dC_newPages_28 : decode cC_newPages 28 = .ok (.aload_n 1, 1) := by decide +kernel
theorem dC_newPages_29 : decode cC_newPages 29 = .ok (.areturn, 1) := by decide +kernel
theorem dC_setOf_0 : decode cC_setOf 0 = .ok (.lload_n 1, 1) := by decide +kernel
theorem dC_setOf_1 : decode cC_setOf 1 = .ok (.invokestatic 107, 3) := by decide +kernel
theorem dC_setOf_4 : decode cC_setOf 4 = .ok (.invokestatic 111, 3) := by decide +kernel
theorem dC_setOf_7 : decode cC_setOf 7 = .ok (.ireturn, 1) := by decide +kernel
theorem dC_mix_0 : decode cC_mix 0 = .ok (.lload_n 0, 1) := by decide +kernel
theorem dC_mix_1 : decode cC_mix 1 = .ok (.lload_n 0, 1) := by decide +kernel
theorem dC_mix_2 : decode cC_mix 2 = .ok (.bipush 30, 2) := by decide +kernel
theorem dC_mix_4 : decode cC_mix 4 = .ok (.lushr, 1) := by decide +kernel
theorem dC_mix_5 : decode cC_mix 5 = .ok (.lxor, 1) := by decide +kernel
theorem dC_mix_6 : decode cC_mix 6 = .ok (.ldc2_w 207, 3) := by decide +kernel
theorem dC_mix_9 : decode cC_mix 9 = .ok (.lmul, 1) := by decide +kernel
theorem dC_mix_10 : decode cC_mix 10 = .ok (.lstore_n 2, 1) := by decide +kernel
theorem dC_mix_11 : decode cC_mix 11 = .ok (.lload_n 2, 1) := by decide +kernel
theorem dC_mix_12 : decode cC_mix 12 = .ok (.lload_n 2, 1) := by decide +kernel
theorem dC_mix_13 : decode cC_mix 13 = .ok (.bipush 27, 2) := by decide +kernel
theorem dC_mix_15 : decode cC_mix 15 = .ok (.lushr, 1) := by decide +kernel
theorem dC_mix_16 : decode cC_mix 16 = .ok (.lxor, 1) := by decide +kernel
theorem dC_mix_17 : decode cC_mix 17 = .ok (.ldc2_w 209, 3) := by decide +kernel
theorem dC_mix_20 : decode cC_mix 20 = .ok (.lmul, 1) := by decide +kernel
theorem dC_mix_21 : decode cC_mix 21 = .ok (.lstore_n 2, 1) := by decide +kernel
theorem dC_mix_22 : decode cC_mix 22 = .ok (.lload_n 2, 1) := by decide +kernel
theorem dC_mix_23 : decode cC_mix 23 = .ok (.lload_n 2, 1) := by decide +kernel
theorem dC_mix_24 : decode cC_mix 24 = .ok (.bipush 31, 2) := by decide +kernel
theorem dC_mix_26 : decode cC_mix 26 = .ok (.lushr, 1) := by decide +kernel
theorem dC_mix_27 : decode cC_mix 27 = .ok (.lxor, 1) := by decide +kernel
theorem dC_mix_28 : decode cC_mix 28 = .ok (.lreturn, 1) := by decide +kernel
theorem dC_setNumber_0 : decode cC_setNumber 0 = .ok (.lload_n 0, 1) := by decide +kernel
theorem dC_setNumber_1 : decode cC_setNumber 1 = .ok (.bipush 58, 2) := by decide +kernel
theorem dC_setNumber_3 : decode cC_setNumber 3 = .ok (.lushr, 1) := by decide +kernel
theorem dC_setNumber_4 : decode cC_setNumber 4 = .ok (.l2i, 1) := by decide +kernel
theorem dC_setNumber_5 : decode cC_setNumber 5 = .ok (.ireturn, 1) := by decide +kernel
theorem dC_count_0 : decode cC_count 0 = .ok (.iload_n 1, 1) := by decide +kernel
theorem dC_count_1 : decode cC_count 1 = .ok (.ifCond .lt 9, 3) := by decide +kernel
theorem dC_count_4 : decode cC_count 4 = .ok (.iload_n 1, 1) := by decide +kernel
theorem dC_count_5 : decode cC_count 5 = .ok (.bipush 12, 2) := by decide +kernel
theorem dC_count_7 : decode cC_count 7 = .ok (.if_icmp .le 5, 3) := by decide +kernel
theorem dC_count_10 : decode cC_count 10 = .ok (.iconst (-1), 1) := by decide +kernel
theorem dC_count_11 : decode cC_count 11 = .ok (.ireturn, 1) := by decide +kernel
theorem dC_count_12 : decode cC_count 12 = .ok (.iload_n 1, 1) := by decide +kernel
theorem dC_count_13 : decode cC_count 13 = .ok (.ifCond .ne 11, 3) := by decide +kernel
theorem dC_count_16 : decode cC_count 16 = .ok (.aload_n 0, 1) := by decide +kernel
theorem dC_count_17 : decode cC_count 17 = .ok (.getfield 24, 3) := by decide +kernel
theorem dC_count_20 : decode cC_count 20 = .ok (.invokevirtual 140, 3) := by decide +kernel
theorem dC_count_23 : decode cC_count 23 = .ok (.ireturn, 1) := by decide +kernel
theorem dC_count_24 : decode cC_count 24 = .ok (.iload_n 1, 1) := by decide +kernel
theorem dC_count_25 : decode cC_count 25 = .ok (.bipush 11, 2) := by decide +kernel
theorem dC_count_27 : decode cC_count 27 = .ok (.if_icmp .ne 14, 3) := by decide +kernel
theorem dC_count_30 : decode cC_count 30 = .ok (.aload_n 0, 1) := by decide +kernel
theorem dC_count_31 : decode cC_count 31 = .ok (.getfield 24, 3) := by decide +kernel
theorem dC_count_34 : decode cC_count 34 = .ok (.getfield 77, 3) := by decide +kernel
theorem dC_count_37 : decode cC_count 37 = .ok (.getfield 136, 3) := by decide +kernel
theorem dC_count_40 : decode cC_count 40 = .ok (.ireturn, 1) := by decide +kernel
theorem dC_count_41 : decode cC_count 41 = .ok (.iload_n 1, 1) := by decide +kernel
theorem dC_count_42 : decode cC_count 42 = .ok (.bipush 12, 2) := by decide +kernel
theorem dC_count_44 : decode cC_count 44 = .ok (.if_icmp .ne 16, 3) := by decide +kernel
theorem dC_count_47 : decode cC_count 47 = .ok (.aload_n 0, 1) := by decide +kernel
theorem dC_count_48 : decode cC_count 48 = .ok (.getfield 24, 3) := by decide +kernel
theorem dC_count_51 : decode cC_count 51 = .ok (.getfield 144, 3) := by decide +kernel
theorem dC_count_54 : decode cC_count 54 = .ok (.getfield 148, 3) := by decide +kernel
theorem dC_count_57 : decode cC_count 57 = .ok (.goto 9, 3) := by decide +kernel
theorem dC_count_60 : decode cC_count 60 = .ok (.aload_n 0, 1) := by decide +kernel
theorem dC_count_61 : decode cC_count 61 = .ok (.getfield 28, 3) := by decide +kernel
theorem dC_count_64 : decode cC_count 64 = .ok (.iload_n 1, 1) := by decide +kernel
theorem dC_count_65 : decode cC_count 65 = .ok (.iaload, 1) := by decide +kernel
theorem dC_count_66 : decode cC_count 66 = .ok (.ireturn, 1) := by decide +kernel
theorem dC_word_0 : decode cC_word 0 = .ok (.iload_n 1, 1) := by decide +kernel
theorem dC_word_1 : decode cC_word 1 = .ok (.ifCond .lt 9, 3) := by decide +kernel
theorem dC_word_4 : decode cC_word 4 = .ok (.iload_n 1, 1) := by decide +kernel
theorem dC_word_5 : decode cC_word 5 = .ok (.bipush 8, 2) := by decide +kernel
theorem dC_word_7 : decode cC_word 7 = .ok (.if_icmp .lt 11, 3) := by decide +kernel
theorem dC_word_10 : decode cC_word 10 = .ok (.new 48, 3) := by decide +kernel
theorem dC_word_13 : decode cC_word 13 = .ok (.dup, 1) := by decide +kernel
theorem dC_word_14 : decode cC_word 14 = .ok (.invokespecial 50, 3) := by decide +kernel
theorem dC_word_17 : decode cC_word 17 = .ok (.athrow, 1) := by decide +kernel
theorem dC_word_18 : decode cC_word 18 = .ok (.aload_n 0, 1) := by decide +kernel
theorem dC_word_19 : decode cC_word 19 = .ok (.getfield 9, 3) := by decide +kernel
theorem dC_word_22 : decode cC_word 22 = .ok (.iload_n 1, 1) := by decide +kernel
theorem dC_word_23 : decode cC_word 23 = .ok (.iaload, 1) := by decide +kernel
theorem dC_word_24 : decode cC_word 24 = .ok (.istore_n 3, 1) := by decide +kernel
theorem dC_word_25 : decode cC_word 25 = .ok (.aload_n 0, 1) := by decide +kernel
theorem dC_word_26 : decode cC_word 26 = .ok (.getfield 9, 3) := by decide +kernel
theorem dC_word_29 : decode cC_word 29 = .ok (.iload_n 1, 1) := by decide +kernel
theorem dC_word_30 : decode cC_word 30 = .ok (.iload_n 2, 1) := by decide +kernel
theorem dC_word_31 : decode cC_word 31 = .ok (.iastore, 1) := by decide +kernel
theorem dC_word_32 : decode cC_word 32 = .ok (.iload_n 3, 1) := by decide +kernel
theorem dC_word_33 : decode cC_word 33 = .ok (.ireturn, 1) := by decide +kernel
theorem dC_put_0 : decode cC_put 0 = .ok (.aload_n 0, 1) := by decide +kernel
theorem dC_put_1 : decode cC_put 1 = .ok (.invokevirtual 51, 3) := by decide +kernel
theorem dC_put_4 : decode cC_put 4 = .ok (.iload_n 3, 1) := by decide +kernel
theorem dC_put_5 : decode cC_put 5 = .ok (.iconst 1, 1) := by decide +kernel
theorem dC_put_6 : decode cC_put 6 = .ok (.if_icmp .lt 9, 3) := by decide +kernel
theorem dC_put_9 : decode cC_put 9 = .ok (.iload_n 3, 1) := by decide +kernel
theorem dC_put_10 : decode cC_put 10 = .ok (.bipush 8, 2) := by decide +kernel
theorem dC_put_12 : decode cC_put 12 = .ok (.if_icmp .le 11, 3) := by decide +kernel
theorem dC_put_15 : decode cC_put 15 = .ok (.new 54, 3) := by decide +kernel
theorem dC_put_18 : decode cC_put 18 = .ok (.dup, 1) := by decide +kernel
theorem dC_put_19 : decode cC_put 19 = .ok (.invokespecial 56, 3) := by decide +kernel
theorem dC_put_22 : decode cC_put 22 = .ok (.athrow, 1) := by decide +kernel
theorem dC_put_23 : decode cC_put 23 = .ok (.new 31, 3) := by decide +kernel
theorem dC_put_26 : decode cC_put 26 = .ok (.dup, 1) := by decide +kernel
theorem dC_put_27 : decode cC_put 27 = .ok (.lload_n 1, 1) := by decide +kernel
theorem dC_put_28 : decode cC_put 28 = .ok (.aload_n 0, 1) := by decide +kernel
theorem dC_put_29 : decode cC_put 29 = .ok (.getfield 9, 3) := by decide +kernel
theorem dC_put_32 : decode cC_put 32 = .ok (.iload_n 3, 1) := by decide +kernel
theorem dC_put_33 : decode cC_put 33 = .ok (.invokestatic 57, 3) := by decide +kernel
theorem dC_put_36 : decode cC_put 36 = .ok (.invokespecial 63, 3) := by decide +kernel
theorem dC_put_39 : decode cC_put 39 = .ok (.astore 4, 2) := by decide +kernel
theorem dC_put_41 : decode cC_put 41 = .ok (.iconst 0, 1) := by decide +kernel
theorem dC_put_42 : decode cC_put 42 = .ok (.istore 5, 2) := by decide +kernel
theorem dC_put_44 : decode cC_put 44 = .ok (.iload 5, 2) := by decide +kernel
theorem dC_put_46 : decode cC_put 46 = .ok (.bipush 32, 2) := by decide +kernel
theorem dC_put_48 : decode cC_put 48 = .ok (.if_icmp .ge 25, 3) := by decide +kernel
theorem dC_put_51 : decode cC_put 51 = .ok (.aload_n 0, 1) := by decide +kernel
theorem dC_put_52 : decode cC_put 52 = .ok (.getfield 24, 3) := by decide +kernel
theorem dC_put_55 : decode cC_put 55 = .ok (.aload 4, 2) := by decide +kernel
theorem dC_put_57 : decode cC_put 57 = .ok (.invokevirtual 66, 3) := by decide +kernel
theorem dC_put_60 : decode cC_put 60 = .ok (.ifCond .ne 13, 3) := by decide +kernel
theorem dC_put_63 : decode cC_put 63 = .ok (.aload_n 0, 1) := by decide +kernel
theorem dC_put_64 : decode cC_put 64 = .ok (.invokevirtual 70, 3) := by decide +kernel
theorem dC_put_67 : decode cC_put 67 = .ok (.iinc 5 1, 3) := by decide +kernel
theorem dC_put_70 : decode cC_put 70 = .ok (.goto (-26), 3) := by decide +kernel
theorem dC_put_73 : decode cC_put 73 = .ok (.aload_n 0, 1) := by decide +kernel
theorem dC_put_74 : decode cC_put 74 = .ok (.getfield 24, 3) := by decide +kernel
theorem dC_put_77 : decode cC_put 77 = .ok (.aload 4, 2) := by decide +kernel
theorem dC_put_79 : decode cC_put 79 = .ok (.invokevirtual 73, 3) := by decide +kernel
theorem dC_put_82 : decode cC_put 82 = .ok (.return_, 1) := by decide +kernel
theorem dC_refuseWhenClosed_0 : decode cC_refuseWhenClosed 0 = .ok (.aload_n 0, 1) := by decide +kernel
theorem dC_refuseWhenClosed_1 : decode cC_refuseWhenClosed 1 = .ok (.getfield 44, 3) := by decide +kernel
theorem dC_refuseWhenClosed_4 : decode cC_refuseWhenClosed 4 = .ok (.ifCond .ne 11, 3) := by decide +kernel
theorem dC_refuseWhenClosed_7 : decode cC_refuseWhenClosed 7 = .ok (.new 133, 3) := by decide +kernel
theorem dC_refuseWhenClosed_10 : decode cC_refuseWhenClosed 10 = .ok (.dup, 1) := by decide +kernel
theorem dC_refuseWhenClosed_11 : decode cC_refuseWhenClosed 11 = .ok (.invokespecial 135, 3) := by decide +kernel
theorem dC_refuseWhenClosed_14 : decode cC_refuseWhenClosed 14 = .ok (.athrow, 1) := by decide +kernel
theorem dC_refuseWhenClosed_15 : decode cC_refuseWhenClosed 15 = .ok (.return_, 1) := by decide +kernel
theorem dC_filterBit_0 : decode cC_filterBit 0 = .ok (.lconst 1, 1) := by decide +kernel
theorem dC_filterBit_1 : decode cC_filterBit 1 = .ok (.lload_n 0, 1) := by decide +kernel
theorem dC_filterBit_2 : decode cC_filterBit 2 = .ok (.ldc2_w 211, 3) := by decide +kernel
theorem dC_filterBit_5 : decode cC_filterBit 5 = .ok (.land, 1) := by decide +kernel
theorem dC_filterBit_6 : decode cC_filterBit 6 = .ok (.l2i, 1) := by decide +kernel
theorem dC_filterBit_7 : decode cC_filterBit 7 = .ok (.lshl, 1) := by decide +kernel
theorem dC_filterBit_8 : decode cC_filterBit 8 = .ok (.lreturn, 1) := by decide +kernel
theorem dC_writeOpenPage_0 : decode cC_writeOpenPage 0 = .ok (.aload_n 0, 1) := by decide +kernel
theorem dC_writeOpenPage_1 : decode cC_writeOpenPage 1 = .ok (.getfield 24, 3) := by decide +kernel
theorem dC_writeOpenPage_4 : decode cC_writeOpenPage 4 = .ok (.invokevirtual 151, 3) := by decide +kernel
theorem dC_writeOpenPage_7 : decode cC_writeOpenPage 7 = .ok (.ifCond .eq 10, 3) := by decide +kernel
theorem dC_writeOpenPage_10 : decode cC_writeOpenPage 10 = .ok (.aload_n 0, 1) := by decide +kernel
theorem dC_writeOpenPage_11 : decode cC_writeOpenPage 11 = .ok (.invokevirtual 155, 3) := by decide +kernel
theorem dC_writeOpenPage_14 : decode cC_writeOpenPage 14 = .ok (.goto 4, 3) := by decide +kernel
theorem dC_writeOpenPage_17 : decode cC_writeOpenPage 17 = .ok (.iconst 0, 1) := by decide +kernel
theorem dC_writeOpenPage_18 : decode cC_writeOpenPage 18 = .ok (.istore_n 1, 1) := by decide +kernel
theorem dC_writeOpenPage_19 : decode cC_writeOpenPage 19 = .ok (.aload_n 0, 1) := by decide +kernel
theorem dC_writeOpenPage_20 : decode cC_writeOpenPage 20 = .ok (.getfield 24, 3) := by decide +kernel
theorem dC_writeOpenPage_23 : decode cC_writeOpenPage 23 = .ok (.invokevirtual 158, 3) := by decide +kernel
theorem dC_writeOpenPage_26 : decode cC_writeOpenPage 26 = .ok (.iconst 0, 1) := by decide +kernel
theorem dC_writeOpenPage_27 : decode cC_writeOpenPage 27 = .ok (.istore_n 2, 1) := by decide +kernel
theorem dC_writeOpenPage_28 : decode cC_writeOpenPage 28 = .ok (.iload_n 2, 1) := by decide +kernel
theorem dC_writeOpenPage_29 : decode cC_writeOpenPage 29 = .ok (.iload_n 1, 1) := by decide +kernel
theorem dC_writeOpenPage_30 : decode cC_writeOpenPage 30 = .ok (.if_icmp .ge 45, 3) := by decide +kernel
theorem dC_writeOpenPage_33 : decode cC_writeOpenPage 33 = .ok (.aload_n 0, 1) := by decide +kernel
theorem dC_writeOpenPage_34 : decode cC_writeOpenPage 34 = .ok (.getfield 24, 3) := by decide +kernel
theorem dC_writeOpenPage_37 : decode cC_writeOpenPage 37 = .ok (.aload_n 0, 1) := by decide +kernel
theorem dC_writeOpenPage_38 : decode cC_writeOpenPage 38 = .ok (.getfield 37, 3) := by decide +kernel
theorem dC_writeOpenPage_41 : decode cC_writeOpenPage 41 = .ok (.iload_n 2, 1) := by decide +kernel
theorem dC_writeOpenPage_42 : decode cC_writeOpenPage 42 = .ok (.aaload, 1) := by decide +kernel
theorem dC_writeOpenPage_43 : decode cC_writeOpenPage 43 = .ok (.invokevirtual 66, 3) := by decide +kernel
theorem dC_writeOpenPage_46 : decode cC_writeOpenPage 46 = .ok (.ifCond .ne 10, 3) := by decide +kernel
theorem dC_writeOpenPage_49 : decode cC_writeOpenPage 49 = .ok (.aload_n 0, 1) := by decide +kernel
theorem dC_writeOpenPage_50 : decode cC_writeOpenPage 50 = .ok (.getfield 24, 3) := by decide +kernel
theorem dC_writeOpenPage_53 : decode cC_writeOpenPage 53 = .ok (.invokevirtual 158, 3) := by decide +kernel
theorem dC_writeOpenPage_56 : decode cC_writeOpenPage 56 = .ok (.aload_n 0, 1) := by decide +kernel
theorem dC_writeOpenPage_57 : decode cC_writeOpenPage 57 = .ok (.getfield 24, 3) := by decide +kernel
theorem dC_writeOpenPage_60 : decode cC_writeOpenPage 60 = .ok (.aload_n 0, 1) := by decide +kernel
theorem dC_writeOpenPage_61 : decode cC_writeOpenPage 61 = .ok (.getfield 37, 3) := by decide +kernel
theorem dC_writeOpenPage_64 : decode cC_writeOpenPage 64 = .ok (.iload_n 2, 1) := by decide +kernel
theorem dC_writeOpenPage_65 : decode cC_writeOpenPage 65 = .ok (.aaload, 1) := by decide +kernel
theorem dC_writeOpenPage_66 : decode cC_writeOpenPage 66 = .ok (.invokevirtual 73, 3) := by decide +kernel
theorem dC_writeOpenPage_69 : decode cC_writeOpenPage 69 = .ok (.iinc 2 1, 3) := by decide +kernel
theorem dC_writeOpenPage_72 : decode cC_writeOpenPage 72 = .ok (.goto (-44), 3) := by decide +kernel
theorem dC_writeOpenPage_75 : decode cC_writeOpenPage 75 = .ok (.aload_n 0, 1) := by decide +kernel
theorem dC_writeOpenPage_76 : decode cC_writeOpenPage 76 = .ok (.getfield 28, 3) := by decide +kernel
theorem dC_writeOpenPage_79 : decode cC_writeOpenPage 79 = .ok (.bipush 10, 2) := by decide +kernel
theorem dC_writeOpenPage_81 : decode cC_writeOpenPage 81 = .ok (.dup2, 1) := by decide +kernel
theorem dC_writeOpenPage_82 : decode cC_writeOpenPage 82 = .ok (.iaload, 1) := by decide +kernel
theorem dC_writeOpenPage_83 : decode cC_writeOpenPage 83 = .ok (.iload_n 1, 1) := by decide +kernel
theorem dC_writeOpenPage_84 : decode cC_writeOpenPage 84 = .ok (.iadd, 1) := by decide +kernel
theorem dC_writeOpenPage_85 : decode cC_writeOpenPage 85 = .ok (.iastore, 1) := by decide +kernel
theorem dC_writeOpenPage_86 : decode cC_writeOpenPage 86 = .ok (.return_, 1) := by decide +kernel
theorem dC_emptySegment_0 : decode cC_emptySegment 0 = .ok (.aload_n 0, 1) := by decide +kernel
theorem dC_emptySegment_1 : decode cC_emptySegment 1 = .ok (.getfield 24, 3) := by decide +kernel
theorem dC_emptySegment_4 : decode cC_emptySegment 4 = .ok (.invokevirtual 161, 3) := by decide +kernel
theorem dC_emptySegment_7 : decode cC_emptySegment 7 = .ok (.istore_n 1, 1) := by decide +kernel
theorem dC_emptySegment_8 : decode cC_emptySegment 8 = .ok (.aload_n 0, 1) := by decide +kernel
theorem dC_emptySegment_9 : decode cC_emptySegment 9 = .ok (.getfield 24, 3) := by decide +kernel
theorem dC_emptySegment_12 : decode cC_emptySegment 12 = .ok (.getfield 77, 3) := by decide +kernel
theorem dC_emptySegment_15 : decode cC_emptySegment 15 = .ok (.iload_n 1, 1) := by decide +kernel
theorem dC_emptySegment_16 : decode cC_emptySegment 16 = .ok (.aload_n 0, 1) := by decide +kernel
theorem dC_emptySegment_17 : decode cC_emptySegment 17 = .ok (.getfield 37, 3) := by decide +kernel
theorem dC_emptySegment_20 : decode cC_emptySegment 20 = .ok (.invokevirtual 164, 3) := by decide +kernel
theorem dC_emptySegment_23 : decode cC_emptySegment 23 = .ok (.istore_n 2, 1) := by decide +kernel
theorem dC_emptySegment_24 : decode cC_emptySegment 24 = .ok (.aload_n 0, 1) := by decide +kernel
theorem dC_emptySegment_25 : decode cC_emptySegment 25 = .ok (.getfield 24, 3) := by decide +kernel
theorem dC_emptySegment_28 : decode cC_emptySegment 28 = .ok (.getfield 77, 3) := by decide +kernel
theorem dC_emptySegment_31 : decode cC_emptySegment 31 = .ok (.iload_n 1, 1) := by decide +kernel
theorem dC_emptySegment_32 : decode cC_emptySegment 32 = .ok (.invokevirtual 168, 3) := by decide +kernel
theorem dC_emptySegment_35 : decode cC_emptySegment 35 = .ok (.lstore_n 3, 1) := by decide +kernel
theorem dC_emptySegment_36 : decode cC_emptySegment 36 = .ok (.iconst 0, 1) := by decide +kernel
theorem dC_emptySegment_37 : decode cC_emptySegment 37 = .ok (.istore 5, 2) := by decide +kernel
theorem dC_emptySegment_39 : decode cC_emptySegment 39 = .ok (.iload 5, 2) := by decide +kernel
theorem dC_emptySegment_41 : decode cC_emptySegment 41 = .ok (.bipush 64, 2) := by decide +kernel
theorem dC_emptySegment_43 : decode cC_emptySegment 43 = .ok (.if_icmp .ge 89, 3) := by decide +kernel
theorem dC_emptySegment_46 : decode cC_emptySegment 46 = .ok (.lload_n 3, 1) := by decide +kernel
theorem dC_emptySegment_47 : decode cC_emptySegment 47 = .ok (.iload 5, 2) := by decide +kernel
theorem dC_emptySegment_49 : decode cC_emptySegment 49 = .ok (.lushr, 1) := by decide +kernel
theorem dC_emptySegment_50 : decode cC_emptySegment 50 = .ok (.lconst 1, 1) := by decide +kernel
theorem dC_emptySegment_51 : decode cC_emptySegment 51 = .ok (.land, 1) := by decide +kernel
theorem dC_emptySegment_52 : decode cC_emptySegment 52 = .ok (.lconst 0, 1) := by decide +kernel
theorem dC_emptySegment_53 : decode cC_emptySegment 53 = .ok (.lcmp, 1) := by decide +kernel
theorem dC_emptySegment_54 : decode cC_emptySegment 54 = .ok (.ifCond .ne 6, 3) := by decide +kernel
theorem dC_emptySegment_57 : decode cC_emptySegment 57 = .ok (.goto 69, 3) := by decide +kernel
theorem dC_emptySegment_60 : decode cC_emptySegment 60 = .ok (.aload_n 0, 1) := by decide +kernel
theorem dC_emptySegment_61 : decode cC_emptySegment 61 = .ok (.getfield 24, 3) := by decide +kernel
theorem dC_emptySegment_64 : decode cC_emptySegment 64 = .ok (.getfield 77, 3) := by decide +kernel
theorem dC_emptySegment_67 : decode cC_emptySegment 67 = .ok (.iload 5, 2) := by decide +kernel
theorem dC_emptySegment_69 : decode cC_emptySegment 69 = .ok (.aload_n 0, 1) := by decide +kernel
theorem dC_emptySegment_70 : decode cC_emptySegment 70 = .ok (.getfield 33, 3) := by decide +kernel
theorem dC_emptySegment_73 : decode cC_emptySegment 73 = .ok (.invokevirtual 172, 3) := by decide +kernel
theorem dC_emptySegment_76 : decode cC_emptySegment 76 = .ok (.istore 6, 2) := by decide +kernel
theorem dC_emptySegment_78 : decode cC_emptySegment 78 = .ok (.iload 6, 2) := by decide +kernel
theorem dC_emptySegment_80 : decode cC_emptySegment 80 = .ok (.iconst 1, 1) := by decide +kernel
theorem dC_emptySegment_81 : decode cC_emptySegment 81 = .ok (.if_icmp .ne 32, 3) := by decide +kernel
theorem dC_emptySegment_84 : decode cC_emptySegment 84 = .ok (.aload_n 0, 1) := by decide +kernel
theorem dC_emptySegment_85 : decode cC_emptySegment 85 = .ok (.getfield 28, 3) := by decide +kernel
theorem dC_emptySegment_88 : decode cC_emptySegment 88 = .ok (.bipush 8, 2) := by decide +kernel
theorem dC_emptySegment_90 : decode cC_emptySegment 90 = .ok (.dup2, 1) := by decide +kernel
theorem dC_emptySegment_91 : decode cC_emptySegment 91 = .ok (.iaload, 1) := by decide +kernel
theorem dC_emptySegment_92 : decode cC_emptySegment 92 = .ok (.iconst 1, 1) := by decide +kernel
theorem dC_emptySegment_93 : decode cC_emptySegment 93 = .ok (.iadd, 1) := by decide +kernel
theorem dC_emptySegment_94 : decode cC_emptySegment 94 = .ok (.iastore, 1) := by decide +kernel
theorem dC_emptySegment_95 : decode cC_emptySegment 95 = .ok (.aload_n 0, 1) := by decide +kernel
theorem dC_emptySegment_96 : decode cC_emptySegment 96 = .ok (.aload_n 0, 1) := by decide +kernel
theorem dC_emptySegment_97 : decode cC_emptySegment 97 = .ok (.getfield 33, 3) := by decide +kernel
theorem dC_emptySegment_100 : decode cC_emptySegment 100 = .ok (.iconst 0, 1) := by decide +kernel
theorem dC_emptySegment_101 : decode cC_emptySegment 101 = .ok (.aaload, 1) := by decide +kernel
theorem dC_emptySegment_102 : decode cC_emptySegment 102 = .ok (.getfield 175, 3) := by decide +kernel
theorem dC_emptySegment_105 : decode cC_emptySegment 105 = .ok (.iconst 2, 1) := by decide +kernel
theorem dC_emptySegment_106 : decode cC_emptySegment 106 = .ok (.invokevirtual 103, 3) := by decide +kernel
theorem dC_emptySegment_109 : decode cC_emptySegment 109 = .ok (.pop, 1) := by decide +kernel
theorem dC_emptySegment_110 : decode cC_emptySegment 110 = .ok (.goto 16, 3) := by decide +kernel
theorem dC_emptySegment_113 : decode cC_emptySegment 113 = .ok (.aload_n 0, 1) := by decide +kernel
theorem dC_emptySegment_114 : decode cC_emptySegment 114 = .ok (.aload_n 0, 1) := by decide +kernel
theorem dC_emptySegment_115 : decode cC_emptySegment 115 = .ok (.getfield 17, 3) := by decide +kernel
theorem dC_emptySegment_118 : decode cC_emptySegment 118 = .ok (.iload 5, 2) := by decide +kernel
theorem dC_emptySegment_120 : decode cC_emptySegment 120 = .ok (.aaload, 1) := by decide +kernel
theorem dC_emptySegment_121 : decode cC_emptySegment 121 = .ok (.iload 6, 2) := by decide +kernel
theorem dC_emptySegment_123 : decode cC_emptySegment 123 = .ok (.invokevirtual 179, 3) := by decide +kernel
theorem dC_emptySegment_126 : decode cC_emptySegment 126 = .ok (.iinc 5 1, 3) := by decide +kernel
theorem dC_emptySegment_129 : decode cC_emptySegment 129 = .ok (.goto (-90), 3) := by decide +kernel
theorem dC_emptySegment_132 : decode cC_emptySegment 132 = .ok (.iload_n 2, 1) := by decide +kernel
theorem dC_emptySegment_133 : decode cC_emptySegment 133 = .ok (.ireturn, 1) := by decide +kernel
theorem dC_removeFromSet_0 : decode cC_removeFromSet 0 = .ok (.aload_n 0, 1) := by decide +kernel
theorem dC_removeFromSet_1 : decode cC_removeFromSet 1 = .ok (.lload_n 1, 1) := by decide +kernel
theorem dC_removeFromSet_2 : decode cC_removeFromSet 2 = .ok (.invokevirtual 87, 3) := by decide +kernel
theorem dC_removeFromSet_5 : decode cC_removeFromSet 5 = .ok (.ifnonnull 5, 3) := by decide +kernel
theorem dC_removeFromSet_8 : decode cC_removeFromSet 8 = .ok (.iconst 0, 1) := by decide +kernel
theorem dC_removeFromSet_9 : decode cC_removeFromSet 9 = .ok (.ireturn, 1) := by decide +kernel
theorem dC_removeFromSet_10 : decode cC_removeFromSet 10 = .ok (.aload_n 0, 1) := by decide +kernel
theorem dC_removeFromSet_11 : decode cC_removeFromSet 11 = .ok (.getfield 17, 3) := by decide +kernel
theorem dC_removeFromSet_14 : decode cC_removeFromSet 14 = .ok (.lload_n 1, 1) := by decide +kernel
theorem dC_removeFromSet_15 : decode cC_removeFromSet 15 = .ok (.invokestatic 107, 3) := by decide +kernel
theorem dC_removeFromSet_18 : decode cC_removeFromSet 18 = .ok (.invokestatic 111, 3) := by decide +kernel
theorem dC_removeFromSet_21 : decode cC_removeFromSet 21 = .ok (.aaload, 1) := by decide +kernel
theorem dC_removeFromSet_22 : decode cC_removeFromSet 22 = .ok (.lload_n 1, 1) := by decide +kernel
theorem dC_removeFromSet_23 : decode cC_removeFromSet 23 = .ok (.invokevirtual 183, 3) := by decide +kernel
theorem dC_removeFromSet_26 : decode cC_removeFromSet 26 = .ok (.aload_n 0, 1) := by decide +kernel
theorem dC_removeFromSet_27 : decode cC_removeFromSet 27 = .ok (.getfield 28, 3) := by decide +kernel
theorem dC_removeFromSet_30 : decode cC_removeFromSet 30 = .ok (.iload_n 3, 1) := by decide +kernel
theorem dC_removeFromSet_31 : decode cC_removeFromSet 31 = .ok (.dup2, 1) := by decide +kernel
theorem dC_removeFromSet_32 : decode cC_removeFromSet 32 = .ok (.iaload, 1) := by decide +kernel
theorem dC_removeFromSet_33 : decode cC_removeFromSet 33 = .ok (.iconst 1, 1) := by decide +kernel
theorem dC_removeFromSet_34 : decode cC_removeFromSet 34 = .ok (.iadd, 1) := by decide +kernel
theorem dC_removeFromSet_35 : decode cC_removeFromSet 35 = .ok (.iastore, 1) := by decide +kernel
theorem dC_removeFromSet_36 : decode cC_removeFromSet 36 = .ok (.iconst 1, 1) := by decide +kernel
theorem dC_removeFromSet_37 : decode cC_removeFromSet 37 = .ok (.ireturn, 1) := by decide +kernel
theorem dC_readFromSet_0 : decode cC_readFromSet 0 = .ok (.lload_n 1, 1) := by decide +kernel
theorem dC_readFromSet_1 : decode cC_readFromSet 1 = .ok (.invokestatic 107, 3) := by decide +kernel
theorem dC_readFromSet_4 : decode cC_readFromSet 4 = .ok (.lstore_n 3, 1) := by decide +kernel
theorem dC_readFromSet_5 : decode cC_readFromSet 5 = .ok (.aload_n 0, 1) := by decide +kernel
theorem dC_readFromSet_6 : decode cC_readFromSet 6 = .ok (.getfield 17, 3) := by decide +kernel
theorem dC_readFromSet_9 : decode cC_readFromSet 9 = .ok (.lload_n 3, 1) := by decide +kernel
theorem dC_readFromSet_10 : decode cC_readFromSet 10 = .ok (.invokestatic 111, 3) := by decide +kernel
theorem dC_readFromSet_13 : decode cC_readFromSet 13 = .ok (.aaload, 1) := by decide +kernel
theorem dC_readFromSet_14 : decode cC_readFromSet 14 = .ok (.astore 5, 2) := by decide +kernel
theorem dC_readFromSet_16 : decode cC_readFromSet 16 = .ok (.aload 5, 2) := by decide +kernel
theorem dC_readFromSet_18 : decode cC_readFromSet 18 = .ok (.getfield 201, 3) := by decide +kernel
theorem dC_readFromSet_21 : decode cC_readFromSet 21 = .ok (.lload_n 3, 1) := by decide +kernel
theorem dC_readFromSet_22 : decode cC_readFromSet 22 = .ok (.invokestatic 204, 3) := by decide +kernel
theorem dC_readFromSet_25 : decode cC_readFromSet 25 = .ok (.land, 1) := by decide +kernel
theorem dC_readFromSet_26 : decode cC_readFromSet 26 = .ok (.lconst 0, 1) := by decide +kernel
theorem dC_readFromSet_27 : decode cC_readFromSet 27 = .ok (.lcmp, 1) := by decide +kernel
theorem dC_readFromSet_28 : decode cC_readFromSet 28 = .ok (.ifCond .ne 5, 3) := by decide +kernel
theorem dC_readFromSet_31 : decode cC_readFromSet 31 = .ok (.aconst_null, 1) := by decide +kernel
theorem dC_readFromSet_32 : decode cC_readFromSet 32 = .ok (.areturn, 1) := by decide +kernel
theorem dC_readFromSet_33 : decode cC_readFromSet 33 = .ok (.aload_n 0, 1) := by decide +kernel
theorem dC_readFromSet_34 : decode cC_readFromSet 34 = .ok (.getfield 28, 3) := by decide +kernel
theorem dC_readFromSet_37 : decode cC_readFromSet 37 = .ok (.bipush 9, 2) := by decide +kernel
theorem dC_readFromSet_39 : decode cC_readFromSet 39 = .ok (.dup2, 1) := by decide +kernel
theorem dC_readFromSet_40 : decode cC_readFromSet 40 = .ok (.iaload, 1) := by decide +kernel
theorem dC_readFromSet_41 : decode cC_readFromSet 41 = .ok (.iconst 1, 1) := by decide +kernel
theorem dC_readFromSet_42 : decode cC_readFromSet 42 = .ok (.iadd, 1) := by decide +kernel
theorem dC_readFromSet_43 : decode cC_readFromSet 43 = .ok (.iastore, 1) := by decide +kernel
theorem dC_readFromSet_44 : decode cC_readFromSet 44 = .ok (.aload 5, 2) := by decide +kernel
theorem dC_readFromSet_46 : decode cC_readFromSet 46 = .ok (.lload_n 1, 1) := by decide +kernel
theorem dC_readFromSet_47 : decode cC_readFromSet 47 = .ok (.invokevirtual 115, 3) := by decide +kernel
theorem dC_readFromSet_50 : decode cC_readFromSet 50 = .ok (.areturn, 1) := by decide +kernel
theorem dC_moveGathered_0 : decode cC_moveGathered 0 = .ok (.aload_n 0, 1) := by decide +kernel
theorem dC_moveGathered_1 : decode cC_moveGathered 1 = .ok (.getfield 28, 3) := by decide +kernel
theorem dC_moveGathered_4 : decode cC_moveGathered 4 = .ok (.bipush 9, 2) := by decide +kernel
theorem dC_moveGathered_6 : decode cC_moveGathered 6 = .ok (.dup2, 1) := by decide +kernel
theorem dC_moveGathered_7 : decode cC_moveGathered 7 = .ok (.iaload, 1) := by decide +kernel
theorem dC_moveGathered_8 : decode cC_moveGathered 8 = .ok (.iconst 1, 1) := by decide +kernel
theorem dC_moveGathered_9 : decode cC_moveGathered 9 = .ok (.iadd, 1) := by decide +kernel
theorem dC_moveGathered_10 : decode cC_moveGathered 10 = .ok (.iastore, 1) := by decide +kernel
theorem dC_moveGathered_11 : decode cC_moveGathered 11 = .ok (.aload_n 0, 1) := by decide +kernel
theorem dC_moveGathered_12 : decode cC_moveGathered 12 = .ok (.getfield 28, 3) := by decide +kernel
theorem dC_moveGathered_15 : decode cC_moveGathered 15 = .ok (.iconst 4, 1) := by decide +kernel
theorem dC_moveGathered_16 : decode cC_moveGathered 16 = .ok (.dup2, 1) := by decide +kernel
theorem dC_moveGathered_17 : decode cC_moveGathered 17 = .ok (.iaload, 1) := by decide +kernel
theorem dC_moveGathered_18 : decode cC_moveGathered 18 = .ok (.iload_n 2, 1) := by decide +kernel
theorem dC_moveGathered_19 : decode cC_moveGathered 19 = .ok (.iadd, 1) := by decide +kernel
theorem dC_moveGathered_20 : decode cC_moveGathered 20 = .ok (.iastore, 1) := by decide +kernel
theorem dC_moveGathered_21 : decode cC_moveGathered 21 = .ok (.iconst 0, 1) := by decide +kernel
theorem dC_moveGathered_22 : decode cC_moveGathered 22 = .ok (.istore_n 3, 1) := by decide +kernel
theorem dC_moveGathered_23 : decode cC_moveGathered 23 = .ok (.iconst 0, 1) := by decide +kernel
theorem dC_moveGathered_24 : decode cC_moveGathered 24 = .ok (.istore 4, 2) := by decide +kernel
theorem dC_moveGathered_26 : decode cC_moveGathered 26 = .ok (.iload 4, 2) := by decide +kernel
theorem dC_moveGathered_28 : decode cC_moveGathered 28 = .ok (.iload_n 2, 1) := by decide +kernel
theorem dC_moveGathered_29 : decode cC_moveGathered 29 = .ok (.if_icmp .ge 36, 3) := by decide +kernel
theorem dC_moveGathered_32 : decode cC_moveGathered 32 = .ok (.aload_n 1, 1) := by decide +kernel
theorem dC_moveGathered_33 : decode cC_moveGathered 33 = .ok (.aload_n 0, 1) := by decide +kernel
theorem dC_moveGathered_34 : decode cC_moveGathered 34 = .ok (.getfield 33, 3) := by decide +kernel
theorem dC_moveGathered_37 : decode cC_moveGathered 37 = .ok (.iload 4, 2) := by decide +kernel
theorem dC_moveGathered_39 : decode cC_moveGathered 39 = .ok (.aaload, 1) := by decide +kernel
theorem dC_moveGathered_40 : decode cC_moveGathered 40 = .ok (.getfield 175, 3) := by decide +kernel
theorem dC_moveGathered_43 : decode cC_moveGathered 43 = .ok (.invokevirtual 183, 3) := by decide +kernel
theorem dC_moveGathered_46 : decode cC_moveGathered 46 = .ok (.iload_n 3, 1) := by decide +kernel
theorem dC_moveGathered_47 : decode cC_moveGathered 47 = .ok (.aload_n 0, 1) := by decide +kernel
theorem dC_moveGathered_48 : decode cC_moveGathered 48 = .ok (.getfield 33, 3) := by decide +kernel
theorem dC_moveGathered_51 : decode cC_moveGathered 51 = .ok (.iload 4, 2) := by decide +kernel
theorem dC_moveGathered_53 : decode cC_moveGathered 53 = .ok (.aaload, 1) := by decide +kernel
theorem dC_moveGathered_54 : decode cC_moveGathered 54 = .ok (.invokevirtual 186, 3) := by decide +kernel
theorem dC_moveGathered_57 : decode cC_moveGathered 57 = .ok (.iadd, 1) := by decide +kernel
theorem dC_moveGathered_58 : decode cC_moveGathered 58 = .ok (.istore_n 3, 1) := by decide +kernel
theorem dC_moveGathered_59 : decode cC_moveGathered 59 = .ok (.iinc 4 1, 3) := by decide +kernel
theorem dC_moveGathered_62 : decode cC_moveGathered 62 = .ok (.goto (-36), 3) := by decide +kernel
theorem dC_moveGathered_65 : decode cC_moveGathered 65 = .ok (.aload_n 0, 1) := by decide +kernel
theorem dC_moveGathered_66 : decode cC_moveGathered 66 = .ok (.getfield 28, 3) := by decide +kernel
theorem dC_moveGathered_69 : decode cC_moveGathered 69 = .ok (.iconst 5, 1) := by decide +kernel
theorem dC_moveGathered_70 : decode cC_moveGathered 70 = .ok (.dup2, 1) := by decide +kernel
theorem dC_moveGathered_71 : decode cC_moveGathered 71 = .ok (.iaload, 1) := by decide +kernel
theorem dC_moveGathered_72 : decode cC_moveGathered 72 = .ok (.aload_n 1, 1) := by decide +kernel
theorem dC_moveGathered_73 : decode cC_moveGathered 73 = .ok (.iload_n 3, 1) := by decide +kernel
theorem dC_moveGathered_74 : decode cC_moveGathered 74 = .ok (.iconst 0, 1) := by decide +kernel
theorem dC_moveGathered_75 : decode cC_moveGathered 75 = .ok (.invokevirtual 188, 3) := by decide +kernel
theorem dC_moveGathered_78 : decode cC_moveGathered 78 = .ok (.iadd, 1) := by decide +kernel
theorem dC_moveGathered_79 : decode cC_moveGathered 79 = .ok (.iastore, 1) := by decide +kernel
theorem dC_moveGathered_80 : decode cC_moveGathered 80 = .ok (.aload_n 0, 1) := by decide +kernel
theorem dC_moveGathered_81 : decode cC_moveGathered 81 = .ok (.getfield 28, 3) := by decide +kernel
theorem dC_moveGathered_84 : decode cC_moveGathered 84 = .ok (.bipush 6, 2) := by decide +kernel
theorem dC_moveGathered_86 : decode cC_moveGathered 86 = .ok (.dup2, 1) := by decide +kernel
theorem dC_moveGathered_87 : decode cC_moveGathered 87 = .ok (.iaload, 1) := by decide +kernel
theorem dC_moveGathered_88 : decode cC_moveGathered 88 = .ok (.aload_n 1, 1) := by decide +kernel
theorem dC_moveGathered_89 : decode cC_moveGathered 89 = .ok (.iload_n 3, 1) := by decide +kernel
theorem dC_moveGathered_90 : decode cC_moveGathered 90 = .ok (.iconst 1, 1) := by decide +kernel
theorem dC_moveGathered_91 : decode cC_moveGathered 91 = .ok (.invokevirtual 188, 3) := by decide +kernel
theorem dC_moveGathered_94 : decode cC_moveGathered 94 = .ok (.iadd, 1) := by decide +kernel
theorem dC_moveGathered_95 : decode cC_moveGathered 95 = .ok (.iastore, 1) := by decide +kernel
theorem dC_moveGathered_96 : decode cC_moveGathered 96 = .ok (.iconst 0, 1) := by decide +kernel
theorem dC_moveGathered_97 : decode cC_moveGathered 97 = .ok (.istore 4, 2) := by decide +kernel
theorem dC_moveGathered_99 : decode cC_moveGathered 99 = .ok (.iload 4, 2) := by decide +kernel
theorem dC_moveGathered_101 : decode cC_moveGathered 101 = .ok (.iload_n 2, 1) := by decide +kernel
theorem dC_moveGathered_102 : decode cC_moveGathered 102 = .ok (.if_icmp .ge 55, 3) := by decide +kernel
theorem dC_moveGathered_105 : decode cC_moveGathered 105 = .ok (.aload_n 1, 1) := by decide +kernel
theorem dC_moveGathered_106 : decode cC_moveGathered 106 = .ok (.iload_n 3, 1) := by decide +kernel
theorem dC_moveGathered_107 : decode cC_moveGathered 107 = .ok (.invokevirtual 192, 3) := by decide +kernel
theorem dC_moveGathered_110 : decode cC_moveGathered 110 = .ok (.ifCond .eq 17, 3) := by decide +kernel
theorem dC_moveGathered_113 : decode cC_moveGathered 113 = .ok (.aload_n 1, 1) := by decide +kernel
theorem dC_moveGathered_114 : decode cC_moveGathered 114 = .ok (.aload_n 0, 1) := by decide +kernel
theorem dC_moveGathered_115 : decode cC_moveGathered 115 = .ok (.getfield 33, 3) := by decide +kernel
theorem dC_moveGathered_118 : decode cC_moveGathered 118 = .ok (.iload 4, 2) := by decide +kernel
theorem dC_moveGathered_120 : decode cC_moveGathered 120 = .ok (.aaload, 1) := by decide +kernel
theorem dC_moveGathered_121 : decode cC_moveGathered 121 = .ok (.invokevirtual 195, 3) := by decide +kernel
theorem dC_moveGathered_124 : decode cC_moveGathered 124 = .ok (.goto 14, 3) := by decide +kernel
theorem dC_moveGathered_127 : decode cC_moveGathered 127 = .ok (.aload_n 0, 1) := by decide +kernel
theorem dC_moveGathered_128 : decode cC_moveGathered 128 = .ok (.getfield 28, 3) := by decide +kernel
theorem dC_moveGathered_131 : decode cC_moveGathered 131 = .ok (.bipush 7, 2) := by decide +kernel
theorem dC_moveGathered_133 : decode cC_moveGathered 133 = .ok (.dup2, 1) := by decide +kernel
theorem dC_moveGathered_134 : decode cC_moveGathered 134 = .ok (.iaload, 1) := by decide +kernel
theorem dC_moveGathered_135 : decode cC_moveGathered 135 = .ok (.iconst 1, 1) := by decide +kernel
theorem dC_moveGathered_136 : decode cC_moveGathered 136 = .ok (.iadd, 1) := by decide +kernel
theorem dC_moveGathered_137 : decode cC_moveGathered 137 = .ok (.iastore, 1) := by decide +kernel
theorem dC_moveGathered_138 : decode cC_moveGathered 138 = .ok (.iload_n 3, 1) := by decide +kernel
theorem dC_moveGathered_139 : decode cC_moveGathered 139 = .ok (.aload_n 0, 1) := by decide +kernel
theorem dC_moveGathered_140 : decode cC_moveGathered 140 = .ok (.getfield 33, 3) := by decide +kernel
theorem dC_moveGathered_143 : decode cC_moveGathered 143 = .ok (.iload 4, 2) := by decide +kernel
theorem dC_moveGathered_145 : decode cC_moveGathered 145 = .ok (.aaload, 1) := by decide +kernel
theorem dC_moveGathered_146 : decode cC_moveGathered 146 = .ok (.invokevirtual 186, 3) := by decide +kernel
theorem dC_moveGathered_149 : decode cC_moveGathered 149 = .ok (.isub, 1) := by decide +kernel
theorem dC_moveGathered_150 : decode cC_moveGathered 150 = .ok (.istore_n 3, 1) := by decide +kernel
theorem dC_moveGathered_151 : decode cC_moveGathered 151 = .ok (.iinc 4 1, 3) := by decide +kernel
theorem dC_moveGathered_154 : decode cC_moveGathered 154 = .ok (.goto (-55), 3) := by decide +kernel
theorem dC_moveGathered_157 : decode cC_moveGathered 157 = .ok (.aload_n 1, 1) := by decide +kernel
theorem dC_moveGathered_158 : decode cC_moveGathered 158 = .ok (.invokevirtual 198, 3) := by decide +kernel
theorem dC_moveGathered_161 : decode cC_moveGathered 161 = .ok (.aload_n 0, 1) := by decide +kernel
theorem dC_moveGathered_162 : decode cC_moveGathered 162 = .ok (.getfield 28, 3) := by decide +kernel
theorem dC_moveGathered_165 : decode cC_moveGathered 165 = .ok (.iconst 1, 1) := by decide +kernel
theorem dC_moveGathered_166 : decode cC_moveGathered 166 = .ok (.dup2, 1) := by decide +kernel
theorem dC_moveGathered_167 : decode cC_moveGathered 167 = .ok (.iaload, 1) := by decide +kernel
theorem dC_moveGathered_168 : decode cC_moveGathered 168 = .ok (.iconst 1, 1) := by decide +kernel
theorem dC_moveGathered_169 : decode cC_moveGathered 169 = .ok (.iadd, 1) := by decide +kernel
theorem dC_moveGathered_170 : decode cC_moveGathered 170 = .ok (.iastore, 1) := by decide +kernel
theorem dC_moveGathered_171 : decode cC_moveGathered 171 = .ok (.return_, 1) := by decide +kernel
theorem dC_get_0 : decode cC_get 0 = .ok (.aload_n 0, 1) := by decide +kernel
theorem dC_get_1 : decode cC_get 1 = .ok (.invokevirtual 51, 3) := by decide +kernel
theorem dC_get_4 : decode cC_get 4 = .ok (.aload_n 0, 1) := by decide +kernel
theorem dC_get_5 : decode cC_get 5 = .ok (.aload_n 0, 1) := by decide +kernel
theorem dC_get_6 : decode cC_get 6 = .ok (.getfield 24, 3) := by decide +kernel
theorem dC_get_9 : decode cC_get 9 = .ok (.getfield 77, 3) := by decide +kernel
theorem dC_get_12 : decode cC_get 12 = .ok (.lload_n 1, 1) := by decide +kernel
theorem dC_get_13 : decode cC_get 13 = .ok (.invokevirtual 81, 3) := by decide +kernel
theorem dC_get_16 : decode cC_get 16 = .ok (.putfield 40, 3) := by decide +kernel
theorem dC_get_19 : decode cC_get 19 = .ok (.aload_n 0, 1) := by decide +kernel
theorem dC_get_20 : decode cC_get 20 = .ok (.getfield 40, 3) := by decide +kernel
theorem dC_get_23 : decode cC_get 23 = .ok (.ifnonnull 15, 3) := by decide +kernel
theorem dC_get_26 : decode cC_get 26 = .ok (.aload_n 0, 1) := by decide +kernel
theorem dC_get_27 : decode cC_get 27 = .ok (.aload_n 0, 1) := by decide +kernel
theorem dC_get_28 : decode cC_get 28 = .ok (.lload_n 1, 1) := by decide +kernel
theorem dC_get_29 : decode cC_get 29 = .ok (.invokevirtual 87, 3) := by decide +kernel
theorem dC_get_32 : decode cC_get 32 = .ok (.putfield 40, 3) := by decide +kernel
theorem dC_get_35 : decode cC_get 35 = .ok (.goto 28, 3) := by decide +kernel
theorem dC_get_38 : decode cC_get 38 = .ok (.aload_n 0, 1) := by decide +kernel
theorem dC_get_39 : decode cC_get 39 = .ok (.getfield 24, 3) := by decide +kernel
theorem dC_get_42 : decode cC_get 42 = .ok (.aload_n 0, 1) := by decide +kernel
theorem dC_get_43 : decode cC_get 43 = .ok (.getfield 40, 3) := by decide +kernel
theorem dC_get_46 : decode cC_get 46 = .ok (.invokevirtual 90, 3) := by decide +kernel
theorem dC_get_49 : decode cC_get 49 = .ok (.ifCond .ne 14, 3) := by decide +kernel
theorem dC_get_52 : decode cC_get 52 = .ok (.aload_n 0, 1) := by decide +kernel
theorem dC_get_53 : decode cC_get 53 = .ok (.getfield 28, 3) := by decide +kernel
theorem dC_get_56 : decode cC_get 56 = .ok (.bipush 9, 2) := by decide +kernel
theorem dC_get_58 : decode cC_get 58 = .ok (.dup2, 1) := by decide +kernel
theorem dC_get_59 : decode cC_get 59 = .ok (.iaload, 1) := by decide +kernel
theorem dC_get_60 : decode cC_get 60 = .ok (.iconst 1, 1) := by decide +kernel
theorem dC_get_61 : decode cC_get 61 = .ok (.iadd, 1) := by decide +kernel
theorem dC_get_62 : decode cC_get 62 = .ok (.iastore, 1) := by decide +kernel
theorem dC_get_63 : decode cC_get 63 = .ok (.aload_n 0, 1) := by decide +kernel
theorem dC_get_64 : decode cC_get 64 = .ok (.getfield 40, 3) := by decide +kernel
theorem dC_get_67 : decode cC_get 67 = .ok (.ifnonnull 5, 3) := by decide +kernel
theorem dC_get_70 : decode cC_get 70 = .ok (.iconst 0, 1) := by decide +kernel
theorem dC_get_71 : decode cC_get 71 = .ok (.ireturn, 1) := by decide +kernel
theorem dC_get_72 : decode cC_get 72 = .ok (.aload_n 0, 1) := by decide +kernel
theorem dC_get_73 : decode cC_get 73 = .ok (.getfield 40, 3) := by decide +kernel
theorem dC_get_76 : decode cC_get 76 = .ok (.iconst 1, 1) := by decide +kernel
theorem dC_get_77 : decode cC_get 77 = .ok (.putfield 93, 3) := by decide +kernel
theorem dC_get_80 : decode cC_get 80 = .ok (.aload_n 0, 1) := by decide +kernel
theorem dC_get_81 : decode cC_get 81 = .ok (.getfield 40, 3) := by decide +kernel
theorem dC_get_84 : decode cC_get 84 = .ok (.getfield 96, 3) := by decide +kernel
theorem dC_get_87 : decode cC_get 87 = .ok (.arraylength, 1) := by decide +kernel
theorem dC_get_88 : decode cC_get 88 = .ok (.ireturn, 1) := by decide +kernel
theorem dC_got_0 : decode cC_got 0 = .ok (.aload_n 0, 1) := by decide +kernel
theorem dC_got_1 : decode cC_got 1 = .ok (.getfield 40, 3) := by decide +kernel
theorem dC_got_4 : decode cC_got 4 = .ok (.ifnull 19, 3) := by decide +kernel
theorem dC_got_7 : decode cC_got 7 = .ok (.iload_n 1, 1) := by decide +kernel
theorem dC_got_8 : decode cC_got 8 = .ok (.ifCond .lt 15, 3) := by decide +kernel
theorem dC_got_11 : decode cC_got 11 = .ok (.iload_n 1, 1) := by decide +kernel
theorem dC_got_12 : decode cC_got 12 = .ok (.aload_n 0, 1) := by decide +kernel
theorem dC_got_13 : decode cC_got 13 = .ok (.getfield 40, 3) := by decide +kernel
theorem dC_got_16 : decode cC_got 16 = .ok (.getfield 96, 3) := by decide +kernel
theorem dC_got_19 : decode cC_got 19 = .ok (.arraylength, 1) := by decide +kernel
theorem dC_got_20 : decode cC_got 20 = .ok (.if_icmp .lt 11, 3) := by decide +kernel
theorem dC_got_23 : decode cC_got 23 = .ok (.new 48, 3) := by decide +kernel
theorem dC_got_26 : decode cC_got 26 = .ok (.dup, 1) := by decide +kernel
theorem dC_got_27 : decode cC_got 27 = .ok (.invokespecial 50, 3) := by decide +kernel
theorem dC_got_30 : decode cC_got 30 = .ok (.athrow, 1) := by decide +kernel
theorem dC_got_31 : decode cC_got 31 = .ok (.aload_n 0, 1) := by decide +kernel
theorem dC_got_32 : decode cC_got 32 = .ok (.getfield 40, 3) := by decide +kernel
theorem dC_got_35 : decode cC_got 35 = .ok (.getfield 96, 3) := by decide +kernel
theorem dC_got_38 : decode cC_got 38 = .ok (.iload_n 1, 1) := by decide +kernel
theorem dC_got_39 : decode cC_got 39 = .ok (.iaload, 1) := by decide +kernel
theorem dC_got_40 : decode cC_got 40 = .ok (.ireturn, 1) := by decide +kernel
theorem dC_delete_0 : decode cC_delete 0 = .ok (.aload_n 0, 1) := by decide +kernel
theorem dC_delete_1 : decode cC_delete 1 = .ok (.invokevirtual 51, 3) := by decide +kernel
theorem dC_delete_4 : decode cC_delete 4 = .ok (.aload_n 0, 1) := by decide +kernel
theorem dC_delete_5 : decode cC_delete 5 = .ok (.getfield 24, 3) := by decide +kernel
theorem dC_delete_8 : decode cC_delete 8 = .ok (.getfield 77, 3) := by decide +kernel
theorem dC_delete_11 : decode cC_delete 11 = .ok (.lload_n 1, 1) := by decide +kernel
theorem dC_delete_12 : decode cC_delete 12 = .ok (.invokevirtual 99, 3) := by decide +kernel
theorem dC_delete_15 : decode cC_delete 15 = .ok (.istore_n 3, 1) := by decide +kernel
theorem dC_delete_16 : decode cC_delete 16 = .ok (.aload_n 0, 1) := by decide +kernel
theorem dC_delete_17 : decode cC_delete 17 = .ok (.lload_n 1, 1) := by decide +kernel
theorem dC_delete_18 : decode cC_delete 18 = .ok (.iconst 3, 1) := by decide +kernel
theorem dC_delete_19 : decode cC_delete 19 = .ok (.invokevirtual 103, 3) := by decide +kernel
theorem dC_delete_22 : decode cC_delete 22 = .ok (.istore 4, 2) := by decide +kernel
theorem dC_delete_24 : decode cC_delete 24 = .ok (.iload_n 3, 1) := by decide +kernel
theorem dC_delete_25 : decode cC_delete 25 = .ok (.ifCond .ne 8, 3) := by decide +kernel
theorem dC_delete_28 : decode cC_delete 28 = .ok (.iload 4, 2) := by decide +kernel
theorem dC_delete_30 : decode cC_delete 30 = .ok (.ifCond .eq 7, 3) := by decide +kernel
theorem dC_delete_33 : decode cC_delete 33 = .ok (.iconst 1, 1) := by decide +kernel
theorem dC_delete_34 : decode cC_delete 34 = .ok (.goto 4, 3) := by decide +kernel
theorem dC_delete_37 : decode cC_delete 37 = .ok (.iconst 0, 1) := by decide +kernel
theorem dC_delete_38 : decode cC_delete 38 = .ok (.ireturn, 1) := by decide +kernel
theorem dC_where_0 : decode cC_where 0 = .ok (.aload_n 0, 1) := by decide +kernel
theorem dC_where_1 : decode cC_where 1 = .ok (.invokevirtual 51, 3) := by decide +kernel
theorem dC_where_4 : decode cC_where 4 = .ok (.aload_n 0, 1) := by decide +kernel
theorem dC_where_5 : decode cC_where 5 = .ok (.getfield 24, 3) := by decide +kernel
theorem dC_where_8 : decode cC_where 8 = .ok (.getfield 77, 3) := by decide +kernel
theorem dC_where_11 : decode cC_where 11 = .ok (.lload_n 1, 1) := by decide +kernel
theorem dC_where_12 : decode cC_where 12 = .ok (.invokevirtual 81, 3) := by decide +kernel
theorem dC_where_15 : decode cC_where 15 = .ok (.ifnull 5, 3) := by decide +kernel
theorem dC_where_18 : decode cC_where 18 = .ok (.iconst 1, 1) := by decide +kernel
theorem dC_where_19 : decode cC_where 19 = .ok (.ireturn, 1) := by decide +kernel
theorem dC_where_20 : decode cC_where 20 = .ok (.aload_n 0, 1) := by decide +kernel
theorem dC_where_21 : decode cC_where 21 = .ok (.getfield 17, 3) := by decide +kernel
theorem dC_where_24 : decode cC_where 24 = .ok (.lload_n 1, 1) := by decide +kernel
theorem dC_where_25 : decode cC_where 25 = .ok (.invokestatic 107, 3) := by decide +kernel
theorem dC_where_28 : decode cC_where 28 = .ok (.invokestatic 111, 3) := by decide +kernel
theorem dC_where_31 : decode cC_where 31 = .ok (.aaload, 1) := by decide +kernel
theorem dC_where_32 : decode cC_where 32 = .ok (.lload_n 1, 1) := by decide +kernel
theorem dC_where_33 : decode cC_where 33 = .ok (.invokevirtual 115, 3) := by decide +kernel
theorem dC_where_36 : decode cC_where 36 = .ok (.ifnull 7, 3) := by decide +kernel
theorem dC_where_39 : decode cC_where 39 = .ok (.iconst 2, 1) := by decide +kernel
theorem dC_where_40 : decode cC_where 40 = .ok (.goto 4, 3) := by decide +kernel
theorem dC_where_43 : decode cC_where 43 = .ok (.iconst 0, 1) := by decide +kernel
theorem dC_where_44 : decode cC_where 44 = .ok (.ireturn, 1) := by decide +kernel
theorem dC_flash_0 : decode cC_flash 0 = .ok (.iload_n 1, 1) := by decide +kernel
theorem dC_flash_1 : decode cC_flash 1 = .ok (.ifCond .lt 19, 3) := by decide +kernel
theorem dC_flash_4 : decode cC_flash 4 = .ok (.iload_n 1, 1) := by decide +kernel
theorem dC_flash_5 : decode cC_flash 5 = .ok (.bipush 96, 2) := by decide +kernel
theorem dC_flash_7 : decode cC_flash 7 = .ok (.if_icmp .ge 13, 3) := by decide +kernel
theorem dC_flash_10 : decode cC_flash 10 = .ok (.iload_n 2, 1) := by decide +kernel
theorem dC_flash_11 : decode cC_flash 11 = .ok (.ifCond .lt 9, 3) := by decide +kernel
theorem dC_flash_14 : decode cC_flash 14 = .ok (.iload_n 2, 1) := by decide +kernel
theorem dC_flash_15 : decode cC_flash 15 = .ok (.bipush 32, 2) := by decide +kernel
theorem dC_flash_17 : decode cC_flash 17 = .ok (.if_icmp .lt 11, 3) := by decide +kernel
theorem dC_flash_20 : decode cC_flash 20 = .ok (.new 48, 3) := by decide +kernel
theorem dC_flash_23 : decode cC_flash 23 = .ok (.dup, 1) := by decide +kernel
theorem dC_flash_24 : decode cC_flash 24 = .ok (.invokespecial 50, 3) := by decide +kernel
theorem dC_flash_27 : decode cC_flash 27 = .ok (.athrow, 1) := by decide +kernel
theorem dC_flash_28 : decode cC_flash 28 = .ok (.iload_n 1, 1) := by decide +kernel
theorem dC_flash_29 : decode cC_flash 29 = .ok (.bipush 64, 2) := by decide +kernel
theorem dC_flash_31 : decode cC_flash 31 = .ok (.if_icmp .ge 16, 3) := by decide +kernel
theorem dC_flash_34 : decode cC_flash 34 = .ok (.aload_n 0, 1) := by decide +kernel
theorem dC_flash_35 : decode cC_flash 35 = .ok (.getfield 17, 3) := by decide +kernel
theorem dC_flash_38 : decode cC_flash 38 = .ok (.iload_n 1, 1) := by decide +kernel
theorem dC_flash_39 : decode cC_flash 39 = .ok (.aaload, 1) := by decide +kernel
theorem dC_flash_40 : decode cC_flash 40 = .ok (.iload_n 2, 1) := by decide +kernel
theorem dC_flash_41 : decode cC_flash 41 = .ok (.invokevirtual 118, 3) := by decide +kernel
theorem dC_flash_44 : decode cC_flash 44 = .ok (.goto 19, 3) := by decide +kernel
theorem dC_flash_47 : decode cC_flash 47 = .ok (.aload_n 0, 1) := by decide +kernel
theorem dC_flash_48 : decode cC_flash 48 = .ok (.getfield 24, 3) := by decide +kernel
theorem dC_flash_51 : decode cC_flash 51 = .ok (.getfield 122, 3) := by decide +kernel
theorem dC_flash_54 : decode cC_flash 54 = .ok (.iload_n 1, 1) := by decide +kernel
theorem dC_flash_55 : decode cC_flash 55 = .ok (.bipush 64, 2) := by decide +kernel
theorem dC_flash_57 : decode cC_flash 57 = .ok (.isub, 1) := by decide +kernel
theorem dC_flash_58 : decode cC_flash 58 = .ok (.aaload, 1) := by decide +kernel
theorem dC_flash_59 : decode cC_flash 59 = .ok (.iload_n 2, 1) := by decide +kernel
theorem dC_flash_60 : decode cC_flash 60 = .ok (.invokevirtual 118, 3) := by decide +kernel
theorem dC_flash_63 : decode cC_flash 63 = .ok (.ireturn, 1) := by decide +kernel
theorem dC_close_0 : decode cC_close 0 = .ok (.aload_n 0, 1) := by decide +kernel
theorem dC_close_1 : decode cC_close 1 = .ok (.invokevirtual 51, 3) := by decide +kernel
theorem dC_close_4 : decode cC_close 4 = .ok (.aload_n 0, 1) := by decide +kernel
theorem dC_close_5 : decode cC_close 5 = .ok (.iconst 0, 1) := by decide +kernel
theorem dC_close_6 : decode cC_close 6 = .ok (.putfield 44, 3) := by decide +kernel
theorem dC_close_9 : decode cC_close 9 = .ok (.return_, 1) := by decide +kernel
theorem dC_crash_0 : decode cC_crash 0 = .ok (.aload_n 0, 1) := by decide +kernel
theorem dC_crash_1 : decode cC_crash 1 = .ok (.invokevirtual 51, 3) := by decide +kernel
theorem dC_crash_4 : decode cC_crash 4 = .ok (.iconst 0, 1) := by decide +kernel
theorem dC_crash_5 : decode cC_crash 5 = .ok (.istore_n 1, 1) := by decide +kernel
theorem dC_crash_6 : decode cC_crash 6 = .ok (.iload_n 1, 1) := by decide +kernel
theorem dC_crash_7 : decode cC_crash 7 = .ok (.bipush 64, 2) := by decide +kernel
theorem dC_crash_9 : decode cC_crash 9 = .ok (.if_icmp .ge 18, 3) := by decide +kernel
theorem dC_crash_12 : decode cC_crash 12 = .ok (.aload_n 0, 1) := by decide +kernel
theorem dC_crash_13 : decode cC_crash 13 = .ok (.getfield 17, 3) := by decide +kernel
theorem dC_crash_16 : decode cC_crash 16 = .ok (.iload_n 1, 1) := by decide +kernel
theorem dC_crash_17 : decode cC_crash 17 = .ok (.aaload, 1) := by decide +kernel
theorem dC_crash_18 : decode cC_crash 18 = .ok (.invokevirtual 125, 3) := by decide +kernel
theorem dC_crash_21 : decode cC_crash 21 = .ok (.iinc 1 1, 3) := by decide +kernel
theorem dC_crash_24 : decode cC_crash 24 = .ok (.goto (-18), 3) := by decide +kernel
theorem dC_crash_27 : decode cC_crash 27 = .ok (.aload_n 0, 1) := by decide +kernel
theorem dC_crash_28 : decode cC_crash 28 = .ok (.getfield 24, 3) := by decide +kernel
theorem dC_crash_31 : decode cC_crash 31 = .ok (.invokevirtual 128, 3) := by decide +kernel
theorem dC_crash_34 : decode cC_crash 34 = .ok (.aload_n 0, 1) := by decide +kernel
theorem dC_crash_35 : decode cC_crash 35 = .ok (.getfield 28, 3) := by decide +kernel
theorem dC_crash_38 : decode cC_crash 38 = .ok (.iconst 0, 1) := by decide +kernel
theorem dC_crash_39 : decode cC_crash 39 = .ok (.invokestatic 129, 3) := by decide +kernel
theorem dC_crash_42 : decode cC_crash 42 = .ok (.aload_n 0, 1) := by decide +kernel
theorem dC_crash_43 : decode cC_crash 43 = .ok (.aconst_null, 1) := by decide +kernel
theorem dC_crash_44 : decode cC_crash 44 = .ok (.putfield 40, 3) := by decide +kernel
theorem dC_crash_47 : decode cC_crash 47 = .ok (.aload_n 0, 1) := by decide +kernel
theorem dC_crash_48 : decode cC_crash 48 = .ok (.iconst 0, 1) := by decide +kernel
theorem dC_crash_49 : decode cC_crash 49 = .ok (.putfield 44, 3) := by decide +kernel
theorem dC_crash_52 : decode cC_crash 52 = .ok (.return_, 1) := by decide +kernel
theorem dC_open_0 : decode cC_open 0 = .ok (.aload_n 0, 1) := by decide +kernel
theorem dC_open_1 : decode cC_open 1 = .ok (.getfield 44, 3) := by decide +kernel
theorem dC_open_4 : decode cC_open 4 = .ok (.ifCond .eq 11, 3) := by decide +kernel
theorem dC_open_7 : decode cC_open 7 = .ok (.new 133, 3) := by decide +kernel
theorem dC_open_10 : decode cC_open 10 = .ok (.dup, 1) := by decide +kernel
theorem dC_open_11 : decode cC_open 11 = .ok (.invokespecial 135, 3) := by decide +kernel
theorem dC_open_14 : decode cC_open 14 = .ok (.athrow, 1) := by decide +kernel
theorem dC_open_15 : decode cC_open 15 = .ok (.aload_n 0, 1) := by decide +kernel
theorem dC_open_16 : decode cC_open 16 = .ok (.iconst 1, 1) := by decide +kernel
theorem dC_open_17 : decode cC_open 17 = .ok (.putfield 44, 3) := by decide +kernel
theorem dC_open_20 : decode cC_open 20 = .ok (.aload_n 0, 1) := by decide +kernel
theorem dC_open_21 : decode cC_open 21 = .ok (.getfield 24, 3) := by decide +kernel
theorem dC_open_24 : decode cC_open 24 = .ok (.getfield 77, 3) := by decide +kernel
theorem dC_open_27 : decode cC_open 27 = .ok (.getfield 136, 3) := by decide +kernel
theorem dC_open_30 : decode cC_open 30 = .ok (.ireturn, 1) := by decide +kernel
