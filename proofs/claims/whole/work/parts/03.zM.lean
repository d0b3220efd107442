theorem dM_init_0 : decode cM_init 0 = .ok (.aload_n 0, 1) := by decide +kernel
theorem dM_init_1 : decode cM_init 1 = .ok (.invokespecial 1, 3) := by decide +kernel
theorem dM_init_4 : decode cM_init 4 = .ok (.aload_n 0, 1) := by decide +kernel
theorem dM_init_5 : decode cM_init 5 = .ok (.iconst 1, 1) := by decide +kernel
theorem dM_init_6 : decode cM_init 6 = .ok (.putfield 7, 3) := by decide +kernel
theorem dM_init_9 : decode cM_init 9 = .ok (.aload_n 0, 1) := by decide +kernel
theorem dM_init_10 : decode cM_init 10 = .ok (.bipush 8, 2) := by decide +kernel
theorem dM_init_12 : decode cM_init 12 = .ok (.newarray .int, 2) := by decide +kernel
theorem dM_init_14 : decode cM_init 14 = .ok (.putfield 13, 3) := by decide +kernel
theorem dM_init_17 : decode cM_init 17 = .ok (.aload_n 0, 1) := by decide +kernel
theorem dM_init_18 : decode cM_init 18 = .ok (.bipush 8, 2) := by decide +kernel
theorem dM_init_20 : decode cM_init 20 = .ok (.newarray .int, 2) := by decide +kernel
theorem dM_init_22 : decode cM_init 22 = .ok (.putfield 17, 3) := by decide +kernel
theorem dM_init_25 : decode cM_init 25 = .ok (.aload_n 0, 1) := by decide +kernel
theorem dM_init_26 : decode cM_init 26 = .ok (.sipush 4096, 3) := by decide +kernel
theorem dM_init_29 : decode cM_init 29 = .ok (.newarray .long, 2) := by decide +kernel
theorem dM_init_31 : decode cM_init 31 = .ok (.putfield 20, 3) := by decide +kernel
theorem dM_init_34 : decode cM_init 34 = .ok (.aload_n 0, 1) := by decide +kernel
theorem dM_init_35 : decode cM_init 35 = .ok (.sipush 4096, 3) := by decide +kernel
theorem dM_init_38 : decode cM_init 38 = .ok (.newarray .int, 2) := by decide +kernel
theorem dM_init_40 : decode cM_init 40 = .ok (.putfield 24, 3) := by decide +kernel
theorem dM_init_43 : decode cM_init 43 = .ok (.aload_n 0, 1) := by decide +kernel
theorem dM_init_44 : decode cM_init 44 = .ok (.ldc 27, 2) := by decide +kernel
theorem dM_init_46 : decode cM_init 46 = .ok (.newarray .int, 2) := by decide +kernel
theorem dM_init_48 : decode cM_init 48 = .ok (.putfield 28, 3) := by decide +kernel
theorem dM_init_51 : decode cM_init 51 = .ok (.aload_n 0, 1) := by decide +kernel
theorem dM_init_52 : decode cM_init 52 = .ok (.sipush 4096, 3) := by decide +kernel
theorem dM_init_55 : decode cM_init 55 = .ok (.newarray .boolean, 2) := by decide +kernel
theorem dM_init_57 : decode cM_init 57 = .ok (.putfield 31, 3) := by decide +kernel
theorem dM_init_60 : decode cM_init 60 = .ok (.aload_n 0, 1) := by decide +kernel
theorem dM_init_61 : decode cM_init 61 = .ok (.sipush 4096, 3) := by decide +kernel
theorem dM_init_64 : decode cM_init 64 = .ok (.newarray .boolean, 2) := by decide +kernel
theorem dM_init_66 : decode cM_init 66 = .ok (.putfield 35, 3) := by decide +kernel
theorem dM_init_69 : decode cM_init 69 = .ok (.aload_n 0, 1) := by decide +kernel
theorem dM_init_70 : decode cM_init 70 = .ok (.sipush 4096, 3) := by decide +kernel
theorem dM_init_73 : decode cM_init 73 = .ok (.newarray .int, 2) := by decide +kernel
theorem dM_init_75 : decode cM_init 75 = .ok (.putfield 38, 3) := by decide +kernel
theorem dM_init_78 : decode cM_init 78 = .ok (.aload_n 0, 1) := by decide +kernel
theorem dM_init_79 : decode cM_init 79 = .ok (.sipush 4096, 3) := by decide +kernel
theorem dM_init_82 : decode cM_init 82 = .ok (.newarray .boolean, 2) := by decide +kernel
theorem dM_init_84 : decode cM_init 84 = .ok (.putfield 41, 3) := by decide +kernel
theorem dM_init_87 : decode cM_init 87 = .ok (.aload_n 0, 1) := by decide +kernel
theorem dM_init_88 : decode cM_init 88 = .ok (.bipush 97, 2) := by decide +kernel
theorem dM_init_90 : decode cM_init 90 = .ok (.newarray .int, 2) := by decide +kernel
theorem dM_init_92 : decode cM_init 92 = .ok (.putfield 44, 3) := by decide +kernel
theorem dM_init_95 : decode cM_init 95 = .ok (.aload_n 0, 1) := by decide +kernel
theorem dM_init_96 : decode cM_init 96 = .ok (.sipush 776, 3) := by decide +kernel
theorem dM_init_99 : decode cM_init 99 = .ok (.newarray .int, 2) := by decide +kernel
theorem dM_init_101 : decode cM_init 101 = .ok (.putfield 47, 3) := by decide +kernel
theorem dM_init_104 : decode cM_init 104 = .ok (.aload_n 0, 1) := by decide +kernel
theorem dM_init_105 : decode cM_init 105 = .ok (.sipush 4096, 3) := by decide +kernel
theorem dM_init_108 : decode cM_init 108 = .ok (.newarray .boolean, 2) := by decide +kernel
theorem dM_init_110 : decode cM_init 110 = .ok (.putfield 50, 3) := by decide +kernel
theorem dM_init_113 : decode cM_init 113 = .ok (.aload_n 0, 1) := by decide +kernel
theorem dM_init_114 : decode cM_init 114 = .ok (.sipush 300, 3) := by decide +kernel
theorem dM_init_117 : decode cM_init 117 = .ok (.newarray .int, 2) := by decide +kernel
theorem dM_init_119 : decode cM_init 119 = .ok (.putfield 53, 3) := by decide +kernel
theorem dM_init_122 : decode cM_init 122 = .ok (.aload_n 0, 1) := by decide +kernel
theorem dM_init_123 : decode cM_init 123 = .ok (.sipush 300, 3) := by decide +kernel
theorem dM_init_126 : decode cM_init 126 = .ok (.newarray .int, 2) := by decide +kernel
theorem dM_init_128 : decode cM_init 128 = .ok (.putfield 56, 3) := by decide +kernel
theorem dM_init_131 : decode cM_init 131 = .ok (.aload_n 0, 1) := by decide +kernel
theorem dM_init_132 : decode cM_init 132 = .ok (.bipush 64, 2) := by decide +kernel
theorem dM_init_134 : decode cM_init 134 = .ok (.newarray .boolean, 2) := by decide +kernel
theorem dM_init_136 : decode cM_init 136 = .ok (.putfield 59, 3) := by decide +kernel
theorem dM_init_139 : decode cM_init 139 = .ok (.aload_n 0, 1) := by decide +kernel
theorem dM_init_140 : decode cM_init 140 = .ok (.bipush 13, 2) := by decide +kernel
theorem dM_init_142 : decode cM_init 142 = .ok (.newarray .int, 2) := by decide +kernel
theorem dM_init_144 : decode cM_init 144 = .ok (.putfield 62, 3) := by decide +kernel
theorem dM_init_147 : decode cM_init 147 = .ok (.return_, 1) := by decide +kernel
theorem dM_thrown_0 : decode cM_thrown 0 = .ok (.aload_n 0, 1) := by decide +kernel
theorem dM_thrown_1 : decode cM_thrown 1 = .ok (.getfield 65, 3) := by decide +kernel
theorem dM_thrown_4 : decode cM_thrown 4 = .ok (.ireturn, 1) := by decide +kernel
theorem dM_word_0 : decode cM_word 0 = .ok (.aload_n 0, 1) := by decide +kernel
theorem dM_word_1 : decode cM_word 1 = .ok (.iconst 0, 1) := by decide +kernel
theorem dM_word_2 : decode cM_word 2 = .ok (.putfield 65, 3) := by decide +kernel
theorem dM_word_5 : decode cM_word 5 = .ok (.iload_n 1, 1) := by decide +kernel
theorem dM_word_6 : decode cM_word 6 = .ok (.iconst 0, 1) := by decide +kernel
theorem dM_word_7 : decode cM_word 7 = .ok (.bipush 7, 2) := by decide +kernel
theorem dM_word_9 : decode cM_word 9 = .ok (.invokestatic 165, 3) := by decide +kernel
theorem dM_word_12 : decode cM_word 12 = .ok (.ifCond .ne 9, 3) := by decide +kernel
theorem dM_word_15 : decode cM_word 15 = .ok (.aload_n 0, 1) := by decide +kernel
theorem dM_word_16 : decode cM_word 16 = .ok (.iconst 1, 1) := by decide +kernel
theorem dM_word_17 : decode cM_word 17 = .ok (.invokevirtual 169, 3) := by decide +kernel
theorem dM_word_20 : decode cM_word 20 = .ok (.ireturn, 1) := by decide +kernel
theorem dM_word_21 : decode cM_word 21 = .ok (.aload_n 0, 1) := by decide +kernel
theorem dM_word_22 : decode cM_word 22 = .ok (.getfield 13, 3) := by decide +kernel
theorem dM_word_25 : decode cM_word 25 = .ok (.iload_n 1, 1) := by decide +kernel
theorem dM_word_26 : decode cM_word 26 = .ok (.iaload, 1) := by decide +kernel
theorem dM_word_27 : decode cM_word 27 = .ok (.istore_n 3, 1) := by decide +kernel
theorem dM_word_28 : decode cM_word 28 = .ok (.aload_n 0, 1) := by decide +kernel
theorem dM_word_29 : decode cM_word 29 = .ok (.getfield 13, 3) := by decide +kernel
theorem dM_word_32 : decode cM_word 32 = .ok (.iload_n 1, 1) := by decide +kernel
theorem dM_word_33 : decode cM_word 33 = .ok (.iload_n 2, 1) := by decide +kernel
theorem dM_word_34 : decode cM_word 34 = .ok (.iastore, 1) := by decide +kernel
theorem dM_word_35 : decode cM_word 35 = .ok (.iload_n 3, 1) := by decide +kernel
theorem dM_word_36 : decode cM_word 36 = .ok (.ireturn, 1) := by decide +kernel
theorem dM_within_0 : decode cM_within 0 = .ok (.iload_n 0, 1) := by decide +kernel
theorem dM_within_1 : decode cM_within 1 = .ok (.iload_n 1, 1) := by decide +kernel
theorem dM_within_2 : decode cM_within 2 = .ok (.if_icmp .lt 12, 3) := by decide +kernel
theorem dM_within_5 : decode cM_within 5 = .ok (.iload_n 0, 1) := by decide +kernel
theorem dM_within_6 : decode cM_within 6 = .ok (.iload_n 2, 1) := by decide +kernel
theorem dM_within_7 : decode cM_within 7 = .ok (.if_icmp .gt 7, 3) := by decide +kernel
theorem dM_within_10 : decode cM_within 10 = .ok (.iconst 1, 1) := by decide +kernel
theorem dM_within_11 : decode cM_within 11 = .ok (.goto 4, 3) := by decide +kernel
theorem dM_within_14 : decode cM_within 14 = .ok (.iconst 0, 1) := by decide +kernel
theorem dM_within_15 : decode cM_within 15 = .ok (.ireturn, 1) := by decide +kernel
theorem dM_fail_0 : decode cM_fail 0 = .ok (.aload_n 0, 1) := by decide +kernel
theorem dM_fail_1 : decode cM_fail 1 = .ok (.iload_n 1, 1) := by decide +kernel
theorem dM_fail_2 : decode cM_fail 2 = .ok (.putfield 65, 3) := by decide +kernel
theorem dM_fail_5 : decode cM_fail 5 = .ok (.iconst 0, 1) := by decide +kernel
theorem dM_fail_6 : decode cM_fail 6 = .ok (.ireturn, 1) := by decide +kernel
theorem dM_put_0 : decode cM_put 0 = .ok (.aload_n 0, 1) := by decide +kernel
theorem dM_put_1 : decode cM_put 1 = .ok (.invokevirtual 172, 3) := by decide +kernel
theorem dM_put_4 : decode cM_put 4 = .ok (.ifCond .ne 4, 3) := by decide +kernel
theorem dM_put_7 : decode cM_put 7 = .ok (.return_, 1) := by decide +kernel
theorem dM_put_8 : decode cM_put 8 = .ok (.iload_n 3, 1) := by decide +kernel
theorem dM_put_9 : decode cM_put 9 = .ok (.iconst 1, 1) := by decide +kernel
theorem dM_put_10 : decode cM_put 10 = .ok (.bipush 8, 2) := by decide +kernel
theorem dM_put_12 : decode cM_put 12 = .ok (.invokestatic 165, 3) := by decide +kernel
theorem dM_put_15 : decode cM_put 15 = .ok (.ifCond .ne 9, 3) := by decide +kernel
theorem dM_put_18 : decode cM_put 18 = .ok (.aload_n 0, 1) := by decide +kernel
theorem dM_put_19 : decode cM_put 19 = .ok (.iconst 2, 1) := by decide +kernel
theorem dM_put_20 : decode cM_put 20 = .ok (.putfield 65, 3) := by decide +kernel
theorem dM_put_23 : decode cM_put 23 = .ok (.return_, 1) := by decide +kernel
theorem dM_put_24 : decode cM_put 24 = .ok (.aload_n 0, 1) := by decide +kernel
theorem dM_put_25 : decode cM_put 25 = .ok (.iconst 0, 1) := by decide +kernel
theorem dM_put_26 : decode cM_put 26 = .ok (.putfield 83, 3) := by decide +kernel
theorem dM_put_29 : decode cM_put 29 = .ok (.aload_n 0, 1) := by decide +kernel
theorem dM_put_30 : decode cM_put 30 = .ok (.iconst 0, 1) := by decide +kernel
theorem dM_put_31 : decode cM_put 31 = .ok (.putfield 86, 3) := by decide +kernel
theorem dM_put_34 : decode cM_put 34 = .ok (.aload_n 0, 1) := by decide +kernel
theorem dM_put_35 : decode cM_put 35 = .ok (.bipush 96, 2) := by decide +kernel
theorem dM_put_37 : decode cM_put 37 = .ok (.invokevirtual 122, 3) := by decide +kernel
theorem dM_put_40 : decode cM_put 40 = .ok (.iload_n 3, 1) := by decide +kernel
theorem dM_put_41 : decode cM_put 41 = .ok (.iadd, 1) := by decide +kernel
theorem dM_put_42 : decode cM_put 42 = .ok (.iconst 3, 1) := by decide +kernel
theorem dM_put_43 : decode cM_put 43 = .ok (.iadd, 1) := by decide +kernel
theorem dM_put_44 : decode cM_put 44 = .ok (.bipush 32, 2) := by decide +kernel
theorem dM_put_46 : decode cM_put 46 = .ok (.if_icmp .le 10, 3) := by decide +kernel
theorem dM_put_49 : decode cM_put 49 = .ok (.aload_n 0, 1) := by decide +kernel
theorem dM_put_50 : decode cM_put 50 = .ok (.invokevirtual 176, 3) := by decide +kernel
theorem dM_put_53 : decode cM_put 53 = .ok (.goto (-19), 3) := by decide +kernel
theorem dM_put_56 : decode cM_put 56 = .ok (.aload_n 0, 1) := by decide +kernel
theorem dM_put_57 : decode cM_put 57 = .ok (.invokevirtual 153, 3) := by decide +kernel
theorem dM_put_60 : decode cM_put 60 = .ok (.istore 4, 2) := by decide +kernel
theorem dM_put_62 : decode cM_put 62 = .ok (.aload_n 0, 1) := by decide +kernel
theorem dM_put_63 : decode cM_put 63 = .ok (.getfield 20, 3) := by decide +kernel
theorem dM_put_66 : decode cM_put 66 = .ok (.iload 4, 2) := by decide +kernel
theorem dM_put_68 : decode cM_put 68 = .ok (.lload_n 1, 1) := by decide +kernel
theorem dM_put_69 : decode cM_put 69 = .ok (.lastore, 1) := by decide +kernel
theorem dM_put_70 : decode cM_put 70 = .ok (.aload_n 0, 1) := by decide +kernel
theorem dM_put_71 : decode cM_put 71 = .ok (.getfield 24, 3) := by decide +kernel
theorem dM_put_74 : decode cM_put 74 = .ok (.iload 4, 2) := by decide +kernel
theorem dM_put_76 : decode cM_put 76 = .ok (.iload_n 3, 1) := by decide +kernel
theorem dM_put_77 : decode cM_put 77 = .ok (.iastore, 1) := by decide +kernel
theorem dM_put_78 : decode cM_put 78 = .ok (.iconst 0, 1) := by decide +kernel
theorem dM_put_79 : decode cM_put 79 = .ok (.istore 5, 2) := by decide +kernel
theorem dM_put_81 : decode cM_put 81 = .ok (.iload 5, 2) := by decide +kernel
theorem dM_put_83 : decode cM_put 83 = .ok (.bipush 8, 2) := by decide +kernel
theorem dM_put_85 : decode cM_put 85 = .ok (.if_icmp .ge 39, 3) := by decide +kernel
theorem dM_put_88 : decode cM_put 88 = .ok (.aload_n 0, 1) := by decide +kernel
theorem dM_put_89 : decode cM_put 89 = .ok (.getfield 28, 3) := by decide +kernel
theorem dM_put_92 : decode cM_put 92 = .ok (.bipush 8, 2) := by decide +kernel
theorem dM_put_94 : decode cM_put 94 = .ok (.iload 4, 2) := by decide +kernel
theorem dM_put_96 : decode cM_put 96 = .ok (.imul, 1) := by decide +kernel
theorem dM_put_97 : decode cM_put 97 = .ok (.iload 5, 2) := by decide +kernel
theorem dM_put_99 : decode cM_put 99 = .ok (.iadd, 1) := by decide +kernel
theorem dM_put_100 : decode cM_put 100 = .ok (.iload 5, 2) := by decide +kernel
theorem dM_put_102 : decode cM_put 102 = .ok (.iload_n 3, 1) := by decide +kernel
theorem dM_put_103 : decode cM_put 103 = .ok (.if_icmp .ge 13, 3) := by decide +kernel
theorem dM_put_106 : decode cM_put 106 = .ok (.aload_n 0, 1) := by decide +kernel
theorem dM_put_107 : decode cM_put 107 = .ok (.getfield 13, 3) := by decide +kernel
theorem dM_put_110 : decode cM_put 110 = .ok (.iload 5, 2) := by decide +kernel
theorem dM_put_112 : decode cM_put 112 = .ok (.iaload, 1) := by decide +kernel
theorem dM_put_113 : decode cM_put 113 = .ok (.goto 4, 3) := by decide +kernel
theorem dM_put_116 : decode cM_put 116 = .ok (.iconst 0, 1) := by decide +kernel
theorem dM_put_117 : decode cM_put 117 = .ok (.iastore, 1) := by decide +kernel
theorem dM_put_118 : decode cM_put 118 = .ok (.iinc 5 1, 3) := by decide +kernel
theorem dM_put_121 : decode cM_put 121 = .ok (.goto (-40), 3) := by decide +kernel
theorem dM_put_124 : decode cM_put 124 = .ok (.aload_n 0, 1) := by decide +kernel
theorem dM_put_125 : decode cM_put 125 = .ok (.getfield 31, 3) := by decide +kernel
theorem dM_put_128 : decode cM_put 128 = .ok (.iload 4, 2) := by decide +kernel
theorem dM_put_130 : decode cM_put 130 = .ok (.iconst 0, 1) := by decide +kernel
theorem dM_put_131 : decode cM_put 131 = .ok (.bastore, 1) := by decide +kernel
theorem dM_put_132 : decode cM_put 132 = .ok (.aload_n 0, 1) := by decide +kernel
theorem dM_put_133 : decode cM_put 133 = .ok (.getfield 41, 3) := by decide +kernel
theorem dM_put_136 : decode cM_put 136 = .ok (.iload 4, 2) := by decide +kernel
theorem dM_put_138 : decode cM_put 138 = .ok (.iconst 0, 1) := by decide +kernel
theorem dM_put_139 : decode cM_put 139 = .ok (.bastore, 1) := by decide +kernel
theorem dM_put_140 : decode cM_put 140 = .ok (.aload_n 0, 1) := by decide +kernel
theorem dM_put_141 : decode cM_put 141 = .ok (.iload 4, 2) := by decide +kernel
theorem dM_put_143 : decode cM_put 143 = .ok (.invokevirtual 125, 3) := by decide +kernel
theorem dM_put_146 : decode cM_put 146 = .ok (.return_, 1) := by decide +kernel
theorem dM_works_0 : decode cM_works 0 = .ok (.aload_n 0, 1) := by decide +kernel
theorem dM_works_1 : decode cM_works 1 = .ok (.aload_n 0, 1) := by decide +kernel
theorem dM_works_2 : decode cM_works 2 = .ok (.getfield 7, 3) := by decide +kernel
theorem dM_works_5 : decode cM_works 5 = .ok (.ifCond .eq 7, 3) := by decide +kernel
theorem dM_works_8 : decode cM_works 8 = .ok (.iconst 0, 1) := by decide +kernel
theorem dM_works_9 : decode cM_works 9 = .ok (.goto 4, 3) := by decide +kernel
theorem dM_works_12 : decode cM_works 12 = .ok (.iconst 1, 1) := by decide +kernel
theorem dM_works_13 : decode cM_works 13 = .ok (.putfield 65, 3) := by decide +kernel
theorem dM_works_16 : decode cM_works 16 = .ok (.aload_n 0, 1) := by decide +kernel
theorem dM_works_17 : decode cM_works 17 = .ok (.getfield 7, 3) := by decide +kernel
theorem dM_works_20 : decode cM_works 20 = .ok (.ireturn, 1) := by decide +kernel
theorem dM_wordsOf_0 : decode cM_wordsOf 0 = .ok (.iconst 0, 1) := by decide +kernel
theorem dM_wordsOf_1 : decode cM_wordsOf 1 = .ok (.istore_n 2, 1) := by decide +kernel
theorem dM_wordsOf_2 : decode cM_wordsOf 2 = .ok (.iconst 0, 1) := by decide +kernel
theorem dM_wordsOf_3 : decode cM_wordsOf 3 = .ok (.istore_n 3, 1) := by decide +kernel
theorem dM_wordsOf_4 : decode cM_wordsOf 4 = .ok (.iload_n 3, 1) := by decide +kernel
theorem dM_wordsOf_5 : decode cM_wordsOf 5 = .ok (.aload_n 0, 1) := by decide +kernel
theorem dM_wordsOf_6 : decode cM_wordsOf 6 = .ok (.getfield 44, 3) := by decide +kernel
theorem dM_wordsOf_9 : decode cM_wordsOf 9 = .ok (.iload_n 1, 1) := by decide +kernel
theorem dM_wordsOf_10 : decode cM_wordsOf 10 = .ok (.iaload, 1) := by decide +kernel
theorem dM_wordsOf_11 : decode cM_wordsOf 11 = .ok (.if_icmp .ge 27, 3) := by decide +kernel
theorem dM_wordsOf_14 : decode cM_wordsOf 14 = .ok (.iload_n 2, 1) := by decide +kernel
theorem dM_wordsOf_15 : decode cM_wordsOf 15 = .ok (.aload_n 0, 1) := by decide +kernel
theorem dM_wordsOf_16 : decode cM_wordsOf 16 = .ok (.aload_n 0, 1) := by decide +kernel
theorem dM_wordsOf_17 : decode cM_wordsOf 17 = .ok (.getfield 47, 3) := by decide +kernel
theorem dM_wordsOf_20 : decode cM_wordsOf 20 = .ok (.bipush 8, 2) := by decide +kernel
theorem dM_wordsOf_22 : decode cM_wordsOf 22 = .ok (.iload_n 1, 1) := by decide +kernel
theorem dM_wordsOf_23 : decode cM_wordsOf 23 = .ok (.imul, 1) := by decide +kernel
theorem dM_wordsOf_24 : decode cM_wordsOf 24 = .ok (.iload_n 3, 1) := by decide +kernel
theorem dM_wordsOf_25 : decode cM_wordsOf 25 = .ok (.iadd, 1) := by decide +kernel
theorem dM_wordsOf_26 : decode cM_wordsOf 26 = .ok (.iaload, 1) := by decide +kernel
theorem dM_wordsOf_27 : decode cM_wordsOf 27 = .ok (.invokevirtual 79, 3) := by decide +kernel
theorem dM_wordsOf_30 : decode cM_wordsOf 30 = .ok (.iadd, 1) := by decide +kernel
theorem dM_wordsOf_31 : decode cM_wordsOf 31 = .ok (.istore_n 2, 1) := by decide +kernel
theorem dM_wordsOf_32 : decode cM_wordsOf 32 = .ok (.iinc 3 1, 3) := by decide +kernel
theorem dM_wordsOf_35 : decode cM_wordsOf 35 = .ok (.goto (-31), 3) := by decide +kernel
theorem dM_wordsOf_38 : decode cM_wordsOf 38 = .ok (.iload_n 2, 1) := by decide +kernel
theorem dM_wordsOf_39 : decode cM_wordsOf 39 = .ok (.ireturn, 1) := by decide +kernel
theorem dM_need_0 : decode cM_need 0 = .ok (.aload_n 0, 1) := by decide +kernel
theorem dM_need_1 : decode cM_need 1 = .ok (.getfield 24, 3) := by decide +kernel
theorem dM_need_4 : decode cM_need 4 = .ok (.iload_n 1, 1) := by decide +kernel
theorem dM_need_5 : decode cM_need 5 = .ok (.iaload, 1) := by decide +kernel
theorem dM_need_6 : decode cM_need 6 = .ok (.iconst 3, 1) := by decide +kernel
theorem dM_need_7 : decode cM_need 7 = .ok (.iadd, 1) := by decide +kernel
theorem dM_need_8 : decode cM_need 8 = .ok (.ireturn, 1) := by decide +kernel
theorem dM_makeRoom_0 : decode cM_makeRoom 0 = .ok (.bipush 64, 2) := by decide +kernel
theorem dM_makeRoom_2 : decode cM_makeRoom 2 = .ok (.aload_n 0, 1) := by decide +kernel
theorem dM_makeRoom_3 : decode cM_makeRoom 3 = .ok (.getfield 96, 3) := by decide +kernel
theorem dM_makeRoom_6 : decode cM_makeRoom 6 = .ok (.bipush 32, 2) := by decide +kernel
theorem dM_makeRoom_8 : decode cM_makeRoom 8 = .ok (.irem, 1) := by decide +kernel
theorem dM_makeRoom_9 : decode cM_makeRoom 9 = .ok (.iadd, 1) := by decide +kernel
theorem dM_makeRoom_10 : decode cM_makeRoom 10 = .ok (.istore_n 1, 1) := by decide +kernel
theorem dM_makeRoom_11 : decode cM_makeRoom 11 = .ok (.aload_n 0, 1) := by decide +kernel
theorem dM_makeRoom_12 : decode cM_makeRoom 12 = .ok (.iconst 0, 1) := by decide +kernel
theorem dM_makeRoom_13 : decode cM_makeRoom 13 = .ok (.putfield 86, 3) := by decide +kernel
theorem dM_makeRoom_16 : decode cM_makeRoom 16 = .ok (.aload_n 0, 1) := by decide +kernel
theorem dM_makeRoom_17 : decode cM_makeRoom 17 = .ok (.getfield 96, 3) := by decide +kernel
theorem dM_makeRoom_20 : decode cM_makeRoom 20 = .ok (.iconst 4, 1) := by decide +kernel
theorem dM_makeRoom_21 : decode cM_makeRoom 21 = .ok (.irem, 1) := by decide +kernel
theorem dM_makeRoom_22 : decode cM_makeRoom 22 = .ok (.ifCond .ne 17, 3) := by decide +kernel
theorem dM_makeRoom_25 : decode cM_makeRoom 25 = .ok (.aload_n 0, 1) := by decide +kernel
theorem dM_makeRoom_26 : decode cM_makeRoom 26 = .ok (.getfield 96, 3) := by decide +kernel
theorem dM_makeRoom_29 : decode cM_makeRoom 29 = .ok (.bipush 32, 2) := by decide +kernel
theorem dM_makeRoom_31 : decode cM_makeRoom 31 = .ok (.if_icmp .lt 8, 3) := by decide +kernel
theorem dM_makeRoom_34 : decode cM_makeRoom 34 = .ok (.aload_n 0, 1) := by decide +kernel
theorem dM_makeRoom_35 : decode cM_makeRoom 35 = .ok (.iload_n 1, 1) := by decide +kernel
theorem dM_makeRoom_36 : decode cM_makeRoom 36 = .ok (.invokevirtual 109, 3) := by decide +kernel
theorem dM_makeRoom_39 : decode cM_makeRoom 39 = .ok (.aload_n 0, 1) := by decide +kernel
theorem dM_makeRoom_40 : decode cM_makeRoom 40 = .ok (.invokevirtual 113, 3) := by decide +kernel
theorem dM_makeRoom_43 : decode cM_makeRoom 43 = .ok (.aload_n 0, 1) := by decide +kernel
theorem dM_makeRoom_44 : decode cM_makeRoom 44 = .ok (.getfield 86, 3) := by decide +kernel
theorem dM_makeRoom_47 : decode cM_makeRoom 47 = .ok (.istore_n 2, 1) := by decide +kernel
theorem dM_makeRoom_48 : decode cM_makeRoom 48 = .ok (.aload_n 0, 1) := by decide +kernel
theorem dM_makeRoom_49 : decode cM_makeRoom 49 = .ok (.invokevirtual 116, 3) := by decide +kernel
theorem dM_makeRoom_52 : decode cM_makeRoom 52 = .ok (.iconst 0, 1) := by decide +kernel
theorem dM_makeRoom_53 : decode cM_makeRoom 53 = .ok (.istore_n 3, 1) := by decide +kernel
theorem dM_makeRoom_54 : decode cM_makeRoom 54 = .ok (.iload_n 3, 1) := by decide +kernel
theorem dM_makeRoom_55 : decode cM_makeRoom 55 = .ok (.iload_n 2, 1) := by decide +kernel
theorem dM_makeRoom_56 : decode cM_makeRoom 56 = .ok (.if_icmp .ge 19, 3) := by decide +kernel
theorem dM_makeRoom_59 : decode cM_makeRoom 59 = .ok (.aload_n 0, 1) := by decide +kernel
theorem dM_makeRoom_60 : decode cM_makeRoom 60 = .ok (.aload_n 0, 1) := by decide +kernel
theorem dM_makeRoom_61 : decode cM_makeRoom 61 = .ok (.getfield 56, 3) := by decide +kernel
theorem dM_makeRoom_64 : decode cM_makeRoom 64 = .ok (.iload_n 3, 1) := by decide +kernel
theorem dM_makeRoom_65 : decode cM_makeRoom 65 = .ok (.iaload, 1) := by decide +kernel
theorem dM_makeRoom_66 : decode cM_makeRoom 66 = .ok (.invokevirtual 119, 3) := by decide +kernel
theorem dM_makeRoom_69 : decode cM_makeRoom 69 = .ok (.iinc 3 1, 3) := by decide +kernel
theorem dM_makeRoom_72 : decode cM_makeRoom 72 = .ok (.goto (-18), 3) := by decide +kernel
theorem dM_makeRoom_75 : decode cM_makeRoom 75 = .ok (.aload_n 0, 1) := by decide +kernel
theorem dM_makeRoom_76 : decode cM_makeRoom 76 = .ok (.iconst 0, 1) := by decide +kernel
theorem dM_makeRoom_77 : decode cM_makeRoom 77 = .ok (.putfield 86, 3) := by decide +kernel
theorem dM_makeRoom_80 : decode cM_makeRoom 80 = .ok (.return_, 1) := by decide +kernel
theorem dM_empty_0 : decode cM_empty 0 = .ok (.iconst 0, 1) := by decide +kernel
theorem dM_empty_1 : decode cM_empty 1 = .ok (.istore_n 2, 1) := by decide +kernel
theorem dM_empty_2 : decode cM_empty 2 = .ok (.iload_n 2, 1) := by decide +kernel
theorem dM_empty_3 : decode cM_empty 3 = .ok (.bipush 64, 2) := by decide +kernel
theorem dM_empty_5 : decode cM_empty 5 = .ok (.if_icmp .ge 16, 3) := by decide +kernel
theorem dM_empty_8 : decode cM_empty 8 = .ok (.aload_n 0, 1) := by decide +kernel
theorem dM_empty_9 : decode cM_empty 9 = .ok (.getfield 59, 3) := by decide +kernel
theorem dM_empty_12 : decode cM_empty 12 = .ok (.iload_n 2, 1) := by decide +kernel
theorem dM_empty_13 : decode cM_empty 13 = .ok (.iconst 0, 1) := by decide +kernel
theorem dM_empty_14 : decode cM_empty 14 = .ok (.bastore, 1) := by decide +kernel
theorem dM_empty_15 : decode cM_empty 15 = .ok (.iinc 2 1, 3) := by decide +kernel
theorem dM_empty_18 : decode cM_empty 18 = .ok (.goto (-16), 3) := by decide +kernel
theorem dM_empty_21 : decode cM_empty 21 = .ok (.iload_n 1, 1) := by decide +kernel
theorem dM_empty_22 : decode cM_empty 22 = .ok (.istore_n 2, 1) := by decide +kernel
theorem dM_empty_23 : decode cM_empty 23 = .ok (.iload_n 2, 1) := by decide +kernel
theorem dM_empty_24 : decode cM_empty 24 = .ok (.iload_n 1, 1) := by decide +kernel
theorem dM_empty_25 : decode cM_empty 25 = .ok (.iconst 4, 1) := by decide +kernel
theorem dM_empty_26 : decode cM_empty 26 = .ok (.iadd, 1) := by decide +kernel
theorem dM_empty_27 : decode cM_empty 27 = .ok (.if_icmp .ge 71, 3) := by decide +kernel
theorem dM_empty_30 : decode cM_empty 30 = .ok (.iconst 0, 1) := by decide +kernel
theorem dM_empty_31 : decode cM_empty 31 = .ok (.istore_n 3, 1) := by decide +kernel
theorem dM_empty_32 : decode cM_empty 32 = .ok (.iload_n 3, 1) := by decide +kernel
theorem dM_empty_33 : decode cM_empty 33 = .ok (.aload_n 0, 1) := by decide +kernel
theorem dM_empty_34 : decode cM_empty 34 = .ok (.getfield 44, 3) := by decide +kernel
theorem dM_empty_37 : decode cM_empty 37 = .ok (.iload_n 2, 1) := by decide +kernel
theorem dM_empty_38 : decode cM_empty 38 = .ok (.iaload, 1) := by decide +kernel
theorem dM_empty_39 : decode cM_empty 39 = .ok (.if_icmp .ge 53, 3) := by decide +kernel
theorem dM_empty_42 : decode cM_empty 42 = .ok (.aload_n 0, 1) := by decide +kernel
theorem dM_empty_43 : decode cM_empty 43 = .ok (.getfield 31, 3) := by decide +kernel
theorem dM_empty_46 : decode cM_empty 46 = .ok (.aload_n 0, 1) := by decide +kernel
theorem dM_empty_47 : decode cM_empty 47 = .ok (.getfield 47, 3) := by decide +kernel
theorem dM_empty_50 : decode cM_empty 50 = .ok (.bipush 8, 2) := by decide +kernel
theorem dM_empty_52 : decode cM_empty 52 = .ok (.iload_n 2, 1) := by decide +kernel
theorem dM_empty_53 : decode cM_empty 53 = .ok (.imul, 1) := by decide +kernel
theorem dM_empty_54 : decode cM_empty 54 = .ok (.iload_n 3, 1) := by decide +kernel
theorem dM_empty_55 : decode cM_empty 55 = .ok (.iadd, 1) := by decide +kernel
theorem dM_empty_56 : decode cM_empty 56 = .ok (.iaload, 1) := by decide +kernel
theorem dM_empty_57 : decode cM_empty 57 = .ok (.baload, 1) := by decide +kernel
theorem dM_empty_58 : decode cM_empty 58 = .ok (.ifCond .eq 28, 3) := by decide +kernel
theorem dM_empty_61 : decode cM_empty 61 = .ok (.aload_n 0, 1) := by decide +kernel
theorem dM_empty_62 : decode cM_empty 62 = .ok (.getfield 59, 3) := by decide +kernel
theorem dM_empty_65 : decode cM_empty 65 = .ok (.aload_n 0, 1) := by decide +kernel
theorem dM_empty_66 : decode cM_empty 66 = .ok (.getfield 20, 3) := by decide +kernel
theorem dM_empty_69 : decode cM_empty 69 = .ok (.aload_n 0, 1) := by decide +kernel
theorem dM_empty_70 : decode cM_empty 70 = .ok (.getfield 47, 3) := by decide +kernel
theorem dM_empty_73 : decode cM_empty 73 = .ok (.bipush 8, 2) := by decide +kernel
theorem dM_empty_75 : decode cM_empty 75 = .ok (.iload_n 2, 1) := by decide +kernel
theorem dM_empty_76 : decode cM_empty 76 = .ok (.imul, 1) := by decide +kernel
theorem dM_empty_77 : decode cM_empty 77 = .ok (.iload_n 3, 1) := by decide +kernel
theorem dM_empty_78 : decode cM_empty 78 = .ok (.iadd, 1) := by decide +kernel
theorem dM_empty_79 : decode cM_empty 79 = .ok (.iaload, 1) := by decide +kernel
theorem dM_empty_80 : decode cM_empty 80 = .ok (.laload, 1) := by decide +kernel
theorem dM_empty_81 : decode cM_empty 81 = .ok (.invokestatic 89, 3) := by decide +kernel
theorem dM_empty_84 : decode cM_empty 84 = .ok (.iconst 1, 1) := by decide +kernel
theorem dM_empty_85 : decode cM_empty 85 = .ok (.bastore, 1) := by decide +kernel
theorem dM_empty_86 : decode cM_empty 86 = .ok (.iinc 3 1, 3) := by decide +kernel
theorem dM_empty_89 : decode cM_empty 89 = .ok (.goto (-57), 3) := by decide +kernel
theorem dM_empty_92 : decode cM_empty 92 = .ok (.iinc 2 1, 3) := by decide +kernel
theorem dM_empty_95 : decode cM_empty 95 = .ok (.goto (-72), 3) := by decide +kernel
theorem dM_empty_98 : decode cM_empty 98 = .ok (.iconst 0, 1) := by decide +kernel
theorem dM_empty_99 : decode cM_empty 99 = .ok (.istore_n 2, 1) := by decide +kernel
theorem dM_empty_100 : decode cM_empty 100 = .ok (.iload_n 2, 1) := by decide +kernel
theorem dM_empty_101 : decode cM_empty 101 = .ok (.bipush 64, 2) := by decide +kernel
theorem dM_empty_103 : decode cM_empty 103 = .ok (.if_icmp .ge 50, 3) := by decide +kernel
theorem dM_empty_106 : decode cM_empty 106 = .ok (.aload_n 0, 1) := by decide +kernel
theorem dM_empty_107 : decode cM_empty 107 = .ok (.getfield 59, 3) := by decide +kernel
theorem dM_empty_110 : decode cM_empty 110 = .ok (.iload_n 2, 1) := by decide +kernel
theorem dM_empty_111 : decode cM_empty 111 = .ok (.baload, 1) := by decide +kernel
theorem dM_empty_112 : decode cM_empty 112 = .ok (.ifCond .eq 35, 3) := by decide +kernel
theorem dM_empty_115 : decode cM_empty 115 = .ok (.aload_n 0, 1) := by decide +kernel
theorem dM_empty_116 : decode cM_empty 116 = .ok (.iload_n 2, 1) := by decide +kernel
theorem dM_empty_117 : decode cM_empty 117 = .ok (.invokevirtual 128, 3) := by decide +kernel
theorem dM_empty_120 : decode cM_empty 120 = .ok (.aload_n 0, 1) := by decide +kernel
theorem dM_empty_121 : decode cM_empty 121 = .ok (.getfield 83, 3) := by decide +kernel
theorem dM_empty_124 : decode cM_empty 124 = .ok (.iconst 1, 1) := by decide +kernel
theorem dM_empty_125 : decode cM_empty 125 = .ok (.if_icmp .le 11, 3) := by decide +kernel
theorem dM_empty_128 : decode cM_empty 128 = .ok (.aload_n 0, 1) := by decide +kernel
theorem dM_empty_129 : decode cM_empty 129 = .ok (.iload_n 2, 1) := by decide +kernel
theorem dM_empty_130 : decode cM_empty 130 = .ok (.invokevirtual 131, 3) := by decide +kernel
theorem dM_empty_133 : decode cM_empty 133 = .ok (.goto 14, 3) := by decide +kernel
theorem dM_empty_136 : decode cM_empty 136 = .ok (.aload_n 0, 1) := by decide +kernel
theorem dM_empty_137 : decode cM_empty 137 = .ok (.iload_n 2, 1) := by decide +kernel
theorem dM_empty_138 : decode cM_empty 138 = .ok (.aload_n 0, 1) := by decide +kernel
theorem dM_empty_139 : decode cM_empty 139 = .ok (.getfield 53, 3) := by decide +kernel
theorem dM_empty_142 : decode cM_empty 142 = .ok (.iconst 0, 1) := by decide +kernel
theorem dM_empty_143 : decode cM_empty 143 = .ok (.iaload, 1) := by decide +kernel
theorem dM_empty_144 : decode cM_empty 144 = .ok (.invokevirtual 134, 3) := by decide +kernel
theorem dM_empty_147 : decode cM_empty 147 = .ok (.iinc 2 1, 3) := by decide +kernel
theorem dM_empty_150 : decode cM_empty 150 = .ok (.goto (-50), 3) := by decide +kernel
theorem dM_empty_153 : decode cM_empty 153 = .ok (.aload_n 0, 1) := by decide +kernel
theorem dM_empty_154 : decode cM_empty 154 = .ok (.iconst 0, 1) := by decide +kernel
theorem dM_empty_155 : decode cM_empty 155 = .ok (.putfield 83, 3) := by decide +kernel
theorem dM_empty_158 : decode cM_empty 158 = .ok (.return_, 1) := by decide +kernel
theorem dM_setOfKey_0 : decode cM_setOfKey 0 = .ok (.lload_n 0, 1) := by decide +kernel
theorem dM_setOfKey_1 : decode cM_setOfKey 1 = .ok (.invokestatic 73, 3) := by decide +kernel
theorem dM_setOfKey_4 : decode cM_setOfKey 4 = .ok (.bipush 58, 2) := by decide +kernel
theorem dM_setOfKey_6 : decode cM_setOfKey 6 = .ok (.lushr, 1) := by decide +kernel
theorem dM_setOfKey_7 : decode cM_setOfKey 7 = .ok (.l2i, 1) := by decide +kernel
theorem dM_setOfKey_8 : decode cM_setOfKey 8 = .ok (.ireturn, 1) := by decide +kernel
theorem dM_mixed_0 : decode cM_mixed 0 = .ok (.lload_n 0, 1) := by decide +kernel
theorem dM_mixed_1 : decode cM_mixed 1 = .ok (.lload_n 0, 1) := by decide +kernel
theorem dM_mixed_2 : decode cM_mixed 2 = .ok (.bipush 30, 2) := by decide +kernel
theorem dM_mixed_4 : decode cM_mixed 4 = .ok (.lushr, 1) := by decide +kernel
theorem dM_mixed_5 : decode cM_mixed 5 = .ok (.lxor, 1) := by decide +kernel
theorem dM_mixed_6 : decode cM_mixed 6 = .ok (.lstore_n 2, 1) := by decide +kernel
theorem dM_mixed_7 : decode cM_mixed 7 = .ok (.lload_n 2, 1) := by decide +kernel
theorem dM_mixed_8 : decode cM_mixed 8 = .ok (.ldc2_w 69, 3) := by decide +kernel
theorem dM_mixed_11 : decode cM_mixed 11 = .ok (.lmul, 1) := by decide +kernel
theorem dM_mixed_12 : decode cM_mixed 12 = .ok (.lstore_n 2, 1) := by decide +kernel
theorem dM_mixed_13 : decode cM_mixed 13 = .ok (.lload_n 2, 1) := by decide +kernel
theorem dM_mixed_14 : decode cM_mixed 14 = .ok (.lload_n 2, 1) := by decide +kernel
theorem dM_mixed_15 : decode cM_mixed 15 = .ok (.bipush 27, 2) := by decide +kernel
theorem dM_mixed_17 : decode cM_mixed 17 = .ok (.lushr, 1) := by decide +kernel
theorem dM_mixed_18 : decode cM_mixed 18 = .ok (.lxor, 1) := by decide +kernel
theorem dM_mixed_19 : decode cM_mixed 19 = .ok (.lstore_n 2, 1) := by decide +kernel
theorem dM_mixed_20 : decode cM_mixed 20 = .ok (.lload_n 2, 1) := by decide +kernel
theorem dM_mixed_21 : decode cM_mixed 21 = .ok (.ldc2_w 71, 3) := by decide +kernel
theorem dM_mixed_24 : decode cM_mixed 24 = .ok (.lmul, 1) := by decide +kernel
theorem dM_mixed_25 : decode cM_mixed 25 = .ok (.lstore_n 2, 1) := by decide +kernel
theorem dM_mixed_26 : decode cM_mixed 26 = .ok (.lload_n 2, 1) := by decide +kernel
theorem dM_mixed_27 : decode cM_mixed 27 = .ok (.lload_n 2, 1) := by decide +kernel
theorem dM_mixed_28 : decode cM_mixed 28 = .ok (.bipush 31, 2) := by decide +kernel
theorem dM_mixed_30 : decode cM_mixed 30 = .ok (.lushr, 1) := by decide +kernel
theorem dM_mixed_31 : decode cM_mixed 31 = .ok (.lxor, 1) := by decide +kernel
theorem dM_mixed_32 : decode cM_mixed 32 = .ok (.lreturn, 1) := by decide +kernel
theorem dM_gatherAll_0 : decode cM_gatherAll 0 = .ok (.aload_n 0, 1) := by decide +kernel
theorem dM_gatherAll_1 : decode cM_gatherAll 1 = .ok (.iconst 0, 1) := by decide +kernel
theorem dM_gatherAll_2 : decode cM_gatherAll 2 = .ok (.putfield 83, 3) := by decide +kernel
theorem dM_gatherAll_5 : decode cM_gatherAll 5 = .ok (.bipush 64, 2) := by decide +kernel
theorem dM_gatherAll_7 : decode cM_gatherAll 7 = .ok (.istore_n 2, 1) := by decide +kernel
theorem dM_gatherAll_8 : decode cM_gatherAll 8 = .ok (.iload_n 2, 1) := by decide +kernel
theorem dM_gatherAll_9 : decode cM_gatherAll 9 = .ok (.bipush 97, 2) := by decide +kernel
theorem dM_gatherAll_11 : decode cM_gatherAll 11 = .ok (.if_icmp .ge 140, 3) := by decide +kernel
theorem dM_gatherAll_14 : decode cM_gatherAll 14 = .ok (.iconst 0, 1) := by decide +kernel
theorem dM_gatherAll_15 : decode cM_gatherAll 15 = .ok (.istore_n 3, 1) := by decide +kernel
theorem dM_gatherAll_16 : decode cM_gatherAll 16 = .ok (.iload_n 3, 1) := by decide +kernel
theorem dM_gatherAll_17 : decode cM_gatherAll 17 = .ok (.aload_n 0, 1) := by decide +kernel
theorem dM_gatherAll_18 : decode cM_gatherAll 18 = .ok (.getfield 44, 3) := by decide +kernel
theorem dM_gatherAll_21 : decode cM_gatherAll 21 = .ok (.iload_n 2, 1) := by decide +kernel
theorem dM_gatherAll_22 : decode cM_gatherAll 22 = .ok (.iaload, 1) := by decide +kernel
theorem dM_gatherAll_23 : decode cM_gatherAll 23 = .ok (.if_icmp .ge 122, 3) := by decide +kernel
theorem dM_gatherAll_26 : decode cM_gatherAll 26 = .ok (.aload_n 0, 1) := by decide +kernel
theorem dM_gatherAll_27 : decode cM_gatherAll 27 = .ok (.getfield 47, 3) := by decide +kernel
theorem dM_gatherAll_30 : decode cM_gatherAll 30 = .ok (.bipush 8, 2) := by decide +kernel
theorem dM_gatherAll_32 : decode cM_gatherAll 32 = .ok (.iload_n 2, 1) := by decide +kernel
theorem dM_gatherAll_33 : decode cM_gatherAll 33 = .ok (.imul, 1) := by decide +kernel
theorem dM_gatherAll_34 : decode cM_gatherAll 34 = .ok (.iload_n 3, 1) := by decide +kernel
theorem dM_gatherAll_35 : decode cM_gatherAll 35 = .ok (.iadd, 1) := by decide +kernel
theorem dM_gatherAll_36 : decode cM_gatherAll 36 = .ok (.iaload, 1) := by decide +kernel
theorem dM_gatherAll_37 : decode cM_gatherAll 37 = .ok (.istore 4, 2) := by decide +kernel
theorem dM_gatherAll_39 : decode cM_gatherAll 39 = .ok (.aload_n 0, 1) := by decide +kernel
theorem dM_gatherAll_40 : decode cM_gatherAll 40 = .ok (.getfield 31, 3) := by decide +kernel
theorem dM_gatherAll_43 : decode cM_gatherAll 43 = .ok (.iload 4, 2) := by decide +kernel
theorem dM_gatherAll_45 : decode cM_gatherAll 45 = .ok (.baload, 1) := by decide +kernel
theorem dM_gatherAll_46 : decode cM_gatherAll 46 = .ok (.ifCond .eq 93, 3) := by decide +kernel
theorem dM_gatherAll_49 : decode cM_gatherAll 49 = .ok (.aload_n 0, 1) := by decide +kernel
theorem dM_gatherAll_50 : decode cM_gatherAll 50 = .ok (.getfield 20, 3) := by decide +kernel
theorem dM_gatherAll_53 : decode cM_gatherAll 53 = .ok (.iload 4, 2) := by decide +kernel
theorem dM_gatherAll_55 : decode cM_gatherAll 55 = .ok (.laload, 1) := by decide +kernel
theorem dM_gatherAll_56 : decode cM_gatherAll 56 = .ok (.invokestatic 89, 3) := by decide +kernel
theorem dM_gatherAll_59 : decode cM_gatherAll 59 = .ok (.iload_n 1, 1) := by decide +kernel
theorem dM_gatherAll_60 : decode cM_gatherAll 60 = .ok (.if_icmp .ne 79, 3) := by decide +kernel
theorem dM_gatherAll_63 : decode cM_gatherAll 63 = .ok (.aload_n 0, 1) := by decide +kernel
theorem dM_gatherAll_64 : decode cM_gatherAll 64 = .ok (.getfield 83, 3) := by decide +kernel
theorem dM_gatherAll_67 : decode cM_gatherAll 67 = .ok (.istore 5, 2) := by decide +kernel
theorem dM_gatherAll_69 : decode cM_gatherAll 69 = .ok (.iload 5, 2) := by decide +kernel
theorem dM_gatherAll_71 : decode cM_gatherAll 71 = .ok (.ifCond .le 49, 3) := by decide +kernel
theorem dM_gatherAll_74 : decode cM_gatherAll 74 = .ok (.aload_n 0, 1) := by decide +kernel
theorem dM_gatherAll_75 : decode cM_gatherAll 75 = .ok (.getfield 38, 3) := by decide +kernel
theorem dM_gatherAll_78 : decode cM_gatherAll 78 = .ok (.aload_n 0, 1) := by decide +kernel
theorem dM_gatherAll_79 : decode cM_gatherAll 79 = .ok (.getfield 53, 3) := by decide +kernel
theorem dM_gatherAll_82 : decode cM_gatherAll 82 = .ok (.iload 5, 2) := by decide +kernel
theorem dM_gatherAll_84 : decode cM_gatherAll 84 = .ok (.iconst 1, 1) := by decide +kernel
theorem dM_gatherAll_85 : decode cM_gatherAll 85 = .ok (.isub, 1) := by decide +kernel
theorem dM_gatherAll_86 : decode cM_gatherAll 86 = .ok (.iaload, 1) := by decide +kernel
theorem dM_gatherAll_87 : decode cM_gatherAll 87 = .ok (.iaload, 1) := by decide +kernel
theorem dM_gatherAll_88 : decode cM_gatherAll 88 = .ok (.aload_n 0, 1) := by decide +kernel
theorem dM_gatherAll_89 : decode cM_gatherAll 89 = .ok (.getfield 38, 3) := by decide +kernel
theorem dM_gatherAll_92 : decode cM_gatherAll 92 = .ok (.iload 4, 2) := by decide +kernel
theorem dM_gatherAll_94 : decode cM_gatherAll 94 = .ok (.iaload, 1) := by decide +kernel
theorem dM_gatherAll_95 : decode cM_gatherAll 95 = .ok (.if_icmp .le 25, 3) := by decide +kernel
theorem dM_gatherAll_98 : decode cM_gatherAll 98 = .ok (.aload_n 0, 1) := by decide +kernel
theorem dM_gatherAll_99 : decode cM_gatherAll 99 = .ok (.getfield 53, 3) := by decide +kernel
theorem dM_gatherAll_102 : decode cM_gatherAll 102 = .ok (.iload 5, 2) := by decide +kernel
theorem dM_gatherAll_104 : decode cM_gatherAll 104 = .ok (.aload_n 0, 1) := by decide +kernel
theorem dM_gatherAll_105 : decode cM_gatherAll 105 = .ok (.getfield 53, 3) := by decide +kernel
theorem dM_gatherAll_108 : decode cM_gatherAll 108 = .ok (.iload 5, 2) := by decide +kernel
theorem dM_gatherAll_110 : decode cM_gatherAll 110 = .ok (.iconst 1, 1) := by decide +kernel
theorem dM_gatherAll_111 : decode cM_gatherAll 111 = .ok (.isub, 1) := by decide +kernel
theorem dM_gatherAll_112 : decode cM_gatherAll 112 = .ok (.iaload, 1) := by decide +kernel
theorem dM_gatherAll_113 : decode cM_gatherAll 113 = .ok (.iastore, 1) := by decide +kernel
theorem dM_gatherAll_114 : decode cM_gatherAll 114 = .ok (.iinc 5 (-1), 3) := by decide +kernel
theorem dM_gatherAll_117 : decode cM_gatherAll 117 = .ok (.goto (-48), 3) := by decide +kernel
theorem dM_gatherAll_120 : decode cM_gatherAll 120 = .ok (.aload_n 0, 1) := by decide +kernel
theorem dM_gatherAll_121 : decode cM_gatherAll 121 = .ok (.getfield 53, 3) := by decide +kernel
theorem dM_gatherAll_124 : decode cM_gatherAll 124 = .ok (.iload 5, 2) := by decide +kernel
theorem dM_gatherAll_126 : decode cM_gatherAll 126 = .ok (.iload 4, 2) := by decide +kernel
theorem dM_gatherAll_128 : decode cM_gatherAll 128 = .ok (.iastore, 1) := by decide +kernel
theorem dM_gatherAll_129 : decode cM_gatherAll 129 = .ok (.aload_n 0, 1) := by decide +kernel
theorem dM_gatherAll_130 : decode cM_gatherAll 130 = .ok (.dup, 1) := by decide +kernel
theorem dM_gatherAll_131 : decode cM_gatherAll 131 = .ok (.getfield 83, 3) := by decide +kernel
theorem dM_gatherAll_134 : decode cM_gatherAll 134 = .ok (.iconst 1, 1) := by decide +kernel
theorem dM_gatherAll_135 : decode cM_gatherAll 135 = .ok (.iadd, 1) := by decide +kernel
theorem dM_gatherAll_136 : decode cM_gatherAll 136 = .ok (.putfield 83, 3) := by decide +kernel
theorem dM_gatherAll_139 : decode cM_gatherAll 139 = .ok (.iinc 3 1, 3) := by decide +kernel
theorem dM_gatherAll_142 : decode cM_gatherAll 142 = .ok (.goto (-126), 3) := by decide +kernel
theorem dM_gatherAll_145 : decode cM_gatherAll 145 = .ok (.iinc 2 1, 3) := by decide +kernel
theorem dM_gatherAll_148 : decode cM_gatherAll 148 = .ok (.goto (-140), 3) := by decide +kernel
theorem dM_gatherAll_151 : decode cM_gatherAll 151 = .ok (.return_, 1) := by decide +kernel
theorem dM_moveAll_0 : decode cM_moveAll 0 = .ok (.aload_n 0, 1) := by decide +kernel
theorem dM_moveAll_1 : decode cM_moveAll 1 = .ok (.getfield 62, 3) := by decide +kernel
theorem dM_moveAll_4 : decode cM_moveAll 4 = .ok (.bipush 9, 2) := by decide +kernel
theorem dM_moveAll_6 : decode cM_moveAll 6 = .ok (.dup2, 1) := by decide +kernel
theorem dM_moveAll_7 : decode cM_moveAll 7 = .ok (.iaload, 1) := by decide +kernel
theorem dM_moveAll_8 : decode cM_moveAll 8 = .ok (.iconst 1, 1) := by decide +kernel
theorem dM_moveAll_9 : decode cM_moveAll 9 = .ok (.iadd, 1) := by decide +kernel
theorem dM_moveAll_10 : decode cM_moveAll 10 = .ok (.iastore, 1) := by decide +kernel
theorem dM_moveAll_11 : decode cM_moveAll 11 = .ok (.aload_n 0, 1) := by decide +kernel
theorem dM_moveAll_12 : decode cM_moveAll 12 = .ok (.getfield 62, 3) := by decide +kernel
theorem dM_moveAll_15 : decode cM_moveAll 15 = .ok (.iconst 4, 1) := by decide +kernel
theorem dM_moveAll_16 : decode cM_moveAll 16 = .ok (.dup2, 1) := by decide +kernel
theorem dM_moveAll_17 : decode cM_moveAll 17 = .ok (.iaload, 1) := by decide +kernel
theorem dM_moveAll_18 : decode cM_moveAll 18 = .ok (.aload_n 0, 1) := by decide +kernel
theorem dM_moveAll_19 : decode cM_moveAll 19 = .ok (.getfield 83, 3) := by decide +kernel
theorem dM_moveAll_22 : decode cM_moveAll 22 = .ok (.iadd, 1) := by decide +kernel
theorem dM_moveAll_23 : decode cM_moveAll 23 = .ok (.iastore, 1) := by decide +kernel
theorem dM_moveAll_24 : decode cM_moveAll 24 = .ok (.iconst 0, 1) := by decide +kernel
theorem dM_moveAll_25 : decode cM_moveAll 25 = .ok (.istore_n 2, 1) := by decide +kernel
theorem dM_moveAll_26 : decode cM_moveAll 26 = .ok (.iload_n 2, 1) := by decide +kernel
theorem dM_moveAll_27 : decode cM_moveAll 27 = .ok (.aload_n 0, 1) := by decide +kernel
theorem dM_moveAll_28 : decode cM_moveAll 28 = .ok (.getfield 83, 3) := by decide +kernel
theorem dM_moveAll_31 : decode cM_moveAll 31 = .ok (.if_icmp .ge 47, 3) := by decide +kernel
theorem dM_moveAll_34 : decode cM_moveAll 34 = .ok (.aload_n 0, 1) := by decide +kernel
theorem dM_moveAll_35 : decode cM_moveAll 35 = .ok (.getfield 31, 3) := by decide +kernel
theorem dM_moveAll_38 : decode cM_moveAll 38 = .ok (.aload_n 0, 1) := by decide +kernel
theorem dM_moveAll_39 : decode cM_moveAll 39 = .ok (.getfield 53, 3) := by decide +kernel
theorem dM_moveAll_42 : decode cM_moveAll 42 = .ok (.iload_n 2, 1) := by decide +kernel
theorem dM_moveAll_43 : decode cM_moveAll 43 = .ok (.iaload, 1) := by decide +kernel
theorem dM_moveAll_44 : decode cM_moveAll 44 = .ok (.iconst 0, 1) := by decide +kernel
theorem dM_moveAll_45 : decode cM_moveAll 45 = .ok (.bastore, 1) := by decide +kernel
theorem dM_moveAll_46 : decode cM_moveAll 46 = .ok (.aload_n 0, 1) := by decide +kernel
theorem dM_moveAll_47 : decode cM_moveAll 47 = .ok (.aload_n 0, 1) := by decide +kernel
theorem dM_moveAll_48 : decode cM_moveAll 48 = .ok (.getfield 20, 3) := by decide +kernel
theorem dM_moveAll_51 : decode cM_moveAll 51 = .ok (.aload_n 0, 1) := by decide +kernel
theorem dM_moveAll_52 : decode cM_moveAll 52 = .ok (.getfield 53, 3) := by decide +kernel
theorem dM_moveAll_55 : decode cM_moveAll 55 = .ok (.iload_n 2, 1) := by decide +kernel
theorem dM_moveAll_56 : decode cM_moveAll 56 = .ok (.iaload, 1) := by decide +kernel
theorem dM_moveAll_57 : decode cM_moveAll 57 = .ok (.laload, 1) := by decide +kernel
theorem dM_moveAll_58 : decode cM_moveAll 58 = .ok (.invokevirtual 143, 3) := by decide +kernel
theorem dM_moveAll_61 : decode cM_moveAll 61 = .ok (.istore_n 3, 1) := by decide +kernel
theorem dM_moveAll_62 : decode cM_moveAll 62 = .ok (.iload_n 3, 1) := by decide +kernel
theorem dM_moveAll_63 : decode cM_moveAll 63 = .ok (.ifCond .lt 9, 3) := by decide +kernel
theorem dM_moveAll_66 : decode cM_moveAll 66 = .ok (.aload_n 0, 1) := by decide +kernel
theorem dM_moveAll_67 : decode cM_moveAll 67 = .ok (.iload_n 1, 1) := by decide +kernel
theorem dM_moveAll_68 : decode cM_moveAll 68 = .ok (.iload_n 3, 1) := by decide +kernel
theorem dM_moveAll_69 : decode cM_moveAll 69 = .ok (.invokevirtual 140, 3) := by decide +kernel
theorem dM_moveAll_72 : decode cM_moveAll 72 = .ok (.iinc 2 1, 3) := by decide +kernel
theorem dM_moveAll_75 : decode cM_moveAll 75 = .ok (.goto (-49), 3) := by decide +kernel
theorem dM_moveAll_78 : decode cM_moveAll 78 = .ok (.aload_n 0, 1) := by decide +kernel
theorem dM_moveAll_79 : decode cM_moveAll 79 = .ok (.iload_n 1, 1) := by decide +kernel
theorem dM_moveAll_80 : decode cM_moveAll 80 = .ok (.iconst 0, 1) := by decide +kernel
theorem dM_moveAll_81 : decode cM_moveAll 81 = .ok (.iconst 5, 1) := by decide +kernel
theorem dM_moveAll_82 : decode cM_moveAll 82 = .ok (.invokevirtual 146, 3) := by decide +kernel
theorem dM_moveAll_85 : decode cM_moveAll 85 = .ok (.aload_n 0, 1) := by decide +kernel
theorem dM_moveAll_86 : decode cM_moveAll 86 = .ok (.iload_n 1, 1) := by decide +kernel
theorem dM_moveAll_87 : decode cM_moveAll 87 = .ok (.iconst 1, 1) := by decide +kernel
theorem dM_moveAll_88 : decode cM_moveAll 88 = .ok (.bipush 6, 2) := by decide +kernel
theorem dM_moveAll_90 : decode cM_moveAll 90 = .ok (.invokevirtual 146, 3) := by decide +kernel
theorem dM_moveAll_93 : decode cM_moveAll 93 = .ok (.aload_n 0, 1) := by decide +kernel
theorem dM_moveAll_94 : decode cM_moveAll 94 = .ok (.iload_n 1, 1) := by decide +kernel
theorem dM_moveAll_95 : decode cM_moveAll 95 = .ok (.invokevirtual 137, 3) := by decide +kernel
theorem dM_moveAll_98 : decode cM_moveAll 98 = .ok (.bipush 32, 2) := by decide +kernel
theorem dM_moveAll_100 : decode cM_moveAll 100 = .ok (.if_icmp .le 57, 3) := by decide +kernel
theorem dM_moveAll_103 : decode cM_moveAll 103 = .ok (.aload_n 0, 1) := by decide +kernel
theorem dM_moveAll_104 : decode cM_moveAll 104 = .ok (.dup, 1) := by decide +kernel
theorem dM_moveAll_105 : decode cM_moveAll 105 = .ok (.getfield 83, 3) := by decide +kernel
theorem dM_moveAll_108 : decode cM_moveAll 108 = .ok (.iconst 1, 1) := by decide +kernel
theorem dM_moveAll_109 : decode cM_moveAll 109 = .ok (.isub, 1) := by decide +kernel
theorem dM_moveAll_110 : decode cM_moveAll 110 = .ok (.putfield 83, 3) := by decide +kernel
theorem dM_moveAll_113 : decode cM_moveAll 113 = .ok (.iconst 0, 1) := by decide +kernel
theorem dM_moveAll_114 : decode cM_moveAll 114 = .ok (.istore_n 2, 1) := by decide +kernel
theorem dM_moveAll_115 : decode cM_moveAll 115 = .ok (.iload_n 2, 1) := by decide +kernel
theorem dM_moveAll_116 : decode cM_moveAll 116 = .ok (.aload_n 0, 1) := by decide +kernel
theorem dM_moveAll_117 : decode cM_moveAll 117 = .ok (.getfield 83, 3) := by decide +kernel
theorem dM_moveAll_120 : decode cM_moveAll 120 = .ok (.if_icmp .ge 23, 3) := by decide +kernel
theorem dM_moveAll_123 : decode cM_moveAll 123 = .ok (.aload_n 0, 1) := by decide +kernel
theorem dM_moveAll_124 : decode cM_moveAll 124 = .ok (.getfield 53, 3) := by decide +kernel
theorem dM_moveAll_127 : decode cM_moveAll 127 = .ok (.iload_n 2, 1) := by decide +kernel
theorem dM_moveAll_128 : decode cM_moveAll 128 = .ok (.aload_n 0, 1) := by decide +kernel
theorem dM_moveAll_129 : decode cM_moveAll 129 = .ok (.getfield 53, 3) := by decide +kernel
theorem dM_moveAll_132 : decode cM_moveAll 132 = .ok (.iload_n 2, 1) := by decide +kernel
theorem dM_moveAll_133 : decode cM_moveAll 133 = .ok (.iconst 1, 1) := by decide +kernel
theorem dM_moveAll_134 : decode cM_moveAll 134 = .ok (.iadd, 1) := by decide +kernel
theorem dM_moveAll_135 : decode cM_moveAll 135 = .ok (.iaload, 1) := by decide +kernel
theorem dM_moveAll_136 : decode cM_moveAll 136 = .ok (.iastore, 1) := by decide +kernel
theorem dM_moveAll_137 : decode cM_moveAll 137 = .ok (.iinc 2 1, 3) := by decide +kernel
theorem dM_moveAll_140 : decode cM_moveAll 140 = .ok (.goto (-25), 3) := by decide +kernel
theorem dM_moveAll_143 : decode cM_moveAll 143 = .ok (.aload_n 0, 1) := by decide +kernel
theorem dM_moveAll_144 : decode cM_moveAll 144 = .ok (.getfield 62, 3) := by decide +kernel
theorem dM_moveAll_147 : decode cM_moveAll 147 = .ok (.bipush 7, 2) := by decide +kernel
theorem dM_moveAll_149 : decode cM_moveAll 149 = .ok (.dup2, 1) := by decide +kernel
theorem dM_moveAll_150 : decode cM_moveAll 150 = .ok (.iaload, 1) := by decide +kernel
theorem dM_moveAll_151 : decode cM_moveAll 151 = .ok (.iconst 1, 1) := by decide +kernel
theorem dM_moveAll_152 : decode cM_moveAll 152 = .ok (.iadd, 1) := by decide +kernel
theorem dM_moveAll_153 : decode cM_moveAll 153 = .ok (.iastore, 1) := by decide +kernel
theorem dM_moveAll_154 : decode cM_moveAll 154 = .ok (.goto (-61), 3) := by decide +kernel
theorem dM_moveAll_157 : decode cM_moveAll 157 = .ok (.iconst 0, 1) := by decide +kernel
theorem dM_moveAll_158 : decode cM_moveAll 158 = .ok (.istore_n 2, 1) := by decide +kernel
theorem dM_moveAll_159 : decode cM_moveAll 159 = .ok (.iload_n 2, 1) := by decide +kernel
theorem dM_moveAll_160 : decode cM_moveAll 160 = .ok (.aload_n 0, 1) := by decide +kernel
theorem dM_moveAll_161 : decode cM_moveAll 161 = .ok (.getfield 44, 3) := by decide +kernel
theorem dM_moveAll_164 : decode cM_moveAll 164 = .ok (.iload_n 1, 1) := by decide +kernel
theorem dM_moveAll_165 : decode cM_moveAll 165 = .ok (.iaload, 1) := by decide +kernel
theorem dM_moveAll_166 : decode cM_moveAll 166 = .ok (.if_icmp .ge 26, 3) := by decide +kernel
theorem dM_moveAll_169 : decode cM_moveAll 169 = .ok (.aload_n 0, 1) := by decide +kernel
theorem dM_moveAll_170 : decode cM_moveAll 170 = .ok (.getfield 41, 3) := by decide +kernel
theorem dM_moveAll_173 : decode cM_moveAll 173 = .ok (.aload_n 0, 1) := by decide +kernel
theorem dM_moveAll_174 : decode cM_moveAll 174 = .ok (.getfield 47, 3) := by decide +kernel
theorem dM_moveAll_177 : decode cM_moveAll 177 = .ok (.bipush 8, 2) := by decide +kernel
theorem dM_moveAll_179 : decode cM_moveAll 179 = .ok (.iload_n 1, 1) := by decide +kernel
theorem dM_moveAll_180 : decode cM_moveAll 180 = .ok (.imul, 1) := by decide +kernel
theorem dM_moveAll_181 : decode cM_moveAll 181 = .ok (.iload_n 2, 1) := by decide +kernel
theorem dM_moveAll_182 : decode cM_moveAll 182 = .ok (.iadd, 1) := by decide +kernel
theorem dM_moveAll_183 : decode cM_moveAll 183 = .ok (.iaload, 1) := by decide +kernel
theorem dM_moveAll_184 : decode cM_moveAll 184 = .ok (.iconst 0, 1) := by decide +kernel
theorem dM_moveAll_185 : decode cM_moveAll 185 = .ok (.bastore, 1) := by decide +kernel
theorem dM_moveAll_186 : decode cM_moveAll 186 = .ok (.iinc 2 1, 3) := by decide +kernel
theorem dM_moveAll_189 : decode cM_moveAll 189 = .ok (.goto (-30), 3) := by decide +kernel
theorem dM_moveAll_192 : decode cM_moveAll 192 = .ok (.iconst 0, 1) := by decide +kernel
theorem dM_moveAll_193 : decode cM_moveAll 193 = .ok (.istore_n 2, 1) := by decide +kernel
theorem dM_moveAll_194 : decode cM_moveAll 194 = .ok (.iload_n 2, 1) := by decide +kernel
theorem dM_moveAll_195 : decode cM_moveAll 195 = .ok (.aload_n 0, 1) := by decide +kernel
theorem dM_moveAll_196 : decode cM_moveAll 196 = .ok (.getfield 83, 3) := by decide +kernel
theorem dM_moveAll_199 : decode cM_moveAll 199 = .ok (.if_icmp .ge 26, 3) := by decide +kernel
theorem dM_moveAll_202 : decode cM_moveAll 202 = .ok (.aload_n 0, 1) := by decide +kernel
theorem dM_moveAll_203 : decode cM_moveAll 203 = .ok (.aload_n 0, 1) := by decide +kernel
theorem dM_moveAll_204 : decode cM_moveAll 204 = .ok (.getfield 53, 3) := by decide +kernel
theorem dM_moveAll_207 : decode cM_moveAll 207 = .ok (.iload_n 2, 1) := by decide +kernel
theorem dM_moveAll_208 : decode cM_moveAll 208 = .ok (.iaload, 1) := by decide +kernel
theorem dM_moveAll_209 : decode cM_moveAll 209 = .ok (.invokevirtual 150, 3) := by decide +kernel
theorem dM_moveAll_212 : decode cM_moveAll 212 = .ok (.istore_n 3, 1) := by decide +kernel
theorem dM_moveAll_213 : decode cM_moveAll 213 = .ok (.aload_n 0, 1) := by decide +kernel
theorem dM_moveAll_214 : decode cM_moveAll 214 = .ok (.iload_n 1, 1) := by decide +kernel
theorem dM_moveAll_215 : decode cM_moveAll 215 = .ok (.iload_n 3, 1) := by decide +kernel
theorem dM_moveAll_216 : decode cM_moveAll 216 = .ok (.invokevirtual 99, 3) := by decide +kernel
theorem dM_moveAll_219 : decode cM_moveAll 219 = .ok (.iinc 2 1, 3) := by decide +kernel
theorem dM_moveAll_222 : decode cM_moveAll 222 = .ok (.goto (-28), 3) := by decide +kernel
theorem dM_moveAll_225 : decode cM_moveAll 225 = .ok (.aload_n 0, 1) := by decide +kernel
theorem dM_moveAll_226 : decode cM_moveAll 226 = .ok (.getfield 62, 3) := by decide +kernel
theorem dM_moveAll_229 : decode cM_moveAll 229 = .ok (.iconst 1, 1) := by decide +kernel
theorem dM_moveAll_230 : decode cM_moveAll 230 = .ok (.dup2, 1) := by decide +kernel
theorem dM_moveAll_231 : decode cM_moveAll 231 = .ok (.iaload, 1) := by decide +kernel
theorem dM_moveAll_232 : decode cM_moveAll 232 = .ok (.iconst 1, 1) := by decide +kernel
theorem dM_moveAll_233 : decode cM_moveAll 233 = .ok (.iadd, 1) := by decide +kernel
theorem dM_moveAll_234 : decode cM_moveAll 234 = .ok (.iastore, 1) := by decide +kernel
theorem dM_moveAll_235 : decode cM_moveAll 235 = .ok (.return_, 1) := by decide +kernel
theorem dM_inSet_0 : decode cM_inSet 0 = .ok (.lload_n 1, 1) := by decide +kernel
theorem dM_inSet_1 : decode cM_inSet 1 = .ok (.invokestatic 89, 3) := by decide +kernel
theorem dM_inSet_4 : decode cM_inSet 4 = .ok (.istore_n 3, 1) := by decide +kernel
theorem dM_inSet_5 : decode cM_inSet 5 = .ok (.iconst (-1), 1) := by decide +kernel
theorem dM_inSet_6 : decode cM_inSet 6 = .ok (.istore 4, 2) := by decide +kernel
theorem dM_inSet_8 : decode cM_inSet 8 = .ok (.iconst 0, 1) := by decide +kernel
theorem dM_inSet_9 : decode cM_inSet 9 = .ok (.istore 5, 2) := by decide +kernel
theorem dM_inSet_11 : decode cM_inSet 11 = .ok (.iload 5, 2) := by decide +kernel
theorem dM_inSet_13 : decode cM_inSet 13 = .ok (.aload_n 0, 1) := by decide +kernel
theorem dM_inSet_14 : decode cM_inSet 14 = .ok (.getfield 44, 3) := by decide +kernel
theorem dM_inSet_17 : decode cM_inSet 17 = .ok (.iload_n 3, 1) := by decide +kernel
theorem dM_inSet_18 : decode cM_inSet 18 = .ok (.iaload, 1) := by decide +kernel
theorem dM_inSet_19 : decode cM_inSet 19 = .ok (.if_icmp .ge 40, 3) := by decide +kernel
theorem dM_inSet_22 : decode cM_inSet 22 = .ok (.aload_n 0, 1) := by decide +kernel
theorem dM_inSet_23 : decode cM_inSet 23 = .ok (.getfield 20, 3) := by decide +kernel
theorem dM_inSet_26 : decode cM_inSet 26 = .ok (.aload_n 0, 1) := by decide +kernel
theorem dM_inSet_27 : decode cM_inSet 27 = .ok (.getfield 47, 3) := by decide +kernel
theorem dM_inSet_30 : decode cM_inSet 30 = .ok (.bipush 8, 2) := by decide +kernel
theorem dM_inSet_32 : decode cM_inSet 32 = .ok (.iload_n 3, 1) := by decide +kernel
theorem dM_inSet_33 : decode cM_inSet 33 = .ok (.imul, 1) := by decide +kernel
theorem dM_inSet_34 : decode cM_inSet 34 = .ok (.iload 5, 2) := by decide +kernel
theorem dM_inSet_36 : decode cM_inSet 36 = .ok (.iadd, 1) := by decide +kernel
theorem dM_inSet_37 : decode cM_inSet 37 = .ok (.iaload, 1) := by decide +kernel
theorem dM_inSet_38 : decode cM_inSet 38 = .ok (.laload, 1) := by decide +kernel
theorem dM_inSet_39 : decode cM_inSet 39 = .ok (.lload_n 1, 1) := by decide +kernel
theorem dM_inSet_40 : decode cM_inSet 40 = .ok (.lcmp, 1) := by decide +kernel
theorem dM_inSet_41 : decode cM_inSet 41 = .ok (.ifCond .ne 8, 3) := by decide +kernel
theorem dM_inSet_44 : decode cM_inSet 44 = .ok (.iload 5, 2) := by decide +kernel
theorem dM_inSet_46 : decode cM_inSet 46 = .ok (.goto 5, 3) := by decide +kernel
theorem dM_inSet_49 : decode cM_inSet 49 = .ok (.iload 4, 2) := by decide +kernel
theorem dM_inSet_51 : decode cM_inSet 51 = .ok (.istore 4, 2) := by decide +kernel
theorem dM_inSet_53 : decode cM_inSet 53 = .ok (.iinc 5 1, 3) := by decide +kernel
theorem dM_inSet_56 : decode cM_inSet 56 = .ok (.goto (-45), 3) := by decide +kernel
theorem dM_inSet_59 : decode cM_inSet 59 = .ok (.iload 4, 2) := by decide +kernel
theorem dM_inSet_61 : decode cM_inSet 61 = .ok (.ireturn, 1) := by decide +kernel
theorem dM_takeOut_0 : decode cM_takeOut 0 = .ok (.aload_n 0, 1) := by decide +kernel
theorem dM_takeOut_1 : decode cM_takeOut 1 = .ok (.getfield 44, 3) := by decide +kernel
theorem dM_takeOut_4 : decode cM_takeOut 4 = .ok (.iload_n 1, 1) := by decide +kernel
theorem dM_takeOut_5 : decode cM_takeOut 5 = .ok (.dup2, 1) := by decide +kernel
theorem dM_takeOut_6 : decode cM_takeOut 6 = .ok (.iaload, 1) := by decide +kernel
theorem dM_takeOut_7 : decode cM_takeOut 7 = .ok (.iconst 1, 1) := by decide +kernel
theorem dM_takeOut_8 : decode cM_takeOut 8 = .ok (.isub, 1) := by decide +kernel
theorem dM_takeOut_9 : decode cM_takeOut 9 = .ok (.iastore, 1) := by decide +kernel
theorem dM_takeOut_10 : decode cM_takeOut 10 = .ok (.iload_n 2, 1) := by decide +kernel
theorem dM_takeOut_11 : decode cM_takeOut 11 = .ok (.istore_n 3, 1) := by decide +kernel
theorem dM_takeOut_12 : decode cM_takeOut 12 = .ok (.iload_n 3, 1) := by decide +kernel
theorem dM_takeOut_13 : decode cM_takeOut 13 = .ok (.aload_n 0, 1) := by decide +kernel
theorem dM_takeOut_14 : decode cM_takeOut 14 = .ok (.getfield 44, 3) := by decide +kernel
theorem dM_takeOut_17 : decode cM_takeOut 17 = .ok (.iload_n 1, 1) := by decide +kernel
theorem dM_takeOut_18 : decode cM_takeOut 18 = .ok (.iaload, 1) := by decide +kernel
theorem dM_takeOut_19 : decode cM_takeOut 19 = .ok (.if_icmp .ge 33, 3) := by decide +kernel
theorem dM_takeOut_22 : decode cM_takeOut 22 = .ok (.aload_n 0, 1) := by decide +kernel
theorem dM_takeOut_23 : decode cM_takeOut 23 = .ok (.getfield 47, 3) := by decide +kernel
theorem dM_takeOut_26 : decode cM_takeOut 26 = .ok (.bipush 8, 2) := by decide +kernel
theorem dM_takeOut_28 : decode cM_takeOut 28 = .ok (.iload_n 1, 1) := by decide +kernel
theorem dM_takeOut_29 : decode cM_takeOut 29 = .ok (.imul, 1) := by decide +kernel
theorem dM_takeOut_30 : decode cM_takeOut 30 = .ok (.iload_n 3, 1) := by decide +kernel
theorem dM_takeOut_31 : decode cM_takeOut 31 = .ok (.iadd, 1) := by decide +kernel
theorem dM_takeOut_32 : decode cM_takeOut 32 = .ok (.aload_n 0, 1) := by decide +kernel
theorem dM_takeOut_33 : decode cM_takeOut 33 = .ok (.getfield 47, 3) := by decide +kernel
theorem dM_takeOut_36 : decode cM_takeOut 36 = .ok (.bipush 8, 2) := by decide +kernel
theorem dM_takeOut_38 : decode cM_takeOut 38 = .ok (.iload_n 1, 1) := by decide +kernel
theorem dM_takeOut_39 : decode cM_takeOut 39 = .ok (.imul, 1) := by decide +kernel
theorem dM_takeOut_40 : decode cM_takeOut 40 = .ok (.iload_n 3, 1) := by decide +kernel
theorem dM_takeOut_41 : decode cM_takeOut 41 = .ok (.iadd, 1) := by decide +kernel
theorem dM_takeOut_42 : decode cM_takeOut 42 = .ok (.iconst 1, 1) := by decide +kernel
theorem dM_takeOut_43 : decode cM_takeOut 43 = .ok (.iadd, 1) := by decide +kernel
theorem dM_takeOut_44 : decode cM_takeOut 44 = .ok (.iaload, 1) := by decide +kernel
theorem dM_takeOut_45 : decode cM_takeOut 45 = .ok (.iastore, 1) := by decide +kernel
theorem dM_takeOut_46 : decode cM_takeOut 46 = .ok (.iinc 3 1, 3) := by decide +kernel
theorem dM_takeOut_49 : decode cM_takeOut 49 = .ok (.goto (-37), 3) := by decide +kernel
theorem dM_takeOut_52 : decode cM_takeOut 52 = .ok (.return_, 1) := by decide +kernel
theorem dM_dropFirst_0 : decode cM_dropFirst 0 = .ok (.iconst 0, 1) := by decide +kernel
theorem dM_dropFirst_1 : decode cM_dropFirst 1 = .ok (.istore 4, 2) := by decide +kernel
theorem dM_dropFirst_3 : decode cM_dropFirst 3 = .ok (.aload_n 0, 1) := by decide +kernel
theorem dM_dropFirst_4 : decode cM_dropFirst 4 = .ok (.iload_n 1, 1) := by decide +kernel
theorem dM_dropFirst_5 : decode cM_dropFirst 5 = .ok (.invokevirtual 137, 3) := by decide +kernel
theorem dM_dropFirst_8 : decode cM_dropFirst 8 = .ok (.bipush 32, 2) := by decide +kernel
theorem dM_dropFirst_10 : decode cM_dropFirst 10 = .ok (.if_icmp .le 61, 3) := by decide +kernel
theorem dM_dropFirst_13 : decode cM_dropFirst 13 = .ok (.iload 4, 2) := by decide +kernel
theorem dM_dropFirst_15 : decode cM_dropFirst 15 = .ok (.aload_n 0, 1) := by decide +kernel
theorem dM_dropFirst_16 : decode cM_dropFirst 16 = .ok (.getfield 44, 3) := by decide +kernel
theorem dM_dropFirst_19 : decode cM_dropFirst 19 = .ok (.iload_n 1, 1) := by decide +kernel
theorem dM_dropFirst_20 : decode cM_dropFirst 20 = .ok (.iaload, 1) := by decide +kernel
theorem dM_dropFirst_21 : decode cM_dropFirst 21 = .ok (.if_icmp .ge 50, 3) := by decide +kernel
theorem dM_dropFirst_24 : decode cM_dropFirst 24 = .ok (.aload_n 0, 1) := by decide +kernel
theorem dM_dropFirst_25 : decode cM_dropFirst 25 = .ok (.getfield 41, 3) := by decide +kernel
theorem dM_dropFirst_28 : decode cM_dropFirst 28 = .ok (.aload_n 0, 1) := by decide +kernel
theorem dM_dropFirst_29 : decode cM_dropFirst 29 = .ok (.getfield 47, 3) := by decide +kernel
theorem dM_dropFirst_32 : decode cM_dropFirst 32 = .ok (.bipush 8, 2) := by decide +kernel
theorem dM_dropFirst_34 : decode cM_dropFirst 34 = .ok (.iload_n 1, 1) := by decide +kernel
theorem dM_dropFirst_35 : decode cM_dropFirst 35 = .ok (.imul, 1) := by decide +kernel
theorem dM_dropFirst_36 : decode cM_dropFirst 36 = .ok (.iload 4, 2) := by decide +kernel
theorem dM_dropFirst_38 : decode cM_dropFirst 38 = .ok (.iadd, 1) := by decide +kernel
theorem dM_dropFirst_39 : decode cM_dropFirst 39 = .ok (.iaload, 1) := by decide +kernel
theorem dM_dropFirst_40 : decode cM_dropFirst 40 = .ok (.baload, 1) := by decide +kernel
theorem dM_dropFirst_41 : decode cM_dropFirst 41 = .ok (.iload_n 2, 1) := by decide +kernel
theorem dM_dropFirst_42 : decode cM_dropFirst 42 = .ok (.if_icmp .ne 23, 3) := by decide +kernel
theorem dM_dropFirst_45 : decode cM_dropFirst 45 = .ok (.aload_n 0, 1) := by decide +kernel
theorem dM_dropFirst_46 : decode cM_dropFirst 46 = .ok (.iload_n 1, 1) := by decide +kernel
theorem dM_dropFirst_47 : decode cM_dropFirst 47 = .ok (.iload 4, 2) := by decide +kernel
theorem dM_dropFirst_49 : decode cM_dropFirst 49 = .ok (.invokevirtual 140, 3) := by decide +kernel
theorem dM_dropFirst_52 : decode cM_dropFirst 52 = .ok (.aload_n 0, 1) := by decide +kernel
theorem dM_dropFirst_53 : decode cM_dropFirst 53 = .ok (.getfield 62, 3) := by decide +kernel
theorem dM_dropFirst_56 : decode cM_dropFirst 56 = .ok (.iload_n 3, 1) := by decide +kernel
theorem dM_dropFirst_57 : decode cM_dropFirst 57 = .ok (.dup2, 1) := by decide +kernel
theorem dM_dropFirst_58 : decode cM_dropFirst 58 = .ok (.iaload, 1) := by decide +kernel
theorem dM_dropFirst_59 : decode cM_dropFirst 59 = .ok (.iconst 1, 1) := by decide +kernel
theorem dM_dropFirst_60 : decode cM_dropFirst 60 = .ok (.iadd, 1) := by decide +kernel
theorem dM_dropFirst_61 : decode cM_dropFirst 61 = .ok (.iastore, 1) := by decide +kernel
theorem dM_dropFirst_62 : decode cM_dropFirst 62 = .ok (.goto (-59), 3) := by decide +kernel
theorem dM_dropFirst_65 : decode cM_dropFirst 65 = .ok (.iinc 4 1, 3) := by decide +kernel
theorem dM_dropFirst_68 : decode cM_dropFirst 68 = .ok (.goto (-65), 3) := by decide +kernel
theorem dM_dropFirst_71 : decode cM_dropFirst 71 = .ok (.return_, 1) := by decide +kernel
theorem dM_needAll_0 : decode cM_needAll 0 = .ok (.aload_n 0, 1) := by decide +kernel
theorem dM_needAll_1 : decode cM_needAll 1 = .ok (.iload_n 1, 1) := by decide +kernel
theorem dM_needAll_2 : decode cM_needAll 2 = .ok (.invokevirtual 122, 3) := by decide +kernel
theorem dM_needAll_5 : decode cM_needAll 5 = .ok (.istore_n 2, 1) := by decide +kernel
theorem dM_needAll_6 : decode cM_needAll 6 = .ok (.iconst 0, 1) := by decide +kernel
theorem dM_needAll_7 : decode cM_needAll 7 = .ok (.istore_n 3, 1) := by decide +kernel
theorem dM_needAll_8 : decode cM_needAll 8 = .ok (.iload_n 3, 1) := by decide +kernel
theorem dM_needAll_9 : decode cM_needAll 9 = .ok (.aload_n 0, 1) := by decide +kernel
theorem dM_needAll_10 : decode cM_needAll 10 = .ok (.getfield 83, 3) := by decide +kernel
theorem dM_needAll_13 : decode cM_needAll 13 = .ok (.if_icmp .ge 22, 3) := by decide +kernel
theorem dM_needAll_16 : decode cM_needAll 16 = .ok (.iload_n 2, 1) := by decide +kernel
theorem dM_needAll_17 : decode cM_needAll 17 = .ok (.aload_n 0, 1) := by decide +kernel
theorem dM_needAll_18 : decode cM_needAll 18 = .ok (.aload_n 0, 1) := by decide +kernel
theorem dM_needAll_19 : decode cM_needAll 19 = .ok (.getfield 53, 3) := by decide +kernel
theorem dM_needAll_22 : decode cM_needAll 22 = .ok (.iload_n 3, 1) := by decide +kernel
theorem dM_needAll_23 : decode cM_needAll 23 = .ok (.iaload, 1) := by decide +kernel
theorem dM_needAll_24 : decode cM_needAll 24 = .ok (.invokevirtual 79, 3) := by decide +kernel
theorem dM_needAll_27 : decode cM_needAll 27 = .ok (.iadd, 1) := by decide +kernel
theorem dM_needAll_28 : decode cM_needAll 28 = .ok (.istore_n 2, 1) := by decide +kernel
theorem dM_needAll_29 : decode cM_needAll 29 = .ok (.iinc 3 1, 3) := by decide +kernel
theorem dM_needAll_32 : decode cM_needAll 32 = .ok (.goto (-24), 3) := by decide +kernel
theorem dM_needAll_35 : decode cM_needAll 35 = .ok (.iload_n 2, 1) := by decide +kernel
theorem dM_needAll_36 : decode cM_needAll 36 = .ok (.ireturn, 1) := by decide +kernel
theorem dM_copy_0 : decode cM_copy 0 = .ok (.aload_n 0, 1) := by decide +kernel
theorem dM_copy_1 : decode cM_copy 1 = .ok (.invokevirtual 153, 3) := by decide +kernel
theorem dM_copy_4 : decode cM_copy 4 = .ok (.istore_n 2, 1) := by decide +kernel
theorem dM_copy_5 : decode cM_copy 5 = .ok (.aload_n 0, 1) := by decide +kernel
theorem dM_copy_6 : decode cM_copy 6 = .ok (.getfield 20, 3) := by decide +kernel
theorem dM_copy_9 : decode cM_copy 9 = .ok (.iload_n 2, 1) := by decide +kernel
theorem dM_copy_10 : decode cM_copy 10 = .ok (.aload_n 0, 1) := by decide +kernel
theorem dM_copy_11 : decode cM_copy 11 = .ok (.getfield 20, 3) := by decide +kernel
theorem dM_copy_14 : decode cM_copy 14 = .ok (.iload_n 1, 1) := by decide +kernel
theorem dM_copy_15 : decode cM_copy 15 = .ok (.laload, 1) := by decide +kernel
theorem dM_copy_16 : decode cM_copy 16 = .ok (.lastore, 1) := by decide +kernel
theorem dM_copy_17 : decode cM_copy 17 = .ok (.aload_n 0, 1) := by decide +kernel
theorem dM_copy_18 : decode cM_copy 18 = .ok (.getfield 24, 3) := by decide +kernel
theorem dM_copy_21 : decode cM_copy 21 = .ok (.iload_n 2, 1) := by decide +kernel
theorem dM_copy_22 : decode cM_copy 22 = .ok (.aload_n 0, 1) := by decide +kernel
theorem dM_copy_23 : decode cM_copy 23 = .ok (.getfield 24, 3) := by decide +kernel
theorem dM_copy_26 : decode cM_copy 26 = .ok (.iload_n 1, 1) := by decide +kernel
theorem dM_copy_27 : decode cM_copy 27 = .ok (.iaload, 1) := by decide +kernel
theorem dM_copy_28 : decode cM_copy 28 = .ok (.iastore, 1) := by decide +kernel
theorem dM_copy_29 : decode cM_copy 29 = .ok (.iconst 0, 1) := by decide +kernel
theorem dM_copy_30 : decode cM_copy 30 = .ok (.istore_n 3, 1) := by decide +kernel
theorem dM_copy_31 : decode cM_copy 31 = .ok (.iload_n 3, 1) := by decide +kernel
theorem dM_copy_32 : decode cM_copy 32 = .ok (.bipush 8, 2) := by decide +kernel
theorem dM_copy_34 : decode cM_copy 34 = .ok (.if_icmp .ge 31, 3) := by decide +kernel
theorem dM_copy_37 : decode cM_copy 37 = .ok (.aload_n 0, 1) := by decide +kernel
theorem dM_copy_38 : decode cM_copy 38 = .ok (.getfield 28, 3) := by decide +kernel
theorem dM_copy_41 : decode cM_copy 41 = .ok (.bipush 8, 2) := by decide +kernel
theorem dM_copy_43 : decode cM_copy 43 = .ok (.iload_n 2, 1) := by decide +kernel
theorem dM_copy_44 : decode cM_copy 44 = .ok (.imul, 1) := by decide +kernel
theorem dM_copy_45 : decode cM_copy 45 = .ok (.iload_n 3, 1) := by decide +kernel
theorem dM_copy_46 : decode cM_copy 46 = .ok (.iadd, 1) := by decide +kernel
theorem dM_copy_47 : decode cM_copy 47 = .ok (.aload_n 0, 1) := by decide +kernel
theorem dM_copy_48 : decode cM_copy 48 = .ok (.getfield 28, 3) := by decide +kernel
theorem dM_copy_51 : decode cM_copy 51 = .ok (.bipush 8, 2) := by decide +kernel
theorem dM_copy_53 : decode cM_copy 53 = .ok (.iload_n 1, 1) := by decide +kernel
theorem dM_copy_54 : decode cM_copy 54 = .ok (.imul, 1) := by decide +kernel
theorem dM_copy_55 : decode cM_copy 55 = .ok (.iload_n 3, 1) := by decide +kernel
theorem dM_copy_56 : decode cM_copy 56 = .ok (.iadd, 1) := by decide +kernel
theorem dM_copy_57 : decode cM_copy 57 = .ok (.iaload, 1) := by decide +kernel
theorem dM_copy_58 : decode cM_copy 58 = .ok (.iastore, 1) := by decide +kernel
theorem dM_copy_59 : decode cM_copy 59 = .ok (.iinc 3 1, 3) := by decide +kernel
theorem dM_copy_62 : decode cM_copy 62 = .ok (.goto (-31), 3) := by decide +kernel
theorem dM_copy_65 : decode cM_copy 65 = .ok (.aload_n 0, 1) := by decide +kernel
theorem dM_copy_66 : decode cM_copy 66 = .ok (.getfield 31, 3) := by decide +kernel
theorem dM_copy_69 : decode cM_copy 69 = .ok (.iload_n 2, 1) := by decide +kernel
theorem dM_copy_70 : decode cM_copy 70 = .ok (.iconst 0, 1) := by decide +kernel
theorem dM_copy_71 : decode cM_copy 71 = .ok (.bastore, 1) := by decide +kernel
theorem dM_copy_72 : decode cM_copy 72 = .ok (.aload_n 0, 1) := by decide +kernel
theorem dM_copy_73 : decode cM_copy 73 = .ok (.getfield 35, 3) := by decide +kernel
theorem dM_copy_76 : decode cM_copy 76 = .ok (.iload_n 2, 1) := by decide +kernel
theorem dM_copy_77 : decode cM_copy 77 = .ok (.iconst 0, 1) := by decide +kernel
theorem dM_copy_78 : decode cM_copy 78 = .ok (.bastore, 1) := by decide +kernel
theorem dM_copy_79 : decode cM_copy 79 = .ok (.aload_n 0, 1) := by decide +kernel
theorem dM_copy_80 : decode cM_copy 80 = .ok (.getfield 41, 3) := by decide +kernel
theorem dM_copy_83 : decode cM_copy 83 = .ok (.iload_n 2, 1) := by decide +kernel
theorem dM_copy_84 : decode cM_copy 84 = .ok (.iconst 0, 1) := by decide +kernel
theorem dM_copy_85 : decode cM_copy 85 = .ok (.bastore, 1) := by decide +kernel
theorem dM_copy_86 : decode cM_copy 86 = .ok (.iload_n 2, 1) := by decide +kernel
theorem dM_copy_87 : decode cM_copy 87 = .ok (.ireturn, 1) := by decide +kernel
theorem dM_freeNumber_0 : decode cM_freeNumber 0 = .ok (.iconst 0, 1) := by decide +kernel
theorem dM_freeNumber_1 : decode cM_freeNumber 1 = .ok (.istore_n 1, 1) := by decide +kernel
theorem dM_freeNumber_2 : decode cM_freeNumber 2 = .ok (.iload_n 1, 1) := by decide +kernel
theorem dM_freeNumber_3 : decode cM_freeNumber 3 = .ok (.sipush 4096, 3) := by decide +kernel
theorem dM_freeNumber_6 : decode cM_freeNumber 6 = .ok (.if_icmp .ge 16, 3) := by decide +kernel
theorem dM_freeNumber_9 : decode cM_freeNumber 9 = .ok (.aload_n 0, 1) := by decide +kernel
theorem dM_freeNumber_10 : decode cM_freeNumber 10 = .ok (.getfield 50, 3) := by decide +kernel
theorem dM_freeNumber_13 : decode cM_freeNumber 13 = .ok (.iload_n 1, 1) := by decide +kernel
theorem dM_freeNumber_14 : decode cM_freeNumber 14 = .ok (.iconst 0, 1) := by decide +kernel
theorem dM_freeNumber_15 : decode cM_freeNumber 15 = .ok (.bastore, 1) := by decide +kernel
theorem dM_freeNumber_16 : decode cM_freeNumber 16 = .ok (.iinc 1 1, 3) := by decide +kernel
theorem dM_freeNumber_19 : decode cM_freeNumber 19 = .ok (.goto (-17), 3) := by decide +kernel
theorem dM_freeNumber_22 : decode cM_freeNumber 22 = .ok (.iconst 0, 1) := by decide +kernel
theorem dM_freeNumber_23 : decode cM_freeNumber 23 = .ok (.istore_n 1, 1) := by decide +kernel
theorem dM_freeNumber_24 : decode cM_freeNumber 24 = .ok (.iload_n 1, 1) := by decide +kernel
theorem dM_freeNumber_25 : decode cM_freeNumber 25 = .ok (.bipush 97, 2) := by decide +kernel
theorem dM_freeNumber_27 : decode cM_freeNumber 27 = .ok (.if_icmp .ge 44, 3) := by decide +kernel
theorem dM_freeNumber_30 : decode cM_freeNumber 30 = .ok (.iconst 0, 1) := by decide +kernel
theorem dM_freeNumber_31 : decode cM_freeNumber 31 = .ok (.istore_n 2, 1) := by decide +kernel
theorem dM_freeNumber_32 : decode cM_freeNumber 32 = .ok (.iload_n 2, 1) := by decide +kernel
theorem dM_freeNumber_33 : decode cM_freeNumber 33 = .ok (.aload_n 0, 1) := by decide +kernel
theorem dM_freeNumber_34 : decode cM_freeNumber 34 = .ok (.getfield 44, 3) := by decide +kernel
theorem dM_freeNumber_37 : decode cM_freeNumber 37 = .ok (.iload_n 1, 1) := by decide +kernel
theorem dM_freeNumber_38 : decode cM_freeNumber 38 = .ok (.iaload, 1) := by decide +kernel
theorem dM_freeNumber_39 : decode cM_freeNumber 39 = .ok (.if_icmp .ge 26, 3) := by decide +kernel
theorem dM_freeNumber_42 : decode cM_freeNumber 42 = .ok (.aload_n 0, 1) := by decide +kernel
theorem dM_freeNumber_43 : decode cM_freeNumber 43 = .ok (.getfield 50, 3) := by decide +kernel
theorem dM_freeNumber_46 : decode cM_freeNumber 46 = .ok (.aload_n 0, 1) := by decide +kernel
theorem dM_freeNumber_47 : decode cM_freeNumber 47 = .ok (.getfield 47, 3) := by decide +kernel
theorem dM_freeNumber_50 : decode cM_freeNumber 50 = .ok (.bipush 8, 2) := by decide +kernel
theorem dM_freeNumber_52 : decode cM_freeNumber 52 = .ok (.iload_n 1, 1) := by decide +kernel
theorem dM_freeNumber_53 : decode cM_freeNumber 53 = .ok (.imul, 1) := by decide +kernel
theorem dM_freeNumber_54 : decode cM_freeNumber 54 = .ok (.iload_n 2, 1) := by decide +kernel
theorem dM_freeNumber_55 : decode cM_freeNumber 55 = .ok (.iadd, 1) := by decide +kernel
theorem dM_freeNumber_56 : decode cM_freeNumber 56 = .ok (.iaload, 1) := by decide +kernel
theorem dM_freeNumber_57 : decode cM_freeNumber 57 = .ok (.iconst 1, 1) := by decide +kernel
theorem dM_freeNumber_58 : decode cM_freeNumber 58 = .ok (.bastore, 1) := by decide +kernel
theorem dM_freeNumber_59 : decode cM_freeNumber 59 = .ok (.iinc 2 1, 3) := by decide +kernel
theorem dM_freeNumber_62 : decode cM_freeNumber 62 = .ok (.goto (-30), 3) := by decide +kernel
theorem dM_freeNumber_65 : decode cM_freeNumber 65 = .ok (.iinc 1 1, 3) := by decide +kernel
theorem dM_freeNumber_68 : decode cM_freeNumber 68 = .ok (.goto (-44), 3) := by decide +kernel
theorem dM_freeNumber_71 : decode cM_freeNumber 71 = .ok (.iconst 0, 1) := by decide +kernel
theorem dM_freeNumber_72 : decode cM_freeNumber 72 = .ok (.istore_n 1, 1) := by decide +kernel
theorem dM_freeNumber_73 : decode cM_freeNumber 73 = .ok (.iload_n 1, 1) := by decide +kernel
theorem dM_freeNumber_74 : decode cM_freeNumber 74 = .ok (.aload_n 0, 1) := by decide +kernel
theorem dM_freeNumber_75 : decode cM_freeNumber 75 = .ok (.getfield 83, 3) := by decide +kernel
theorem dM_freeNumber_78 : decode cM_freeNumber 78 = .ok (.if_icmp .ge 21, 3) := by decide +kernel
theorem dM_freeNumber_81 : decode cM_freeNumber 81 = .ok (.aload_n 0, 1) := by decide +kernel
theorem dM_freeNumber_82 : decode cM_freeNumber 82 = .ok (.getfield 50, 3) := by decide +kernel
theorem dM_freeNumber_85 : decode cM_freeNumber 85 = .ok (.aload_n 0, 1) := by decide +kernel
theorem dM_freeNumber_86 : decode cM_freeNumber 86 = .ok (.getfield 53, 3) := by decide +kernel
theorem dM_freeNumber_89 : decode cM_freeNumber 89 = .ok (.iload_n 1, 1) := by decide +kernel
theorem dM_freeNumber_90 : decode cM_freeNumber 90 = .ok (.iaload, 1) := by decide +kernel
theorem dM_freeNumber_91 : decode cM_freeNumber 91 = .ok (.iconst 1, 1) := by decide +kernel
theorem dM_freeNumber_92 : decode cM_freeNumber 92 = .ok (.bastore, 1) := by decide +kernel
theorem dM_freeNumber_93 : decode cM_freeNumber 93 = .ok (.iinc 1 1, 3) := by decide +kernel
theorem dM_freeNumber_96 : decode cM_freeNumber 96 = .ok (.goto (-23), 3) := by decide +kernel
theorem dM_freeNumber_99 : decode cM_freeNumber 99 = .ok (.iconst 0, 1) := by decide +kernel
theorem dM_freeNumber_100 : decode cM_freeNumber 100 = .ok (.istore_n 1, 1) := by decide +kernel
theorem dM_freeNumber_101 : decode cM_freeNumber 101 = .ok (.iload_n 1, 1) := by decide +kernel
theorem dM_freeNumber_102 : decode cM_freeNumber 102 = .ok (.aload_n 0, 1) := by decide +kernel
theorem dM_freeNumber_103 : decode cM_freeNumber 103 = .ok (.getfield 86, 3) := by decide +kernel
theorem dM_freeNumber_106 : decode cM_freeNumber 106 = .ok (.if_icmp .ge 21, 3) := by decide +kernel
theorem dM_freeNumber_109 : decode cM_freeNumber 109 = .ok (.aload_n 0, 1) := by decide +kernel
theorem dM_freeNumber_110 : decode cM_freeNumber 110 = .ok (.getfield 50, 3) := by decide +kernel
theorem dM_freeNumber_113 : decode cM_freeNumber 113 = .ok (.aload_n 0, 1) := by decide +kernel
theorem dM_freeNumber_114 : decode cM_freeNumber 114 = .ok (.getfield 56, 3) := by decide +kernel
theorem dM_freeNumber_117 : decode cM_freeNumber 117 = .ok (.iload_n 1, 1) := by decide +kernel
theorem dM_freeNumber_118 : decode cM_freeNumber 118 = .ok (.iaload, 1) := by decide +kernel
theorem dM_freeNumber_119 : decode cM_freeNumber 119 = .ok (.iconst 1, 1) := by decide +kernel
theorem dM_freeNumber_120 : decode cM_freeNumber 120 = .ok (.bastore, 1) := by decide +kernel
theorem dM_freeNumber_121 : decode cM_freeNumber 121 = .ok (.iinc 1 1, 3) := by decide +kernel
theorem dM_freeNumber_124 : decode cM_freeNumber 124 = .ok (.goto (-23), 3) := by decide +kernel
theorem dM_freeNumber_127 : decode cM_freeNumber 127 = .ok (.iconst 0, 1) := by decide +kernel
theorem dM_freeNumber_128 : decode cM_freeNumber 128 = .ok (.istore_n 1, 1) := by decide +kernel
theorem dM_freeNumber_129 : decode cM_freeNumber 129 = .ok (.aload_n 0, 1) := by decide +kernel
theorem dM_freeNumber_130 : decode cM_freeNumber 130 = .ok (.getfield 50, 3) := by decide +kernel
theorem dM_freeNumber_133 : decode cM_freeNumber 133 = .ok (.iload_n 1, 1) := by decide +kernel
theorem dM_freeNumber_134 : decode cM_freeNumber 134 = .ok (.baload, 1) := by decide +kernel
theorem dM_freeNumber_135 : decode cM_freeNumber 135 = .ok (.ifCond .eq 9, 3) := by decide +kernel
theorem dM_freeNumber_138 : decode cM_freeNumber 138 = .ok (.iinc 1 1, 3) := by decide +kernel
theorem dM_freeNumber_141 : decode cM_freeNumber 141 = .ok (.goto (-12), 3) := by decide +kernel
theorem dM_freeNumber_144 : decode cM_freeNumber 144 = .ok (.iload_n 1, 1) := by decide +kernel
theorem dM_freeNumber_145 : decode cM_freeNumber 145 = .ok (.ireturn, 1) := by decide +kernel
theorem dM_append_0 : decode cM_append 0 = .ok (.aload_n 0, 1) := by decide +kernel
theorem dM_append_1 : decode cM_append 1 = .ok (.getfield 47, 3) := by decide +kernel
theorem dM_append_4 : decode cM_append 4 = .ok (.bipush 8, 2) := by decide +kernel
theorem dM_append_6 : decode cM_append 6 = .ok (.iload_n 1, 1) := by decide +kernel
theorem dM_append_7 : decode cM_append 7 = .ok (.imul, 1) := by decide +kernel
theorem dM_append_8 : decode cM_append 8 = .ok (.aload_n 0, 1) := by decide +kernel
theorem dM_append_9 : decode cM_append 9 = .ok (.getfield 44, 3) := by decide +kernel
theorem dM_append_12 : decode cM_append 12 = .ok (.iload_n 1, 1) := by decide +kernel
theorem dM_append_13 : decode cM_append 13 = .ok (.iaload, 1) := by decide +kernel
theorem dM_append_14 : decode cM_append 14 = .ok (.iadd, 1) := by decide +kernel
theorem dM_append_15 : decode cM_append 15 = .ok (.iload_n 2, 1) := by decide +kernel
theorem dM_append_16 : decode cM_append 16 = .ok (.iastore, 1) := by decide +kernel
theorem dM_append_17 : decode cM_append 17 = .ok (.aload_n 0, 1) := by decide +kernel
theorem dM_append_18 : decode cM_append 18 = .ok (.getfield 44, 3) := by decide +kernel
theorem dM_append_21 : decode cM_append 21 = .ok (.iload_n 1, 1) := by decide +kernel
theorem dM_append_22 : decode cM_append 22 = .ok (.dup2, 1) := by decide +kernel
theorem dM_append_23 : decode cM_append 23 = .ok (.iaload, 1) := by decide +kernel
theorem dM_append_24 : decode cM_append 24 = .ok (.iconst 1, 1) := by decide +kernel
theorem dM_append_25 : decode cM_append 25 = .ok (.iadd, 1) := by decide +kernel
theorem dM_append_26 : decode cM_append 26 = .ok (.iastore, 1) := by decide +kernel
theorem dM_append_27 : decode cM_append 27 = .ok (.return_, 1) := by decide +kernel
theorem dM_alone_0 : decode cM_alone 0 = .ok (.aload_n 0, 1) := by decide +kernel
theorem dM_alone_1 : decode cM_alone 1 = .ok (.getfield 31, 3) := by decide +kernel
theorem dM_alone_4 : decode cM_alone 4 = .ok (.iload_n 2, 1) := by decide +kernel
theorem dM_alone_5 : decode cM_alone 5 = .ok (.iconst 0, 1) := by decide +kernel
theorem dM_alone_6 : decode cM_alone 6 = .ok (.bastore, 1) := by decide +kernel
theorem dM_alone_7 : decode cM_alone 7 = .ok (.aload_n 0, 1) := by decide +kernel
theorem dM_alone_8 : decode cM_alone 8 = .ok (.getfield 35, 3) := by decide +kernel
theorem dM_alone_11 : decode cM_alone 11 = .ok (.iload_n 2, 1) := by decide +kernel
theorem dM_alone_12 : decode cM_alone 12 = .ok (.baload, 1) := by decide +kernel
theorem dM_alone_13 : decode cM_alone 13 = .ok (.ifCond .eq 42, 3) := by decide +kernel
theorem dM_alone_16 : decode cM_alone 16 = .ok (.aload_n 0, 1) := by decide +kernel
theorem dM_alone_17 : decode cM_alone 17 = .ok (.iload_n 2, 1) := by decide +kernel
theorem dM_alone_18 : decode cM_alone 18 = .ok (.invokevirtual 150, 3) := by decide +kernel
theorem dM_alone_21 : decode cM_alone 21 = .ok (.istore_n 3, 1) := by decide +kernel
theorem dM_alone_22 : decode cM_alone 22 = .ok (.aload_n 0, 1) := by decide +kernel
theorem dM_alone_23 : decode cM_alone 23 = .ok (.getfield 38, 3) := by decide +kernel
theorem dM_alone_26 : decode cM_alone 26 = .ok (.iload_n 3, 1) := by decide +kernel
theorem dM_alone_27 : decode cM_alone 27 = .ok (.aload_n 0, 1) := by decide +kernel
theorem dM_alone_28 : decode cM_alone 28 = .ok (.getfield 38, 3) := by decide +kernel
theorem dM_alone_31 : decode cM_alone 31 = .ok (.iload_n 2, 1) := by decide +kernel
theorem dM_alone_32 : decode cM_alone 32 = .ok (.iaload, 1) := by decide +kernel
theorem dM_alone_33 : decode cM_alone 33 = .ok (.iastore, 1) := by decide +kernel
theorem dM_alone_34 : decode cM_alone 34 = .ok (.aload_n 0, 1) := by decide +kernel
theorem dM_alone_35 : decode cM_alone 35 = .ok (.getfield 56, 3) := by decide +kernel
theorem dM_alone_38 : decode cM_alone 38 = .ok (.aload_n 0, 1) := by decide +kernel
theorem dM_alone_39 : decode cM_alone 39 = .ok (.getfield 86, 3) := by decide +kernel
theorem dM_alone_42 : decode cM_alone 42 = .ok (.iload_n 3, 1) := by decide +kernel
theorem dM_alone_43 : decode cM_alone 43 = .ok (.iastore, 1) := by decide +kernel
theorem dM_alone_44 : decode cM_alone 44 = .ok (.aload_n 0, 1) := by decide +kernel
theorem dM_alone_45 : decode cM_alone 45 = .ok (.dup, 1) := by decide +kernel
theorem dM_alone_46 : decode cM_alone 46 = .ok (.getfield 86, 3) := by decide +kernel
theorem dM_alone_49 : decode cM_alone 49 = .ok (.iconst 1, 1) := by decide +kernel
theorem dM_alone_50 : decode cM_alone 50 = .ok (.iadd, 1) := by decide +kernel
theorem dM_alone_51 : decode cM_alone 51 = .ok (.putfield 86, 3) := by decide +kernel
theorem dM_alone_54 : decode cM_alone 54 = .ok (.return_, 1) := by decide +kernel
theorem dM_alone_55 : decode cM_alone 55 = .ok (.aload_n 0, 1) := by decide +kernel
theorem dM_alone_56 : decode cM_alone 56 = .ok (.getfield 62, 3) := by decide +kernel
theorem dM_alone_59 : decode cM_alone 59 = .ok (.bipush 8, 2) := by decide +kernel
theorem dM_alone_61 : decode cM_alone 61 = .ok (.dup2, 1) := by decide +kernel
theorem dM_alone_62 : decode cM_alone 62 = .ok (.iaload, 1) := by decide +kernel
theorem dM_alone_63 : decode cM_alone 63 = .ok (.iconst 1, 1) := by decide +kernel
theorem dM_alone_64 : decode cM_alone 64 = .ok (.iadd, 1) := by decide +kernel
theorem dM_alone_65 : decode cM_alone 65 = .ok (.iastore, 1) := by decide +kernel
theorem dM_alone_66 : decode cM_alone 66 = .ok (.aload_n 0, 1) := by decide +kernel
theorem dM_alone_67 : decode cM_alone 67 = .ok (.aload_n 0, 1) := by decide +kernel
theorem dM_alone_68 : decode cM_alone 68 = .ok (.getfield 20, 3) := by decide +kernel
theorem dM_alone_71 : decode cM_alone 71 = .ok (.iload_n 2, 1) := by decide +kernel
theorem dM_alone_72 : decode cM_alone 72 = .ok (.laload, 1) := by decide +kernel
theorem dM_alone_73 : decode cM_alone 73 = .ok (.iconst 2, 1) := by decide +kernel
theorem dM_alone_74 : decode cM_alone 74 = .ok (.invokevirtual 157, 3) := by decide +kernel
theorem dM_alone_77 : decode cM_alone 77 = .ok (.pop, 1) := by decide +kernel
theorem dM_alone_78 : decode cM_alone 78 = .ok (.return_, 1) := by decide +kernel
theorem dM_removeOld_0 : decode cM_removeOld 0 = .ok (.aload_n 0, 1) := by decide +kernel
theorem dM_removeOld_1 : decode cM_removeOld 1 = .ok (.lload_n 1, 1) := by decide +kernel
theorem dM_removeOld_2 : decode cM_removeOld 2 = .ok (.invokevirtual 161, 3) := by decide +kernel
theorem dM_removeOld_5 : decode cM_removeOld 5 = .ok (.ifCond .ne 5, 3) := by decide +kernel
theorem dM_removeOld_8 : decode cM_removeOld 8 = .ok (.iconst 0, 1) := by decide +kernel
theorem dM_removeOld_9 : decode cM_removeOld 9 = .ok (.ireturn, 1) := by decide +kernel
theorem dM_removeOld_10 : decode cM_removeOld 10 = .ok (.aload_n 0, 1) := by decide +kernel
theorem dM_removeOld_11 : decode cM_removeOld 11 = .ok (.lload_n 1, 1) := by decide +kernel
theorem dM_removeOld_12 : decode cM_removeOld 12 = .ok (.invokevirtual 143, 3) := by decide +kernel
theorem dM_removeOld_15 : decode cM_removeOld 15 = .ok (.istore 4, 2) := by decide +kernel
theorem dM_removeOld_17 : decode cM_removeOld 17 = .ok (.iload 4, 2) := by decide +kernel
theorem dM_removeOld_19 : decode cM_removeOld 19 = .ok (.ifCond .ge 5, 3) := by decide +kernel
theorem dM_removeOld_22 : decode cM_removeOld 22 = .ok (.iconst 0, 1) := by decide +kernel
theorem dM_removeOld_23 : decode cM_removeOld 23 = .ok (.ireturn, 1) := by decide +kernel
theorem dM_removeOld_24 : decode cM_removeOld 24 = .ok (.aload_n 0, 1) := by decide +kernel
theorem dM_removeOld_25 : decode cM_removeOld 25 = .ok (.lload_n 1, 1) := by decide +kernel
theorem dM_removeOld_26 : decode cM_removeOld 26 = .ok (.invokestatic 89, 3) := by decide +kernel
theorem dM_removeOld_29 : decode cM_removeOld 29 = .ok (.iload 4, 2) := by decide +kernel
theorem dM_removeOld_31 : decode cM_removeOld 31 = .ok (.invokevirtual 140, 3) := by decide +kernel
theorem dM_removeOld_34 : decode cM_removeOld 34 = .ok (.aload_n 0, 1) := by decide +kernel
theorem dM_removeOld_35 : decode cM_removeOld 35 = .ok (.getfield 62, 3) := by decide +kernel
theorem dM_removeOld_38 : decode cM_removeOld 38 = .ok (.iload_n 3, 1) := by decide +kernel
theorem dM_removeOld_39 : decode cM_removeOld 39 = .ok (.dup2, 1) := by decide +kernel
theorem dM_removeOld_40 : decode cM_removeOld 40 = .ok (.iaload, 1) := by decide +kernel
theorem dM_removeOld_41 : decode cM_removeOld 41 = .ok (.iconst 1, 1) := by decide +kernel
theorem dM_removeOld_42 : decode cM_removeOld 42 = .ok (.iadd, 1) := by decide +kernel
theorem dM_removeOld_43 : decode cM_removeOld 43 = .ok (.iastore, 1) := by decide +kernel
theorem dM_removeOld_44 : decode cM_removeOld 44 = .ok (.iconst 1, 1) := by decide +kernel
theorem dM_removeOld_45 : decode cM_removeOld 45 = .ok (.ireturn, 1) := by decide +kernel
theorem dM_reads_0 : decode cM_reads 0 = .ok (.lload_n 1, 1) := by decide +kernel
theorem dM_reads_1 : decode cM_reads 1 = .ok (.invokestatic 89, 3) := by decide +kernel
theorem dM_reads_4 : decode cM_reads 4 = .ok (.istore_n 3, 1) := by decide +kernel
theorem dM_reads_5 : decode cM_reads 5 = .ok (.iconst 0, 1) := by decide +kernel
theorem dM_reads_6 : decode cM_reads 6 = .ok (.istore 4, 2) := by decide +kernel
theorem dM_reads_8 : decode cM_reads 8 = .ok (.iconst 0, 1) := by decide +kernel
theorem dM_reads_9 : decode cM_reads 9 = .ok (.istore 5, 2) := by decide +kernel
theorem dM_reads_11 : decode cM_reads 11 = .ok (.iload 5, 2) := by decide +kernel
theorem dM_reads_13 : decode cM_reads 13 = .ok (.aload_n 0, 1) := by decide +kernel
theorem dM_reads_14 : decode cM_reads 14 = .ok (.getfield 44, 3) := by decide +kernel
theorem dM_reads_17 : decode cM_reads 17 = .ok (.iload_n 3, 1) := by decide +kernel
theorem dM_reads_18 : decode cM_reads 18 = .ok (.iaload, 1) := by decide +kernel
theorem dM_reads_19 : decode cM_reads 19 = .ok (.if_icmp .ge 48, 3) := by decide +kernel
theorem dM_reads_22 : decode cM_reads 22 = .ok (.iload 4, 2) := by decide +kernel
theorem dM_reads_24 : decode cM_reads 24 = .ok (.ifCond .ne 30, 3) := by decide +kernel
theorem dM_reads_27 : decode cM_reads 27 = .ok (.aload_n 0, 1) := by decide +kernel
theorem dM_reads_28 : decode cM_reads 28 = .ok (.getfield 20, 3) := by decide +kernel
theorem dM_reads_31 : decode cM_reads 31 = .ok (.aload_n 0, 1) := by decide +kernel
theorem dM_reads_32 : decode cM_reads 32 = .ok (.getfield 47, 3) := by decide +kernel
theorem dM_reads_35 : decode cM_reads 35 = .ok (.bipush 8, 2) := by decide +kernel
theorem dM_reads_37 : decode cM_reads 37 = .ok (.iload_n 3, 1) := by decide +kernel
theorem dM_reads_38 : decode cM_reads 38 = .ok (.imul, 1) := by decide +kernel
theorem dM_reads_39 : decode cM_reads 39 = .ok (.iload 5, 2) := by decide +kernel
theorem dM_reads_41 : decode cM_reads 41 = .ok (.iadd, 1) := by decide +kernel
theorem dM_reads_42 : decode cM_reads 42 = .ok (.iaload, 1) := by decide +kernel
theorem dM_reads_43 : decode cM_reads 43 = .ok (.laload, 1) := by decide +kernel
theorem dM_reads_44 : decode cM_reads 44 = .ok (.invokestatic 93, 3) := by decide +kernel
theorem dM_reads_47 : decode cM_reads 47 = .ok (.lload_n 1, 1) := by decide +kernel
theorem dM_reads_48 : decode cM_reads 48 = .ok (.invokestatic 93, 3) := by decide +kernel
theorem dM_reads_51 : decode cM_reads 51 = .ok (.if_icmp .ne 7, 3) := by decide +kernel
theorem dM_reads_54 : decode cM_reads 54 = .ok (.iconst 1, 1) := by decide +kernel
theorem dM_reads_55 : decode cM_reads 55 = .ok (.goto 4, 3) := by decide +kernel
theorem dM_reads_58 : decode cM_reads 58 = .ok (.iconst 0, 1) := by decide +kernel
theorem dM_reads_59 : decode cM_reads 59 = .ok (.istore 4, 2) := by decide +kernel
theorem dM_reads_61 : decode cM_reads 61 = .ok (.iinc 5 1, 3) := by decide +kernel
theorem dM_reads_64 : decode cM_reads 64 = .ok (.goto (-53), 3) := by decide +kernel
theorem dM_reads_67 : decode cM_reads 67 = .ok (.iload 4, 2) := by decide +kernel
theorem dM_reads_69 : decode cM_reads 69 = .ok (.ifCond .eq 14, 3) := by decide +kernel
theorem dM_reads_72 : decode cM_reads 72 = .ok (.aload_n 0, 1) := by decide +kernel
theorem dM_reads_73 : decode cM_reads 73 = .ok (.getfield 62, 3) := by decide +kernel
theorem dM_reads_76 : decode cM_reads 76 = .ok (.bipush 9, 2) := by decide +kernel
theorem dM_reads_78 : decode cM_reads 78 = .ok (.dup2, 1) := by decide +kernel
theorem dM_reads_79 : decode cM_reads 79 = .ok (.iaload, 1) := by decide +kernel
theorem dM_reads_80 : decode cM_reads 80 = .ok (.iconst 1, 1) := by decide +kernel
theorem dM_reads_81 : decode cM_reads 81 = .ok (.iadd, 1) := by decide +kernel
theorem dM_reads_82 : decode cM_reads 82 = .ok (.iastore, 1) := by decide +kernel
theorem dM_reads_83 : decode cM_reads 83 = .ok (.iload 4, 2) := by decide +kernel
theorem dM_reads_85 : decode cM_reads 85 = .ok (.ireturn, 1) := by decide +kernel
theorem dM_bitOf_0 : decode cM_bitOf 0 = .ok (.lload_n 0, 1) := by decide +kernel
theorem dM_bitOf_1 : decode cM_bitOf 1 = .ok (.invokestatic 73, 3) := by decide +kernel
theorem dM_bitOf_4 : decode cM_bitOf 4 = .ok (.ldc2_w 77, 3) := by decide +kernel
theorem dM_bitOf_7 : decode cM_bitOf 7 = .ok (.land, 1) := by decide +kernel
theorem dM_bitOf_8 : decode cM_bitOf 8 = .ok (.l2i, 1) := by decide +kernel
theorem dM_bitOf_9 : decode cM_bitOf 9 = .ok (.ireturn, 1) := by decide +kernel
theorem dM_writeOpen_0 : decode cM_writeOpen 0 = .ok (.bipush 64, 2) := by decide +kernel
theorem dM_writeOpen_2 : decode cM_writeOpen 2 = .ok (.aload_n 0, 1) := by decide +kernel
theorem dM_writeOpen_3 : decode cM_writeOpen 3 = .ok (.getfield 96, 3) := by decide +kernel
theorem dM_writeOpen_6 : decode cM_writeOpen 6 = .ok (.bipush 32, 2) := by decide +kernel
theorem dM_writeOpen_8 : decode cM_writeOpen 8 = .ok (.irem, 1) := by decide +kernel
theorem dM_writeOpen_9 : decode cM_writeOpen 9 = .ok (.iadd, 1) := by decide +kernel
theorem dM_writeOpen_10 : decode cM_writeOpen 10 = .ok (.istore_n 1, 1) := by decide +kernel
theorem dM_writeOpen_11 : decode cM_writeOpen 11 = .ok (.aload_n 0, 1) := by decide +kernel
theorem dM_writeOpen_12 : decode cM_writeOpen 12 = .ok (.getfield 44, 3) := by decide +kernel
theorem dM_writeOpen_15 : decode cM_writeOpen 15 = .ok (.iload_n 1, 1) := by decide +kernel
theorem dM_writeOpen_16 : decode cM_writeOpen 16 = .ok (.iconst 0, 1) := by decide +kernel
theorem dM_writeOpen_17 : decode cM_writeOpen 17 = .ok (.iastore, 1) := by decide +kernel
theorem dM_writeOpen_18 : decode cM_writeOpen 18 = .ok (.iconst 0, 1) := by decide +kernel
theorem dM_writeOpen_19 : decode cM_writeOpen 19 = .ok (.istore_n 2, 1) := by decide +kernel
theorem dM_writeOpen_20 : decode cM_writeOpen 20 = .ok (.iload_n 2, 1) := by decide +kernel
theorem dM_writeOpen_21 : decode cM_writeOpen 21 = .ok (.aload_n 0, 1) := by decide +kernel
theorem dM_writeOpen_22 : decode cM_writeOpen 22 = .ok (.getfield 44, 3) := by decide +kernel
theorem dM_writeOpen_25 : decode cM_writeOpen 25 = .ok (.bipush 96, 2) := by decide +kernel
theorem dM_writeOpen_27 : decode cM_writeOpen 27 = .ok (.iaload, 1) := by decide +kernel
theorem dM_writeOpen_28 : decode cM_writeOpen 28 = .ok (.if_icmp .ge 24, 3) := by decide +kernel
theorem dM_writeOpen_31 : decode cM_writeOpen 31 = .ok (.aload_n 0, 1) := by decide +kernel
theorem dM_writeOpen_32 : decode cM_writeOpen 32 = .ok (.iload_n 1, 1) := by decide +kernel
theorem dM_writeOpen_33 : decode cM_writeOpen 33 = .ok (.aload_n 0, 1) := by decide +kernel
theorem dM_writeOpen_34 : decode cM_writeOpen 34 = .ok (.getfield 47, 3) := by decide +kernel
theorem dM_writeOpen_37 : decode cM_writeOpen 37 = .ok (.sipush 768, 3) := by decide +kernel
theorem dM_writeOpen_40 : decode cM_writeOpen 40 = .ok (.iload_n 2, 1) := by decide +kernel
theorem dM_writeOpen_41 : decode cM_writeOpen 41 = .ok (.iadd, 1) := by decide +kernel
theorem dM_writeOpen_42 : decode cM_writeOpen 42 = .ok (.iaload, 1) := by decide +kernel
theorem dM_writeOpen_43 : decode cM_writeOpen 43 = .ok (.invokevirtual 99, 3) := by decide +kernel
theorem dM_writeOpen_46 : decode cM_writeOpen 46 = .ok (.iinc 2 1, 3) := by decide +kernel
theorem dM_writeOpen_49 : decode cM_writeOpen 49 = .ok (.goto (-29), 3) := by decide +kernel
theorem dM_writeOpen_52 : decode cM_writeOpen 52 = .ok (.aload_n 0, 1) := by decide +kernel
theorem dM_writeOpen_53 : decode cM_writeOpen 53 = .ok (.getfield 44, 3) := by decide +kernel
theorem dM_writeOpen_56 : decode cM_writeOpen 56 = .ok (.bipush 96, 2) := by decide +kernel
theorem dM_writeOpen_58 : decode cM_writeOpen 58 = .ok (.iconst 0, 1) := by decide +kernel
theorem dM_writeOpen_59 : decode cM_writeOpen 59 = .ok (.iastore, 1) := by decide +kernel
theorem dM_writeOpen_60 : decode cM_writeOpen 60 = .ok (.aload_n 0, 1) := by decide +kernel
theorem dM_writeOpen_61 : decode cM_writeOpen 61 = .ok (.dup, 1) := by decide +kernel
theorem dM_writeOpen_62 : decode cM_writeOpen 62 = .ok (.getfield 96, 3) := by decide +kernel
theorem dM_writeOpen_65 : decode cM_writeOpen 65 = .ok (.iconst 1, 1) := by decide +kernel
theorem dM_writeOpen_66 : decode cM_writeOpen 66 = .ok (.iadd, 1) := by decide +kernel
theorem dM_writeOpen_67 : decode cM_writeOpen 67 = .ok (.putfield 96, 3) := by decide +kernel
theorem dM_writeOpen_70 : decode cM_writeOpen 70 = .ok (.aload_n 0, 1) := by decide +kernel
theorem dM_writeOpen_71 : decode cM_writeOpen 71 = .ok (.getfield 96, 3) := by decide +kernel
theorem dM_writeOpen_74 : decode cM_writeOpen 74 = .ok (.iconst 4, 1) := by decide +kernel
theorem dM_writeOpen_75 : decode cM_writeOpen 75 = .ok (.irem, 1) := by decide +kernel
theorem dM_writeOpen_76 : decode cM_writeOpen 76 = .ok (.ifCond .ne 13, 3) := by decide +kernel
theorem dM_writeOpen_79 : decode cM_writeOpen 79 = .ok (.aload_n 0, 1) := by decide +kernel
theorem dM_writeOpen_80 : decode cM_writeOpen 80 = .ok (.getfield 62, 3) := by decide +kernel
theorem dM_writeOpen_83 : decode cM_writeOpen 83 = .ok (.iconst 0, 1) := by decide +kernel
theorem dM_writeOpen_84 : decode cM_writeOpen 84 = .ok (.dup2, 1) := by decide +kernel
theorem dM_writeOpen_85 : decode cM_writeOpen 85 = .ok (.iaload, 1) := by decide +kernel
theorem dM_writeOpen_86 : decode cM_writeOpen 86 = .ok (.iconst 1, 1) := by decide +kernel
theorem dM_writeOpen_87 : decode cM_writeOpen 87 = .ok (.iadd, 1) := by decide +kernel
theorem dM_writeOpen_88 : decode cM_writeOpen 88 = .ok (.iastore, 1) := by decide +kernel
theorem dM_writeOpen_89 : decode cM_writeOpen 89 = .ok (.return_, 1) := by decide +kernel
theorem dM_sortAgain_0 : decode cM_sortAgain 0 = .ok (.iconst 1, 1) := by decide +kernel
theorem dM_sortAgain_1 : decode cM_sortAgain 1 = .ok (.istore_n 1, 1) := by decide +kernel
theorem dM_sortAgain_2 : decode cM_sortAgain 2 = .ok (.iload_n 1, 1) := by decide +kernel
theorem dM_sortAgain_3 : decode cM_sortAgain 3 = .ok (.aload_n 0, 1) := by decide +kernel
theorem dM_sortAgain_4 : decode cM_sortAgain 4 = .ok (.getfield 86, 3) := by decide +kernel
theorem dM_sortAgain_7 : decode cM_sortAgain 7 = .ok (.if_icmp .ge 78, 3) := by decide +kernel
theorem dM_sortAgain_10 : decode cM_sortAgain 10 = .ok (.iload_n 1, 1) := by decide +kernel
theorem dM_sortAgain_11 : decode cM_sortAgain 11 = .ok (.istore_n 2, 1) := by decide +kernel
theorem dM_sortAgain_12 : decode cM_sortAgain 12 = .ok (.iload_n 2, 1) := by decide +kernel
theorem dM_sortAgain_13 : decode cM_sortAgain 13 = .ok (.ifCond .le 66, 3) := by decide +kernel
theorem dM_sortAgain_16 : decode cM_sortAgain 16 = .ok (.aload_n 0, 1) := by decide +kernel
theorem dM_sortAgain_17 : decode cM_sortAgain 17 = .ok (.getfield 38, 3) := by decide +kernel
theorem dM_sortAgain_20 : decode cM_sortAgain 20 = .ok (.aload_n 0, 1) := by decide +kernel
theorem dM_sortAgain_21 : decode cM_sortAgain 21 = .ok (.getfield 56, 3) := by decide +kernel
theorem dM_sortAgain_24 : decode cM_sortAgain 24 = .ok (.iload_n 2, 1) := by decide +kernel
theorem dM_sortAgain_25 : decode cM_sortAgain 25 = .ok (.iaload, 1) := by decide +kernel
theorem dM_sortAgain_26 : decode cM_sortAgain 26 = .ok (.iaload, 1) := by decide +kernel
theorem dM_sortAgain_27 : decode cM_sortAgain 27 = .ok (.aload_n 0, 1) := by decide +kernel
theorem dM_sortAgain_28 : decode cM_sortAgain 28 = .ok (.getfield 38, 3) := by decide +kernel
theorem dM_sortAgain_31 : decode cM_sortAgain 31 = .ok (.aload_n 0, 1) := by decide +kernel
theorem dM_sortAgain_32 : decode cM_sortAgain 32 = .ok (.getfield 56, 3) := by decide +kernel
theorem dM_sortAgain_35 : decode cM_sortAgain 35 = .ok (.iload_n 2, 1) := by decide +kernel
theorem dM_sortAgain_36 : decode cM_sortAgain 36 = .ok (.iconst 1, 1) := by decide +kernel
theorem dM_sortAgain_37 : decode cM_sortAgain 37 = .ok (.isub, 1) := by decide +kernel
theorem dM_sortAgain_38 : decode cM_sortAgain 38 = .ok (.iaload, 1) := by decide +kernel
theorem dM_sortAgain_39 : decode cM_sortAgain 39 = .ok (.iaload, 1) := by decide +kernel
theorem dM_sortAgain_40 : decode cM_sortAgain 40 = .ok (.if_icmp .ge 39, 3) := by decide +kernel
theorem dM_sortAgain_43 : decode cM_sortAgain 43 = .ok (.aload_n 0, 1) := by decide +kernel
theorem dM_sortAgain_44 : decode cM_sortAgain 44 = .ok (.getfield 56, 3) := by decide +kernel
theorem dM_sortAgain_47 : decode cM_sortAgain 47 = .ok (.iload_n 2, 1) := by decide +kernel
theorem dM_sortAgain_48 : decode cM_sortAgain 48 = .ok (.iaload, 1) := by decide +kernel
theorem dM_sortAgain_49 : decode cM_sortAgain 49 = .ok (.istore_n 3, 1) := by decide +kernel
theorem dM_sortAgain_50 : decode cM_sortAgain 50 = .ok (.aload_n 0, 1) := by decide +kernel
theorem dM_sortAgain_51 : decode cM_sortAgain 51 = .ok (.getfield 56, 3) := by decide +kernel
theorem dM_sortAgain_54 : decode cM_sortAgain 54 = .ok (.iload_n 2, 1) := by decide +kernel
theorem dM_sortAgain_55 : decode cM_sortAgain 55 = .ok (.aload_n 0, 1) := by decide +kernel
theorem dM_sortAgain_56 : decode cM_sortAgain 56 = .ok (.getfield 56, 3) := by decide +kernel
theorem dM_sortAgain_59 : decode cM_sortAgain 59 = .ok (.iload_n 2, 1) := by decide +kernel
theorem dM_sortAgain_60 : decode cM_sortAgain 60 = .ok (.iconst 1, 1) := by decide +kernel
theorem dM_sortAgain_61 : decode cM_sortAgain 61 = .ok (.isub, 1) := by decide +kernel
theorem dM_sortAgain_62 : decode cM_sortAgain 62 = .ok (.iaload, 1) := by decide +kernel
theorem dM_sortAgain_63 : decode cM_sortAgain 63 = .ok (.iastore, 1) := by decide +kernel
theorem dM_sortAgain_64 : decode cM_sortAgain 64 = .ok (.aload_n 0, 1) := by decide +kernel
theorem dM_sortAgain_65 : decode cM_sortAgain 65 = .ok (.getfield 56, 3) := by decide +kernel
theorem dM_sortAgain_68 : decode cM_sortAgain 68 = .ok (.iload_n 2, 1) := by decide +kernel
theorem dM_sortAgain_69 : decode cM_sortAgain 69 = .ok (.iconst 1, 1) := by decide +kernel
theorem dM_sortAgain_70 : decode cM_sortAgain 70 = .ok (.isub, 1) := by decide +kernel
theorem dM_sortAgain_71 : decode cM_sortAgain 71 = .ok (.iload_n 3, 1) := by decide +kernel
theorem dM_sortAgain_72 : decode cM_sortAgain 72 = .ok (.iastore, 1) := by decide +kernel
theorem dM_sortAgain_73 : decode cM_sortAgain 73 = .ok (.iinc 2 (-1), 3) := by decide +kernel
theorem dM_sortAgain_76 : decode cM_sortAgain 76 = .ok (.goto (-64), 3) := by decide +kernel
theorem dM_sortAgain_79 : decode cM_sortAgain 79 = .ok (.iinc 1 1, 3) := by decide +kernel
theorem dM_sortAgain_82 : decode cM_sortAgain 82 = .ok (.goto (-80), 3) := by decide +kernel
theorem dM_sortAgain_85 : decode cM_sortAgain 85 = .ok (.return_, 1) := by decide +kernel
theorem dM_putAnew_0 : decode cM_putAnew 0 = .ok (.aload_n 0, 1) := by decide +kernel
theorem dM_putAnew_1 : decode cM_putAnew 1 = .ok (.bipush 96, 2) := by decide +kernel
theorem dM_putAnew_3 : decode cM_putAnew 3 = .ok (.invokevirtual 122, 3) := by decide +kernel
theorem dM_putAnew_6 : decode cM_putAnew 6 = .ok (.aload_n 0, 1) := by decide +kernel
theorem dM_putAnew_7 : decode cM_putAnew 7 = .ok (.iload_n 1, 1) := by decide +kernel
theorem dM_putAnew_8 : decode cM_putAnew 8 = .ok (.invokevirtual 79, 3) := by decide +kernel
theorem dM_putAnew_11 : decode cM_putAnew 11 = .ok (.iadd, 1) := by decide +kernel
theorem dM_putAnew_12 : decode cM_putAnew 12 = .ok (.bipush 32, 2) := by decide +kernel
theorem dM_putAnew_14 : decode cM_putAnew 14 = .ok (.if_icmp .le 7, 3) := by decide +kernel
theorem dM_putAnew_17 : decode cM_putAnew 17 = .ok (.aload_n 0, 1) := by decide +kernel
theorem dM_putAnew_18 : decode cM_putAnew 18 = .ok (.invokevirtual 113, 3) := by decide +kernel
theorem dM_putAnew_21 : decode cM_putAnew 21 = .ok (.aload_n 0, 1) := by decide +kernel
theorem dM_putAnew_22 : decode cM_putAnew 22 = .ok (.iload_n 1, 1) := by decide +kernel
theorem dM_putAnew_23 : decode cM_putAnew 23 = .ok (.invokevirtual 125, 3) := by decide +kernel
theorem dM_putAnew_26 : decode cM_putAnew 26 = .ok (.aload_n 0, 1) := by decide +kernel
theorem dM_putAnew_27 : decode cM_putAnew 27 = .ok (.getfield 62, 3) := by decide +kernel
theorem dM_putAnew_30 : decode cM_putAnew 30 = .ok (.bipush 10, 2) := by decide +kernel
theorem dM_putAnew_32 : decode cM_putAnew 32 = .ok (.dup2, 1) := by decide +kernel
theorem dM_putAnew_33 : decode cM_putAnew 33 = .ok (.iaload, 1) := by decide +kernel
theorem dM_putAnew_34 : decode cM_putAnew 34 = .ok (.iconst 1, 1) := by decide +kernel
theorem dM_putAnew_35 : decode cM_putAnew 35 = .ok (.iadd, 1) := by decide +kernel
theorem dM_putAnew_36 : decode cM_putAnew 36 = .ok (.iastore, 1) := by decide +kernel
theorem dM_putAnew_37 : decode cM_putAnew 37 = .ok (.return_, 1) := by decide +kernel
theorem dM_enter_0 : decode cM_enter 0 = .ok (.aload_n 0, 1) := by decide +kernel
theorem dM_enter_1 : decode cM_enter 1 = .ok (.aload_n 0, 1) := by decide +kernel
theorem dM_enter_2 : decode cM_enter 2 = .ok (.getfield 20, 3) := by decide +kernel
theorem dM_enter_5 : decode cM_enter 5 = .ok (.iload_n 1, 1) := by decide +kernel
theorem dM_enter_6 : decode cM_enter 6 = .ok (.laload, 1) := by decide +kernel
theorem dM_enter_7 : decode cM_enter 7 = .ok (.invokevirtual 103, 3) := by decide +kernel
theorem dM_enter_10 : decode cM_enter 10 = .ok (.istore_n 2, 1) := by decide +kernel
theorem dM_enter_11 : decode cM_enter 11 = .ok (.iload_n 2, 1) := by decide +kernel
theorem dM_enter_12 : decode cM_enter 12 = .ok (.ifCond .lt 10, 3) := by decide +kernel
theorem dM_enter_15 : decode cM_enter 15 = .ok (.aload_n 0, 1) := by decide +kernel
theorem dM_enter_16 : decode cM_enter 16 = .ok (.getfield 31, 3) := by decide +kernel
theorem dM_enter_19 : decode cM_enter 19 = .ok (.iload_n 2, 1) := by decide +kernel
theorem dM_enter_20 : decode cM_enter 20 = .ok (.iconst 0, 1) := by decide +kernel
theorem dM_enter_21 : decode cM_enter 21 = .ok (.bastore, 1) := by decide +kernel
theorem dM_enter_22 : decode cM_enter 22 = .ok (.aload_n 0, 1) := by decide +kernel
theorem dM_enter_23 : decode cM_enter 23 = .ok (.bipush 96, 2) := by decide +kernel
theorem dM_enter_25 : decode cM_enter 25 = .ok (.iload_n 1, 1) := by decide +kernel
theorem dM_enter_26 : decode cM_enter 26 = .ok (.invokevirtual 99, 3) := by decide +kernel
theorem dM_enter_29 : decode cM_enter 29 = .ok (.aload_n 0, 1) := by decide +kernel
theorem dM_enter_30 : decode cM_enter 30 = .ok (.getfield 31, 3) := by decide +kernel
theorem dM_enter_33 : decode cM_enter 33 = .ok (.iload_n 1, 1) := by decide +kernel
theorem dM_enter_34 : decode cM_enter 34 = .ok (.iconst 1, 1) := by decide +kernel
theorem dM_enter_35 : decode cM_enter 35 = .ok (.bastore, 1) := by decide +kernel
theorem dM_enter_36 : decode cM_enter 36 = .ok (.aload_n 0, 1) := by decide +kernel
theorem dM_enter_37 : decode cM_enter 37 = .ok (.getfield 35, 3) := by decide +kernel
theorem dM_enter_40 : decode cM_enter 40 = .ok (.iload_n 1, 1) := by decide +kernel
theorem dM_enter_41 : decode cM_enter 41 = .ok (.iconst 0, 1) := by decide +kernel
theorem dM_enter_42 : decode cM_enter 42 = .ok (.bastore, 1) := by decide +kernel
theorem dM_enter_43 : decode cM_enter 43 = .ok (.aload_n 0, 1) := by decide +kernel
theorem dM_enter_44 : decode cM_enter 44 = .ok (.dup, 1) := by decide +kernel
theorem dM_enter_45 : decode cM_enter 45 = .ok (.getfield 106, 3) := by decide +kernel
theorem dM_enter_48 : decode cM_enter 48 = .ok (.iconst 1, 1) := by decide +kernel
theorem dM_enter_49 : decode cM_enter 49 = .ok (.iadd, 1) := by decide +kernel
theorem dM_enter_50 : decode cM_enter 50 = .ok (.putfield 106, 3) := by decide +kernel
theorem dM_enter_53 : decode cM_enter 53 = .ok (.aload_n 0, 1) := by decide +kernel
theorem dM_enter_54 : decode cM_enter 54 = .ok (.getfield 38, 3) := by decide +kernel
theorem dM_enter_57 : decode cM_enter 57 = .ok (.iload_n 1, 1) := by decide +kernel
theorem dM_enter_58 : decode cM_enter 58 = .ok (.aload_n 0, 1) := by decide +kernel
theorem dM_enter_59 : decode cM_enter 59 = .ok (.getfield 106, 3) := by decide +kernel
theorem dM_enter_62 : decode cM_enter 62 = .ok (.iastore, 1) := by decide +kernel
theorem dM_enter_63 : decode cM_enter 63 = .ok (.return_, 1) := by decide +kernel
theorem dM_newest_0 : decode cM_newest 0 = .ok (.iconst (-1), 1) := by decide +kernel
theorem dM_newest_1 : decode cM_newest 1 = .ok (.istore_n 3, 1) := by decide +kernel
theorem dM_newest_2 : decode cM_newest 2 = .ok (.bipush 64, 2) := by decide +kernel
theorem dM_newest_4 : decode cM_newest 4 = .ok (.istore 4, 2) := by decide +kernel
theorem dM_newest_6 : decode cM_newest 6 = .ok (.iload 4, 2) := by decide +kernel
theorem dM_newest_8 : decode cM_newest 8 = .ok (.bipush 97, 2) := by decide +kernel
theorem dM_newest_10 : decode cM_newest 10 = .ok (.if_icmp .ge 88, 3) := by decide +kernel
theorem dM_newest_13 : decode cM_newest 13 = .ok (.iconst 0, 1) := by decide +kernel
theorem dM_newest_14 : decode cM_newest 14 = .ok (.istore 5, 2) := by decide +kernel
theorem dM_newest_16 : decode cM_newest 16 = .ok (.iload 5, 2) := by decide +kernel
theorem dM_newest_18 : decode cM_newest 18 = .ok (.aload_n 0, 1) := by decide +kernel
theorem dM_newest_19 : decode cM_newest 19 = .ok (.getfield 44, 3) := by decide +kernel
theorem dM_newest_22 : decode cM_newest 22 = .ok (.iload 4, 2) := by decide +kernel
theorem dM_newest_24 : decode cM_newest 24 = .ok (.iaload, 1) := by decide +kernel
theorem dM_newest_25 : decode cM_newest 25 = .ok (.if_icmp .ge 67, 3) := by decide +kernel
theorem dM_newest_28 : decode cM_newest 28 = .ok (.aload_n 0, 1) := by decide +kernel
theorem dM_newest_29 : decode cM_newest 29 = .ok (.getfield 31, 3) := by decide +kernel
theorem dM_newest_32 : decode cM_newest 32 = .ok (.aload_n 0, 1) := by decide +kernel
theorem dM_newest_33 : decode cM_newest 33 = .ok (.getfield 47, 3) := by decide +kernel
theorem dM_newest_36 : decode cM_newest 36 = .ok (.bipush 8, 2) := by decide +kernel
theorem dM_newest_38 : decode cM_newest 38 = .ok (.iload 4, 2) := by decide +kernel
theorem dM_newest_40 : decode cM_newest 40 = .ok (.imul, 1) := by decide +kernel
theorem dM_newest_41 : decode cM_newest 41 = .ok (.iload 5, 2) := by decide +kernel
theorem dM_newest_43 : decode cM_newest 43 = .ok (.iadd, 1) := by decide +kernel
theorem dM_newest_44 : decode cM_newest 44 = .ok (.iaload, 1) := by decide +kernel
theorem dM_newest_45 : decode cM_newest 45 = .ok (.baload, 1) := by decide +kernel
theorem dM_newest_46 : decode cM_newest 46 = .ok (.ifCond .eq 40, 3) := by decide +kernel
theorem dM_newest_49 : decode cM_newest 49 = .ok (.aload_n 0, 1) := by decide +kernel
theorem dM_newest_50 : decode cM_newest 50 = .ok (.getfield 20, 3) := by decide +kernel
theorem dM_newest_53 : decode cM_newest 53 = .ok (.aload_n 0, 1) := by decide +kernel
theorem dM_newest_54 : decode cM_newest 54 = .ok (.getfield 47, 3) := by decide +kernel
theorem dM_newest_57 : decode cM_newest 57 = .ok (.bipush 8, 2) := by decide +kernel
theorem dM_newest_59 : decode cM_newest 59 = .ok (.iload 4, 2) := by decide +kernel
theorem dM_newest_61 : decode cM_newest 61 = .ok (.imul, 1) := by decide +kernel
theorem dM_newest_62 : decode cM_newest 62 = .ok (.iload 5, 2) := by decide +kernel
theorem dM_newest_64 : decode cM_newest 64 = .ok (.iadd, 1) := by decide +kernel
theorem dM_newest_65 : decode cM_newest 65 = .ok (.iaload, 1) := by decide +kernel
theorem dM_newest_66 : decode cM_newest 66 = .ok (.laload, 1) := by decide +kernel
theorem dM_newest_67 : decode cM_newest 67 = .ok (.lload_n 1, 1) := by decide +kernel
theorem dM_newest_68 : decode cM_newest 68 = .ok (.lcmp, 1) := by decide +kernel
theorem dM_newest_69 : decode cM_newest 69 = .ok (.ifCond .ne 17, 3) := by decide +kernel
theorem dM_newest_72 : decode cM_newest 72 = .ok (.aload_n 0, 1) := by decide +kernel
theorem dM_newest_73 : decode cM_newest 73 = .ok (.getfield 47, 3) := by decide +kernel
theorem dM_newest_76 : decode cM_newest 76 = .ok (.bipush 8, 2) := by decide +kernel
theorem dM_newest_78 : decode cM_newest 78 = .ok (.iload 4, 2) := by decide +kernel
theorem dM_newest_80 : decode cM_newest 80 = .ok (.imul, 1) := by decide +kernel
theorem dM_newest_81 : decode cM_newest 81 = .ok (.iload 5, 2) := by decide +kernel
theorem dM_newest_83 : decode cM_newest 83 = .ok (.iadd, 1) := by decide +kernel
theorem dM_newest_84 : decode cM_newest 84 = .ok (.iaload, 1) := by decide +kernel
theorem dM_newest_85 : decode cM_newest 85 = .ok (.istore_n 3, 1) := by decide +kernel
theorem dM_newest_86 : decode cM_newest 86 = .ok (.iinc 5 1, 3) := by decide +kernel
theorem dM_newest_89 : decode cM_newest 89 = .ok (.goto (-73), 3) := by decide +kernel
theorem dM_newest_92 : decode cM_newest 92 = .ok (.iinc 4 1, 3) := by decide +kernel
theorem dM_newest_95 : decode cM_newest 95 = .ok (.goto (-89), 3) := by decide +kernel
theorem dM_newest_98 : decode cM_newest 98 = .ok (.iload_n 3, 1) := by decide +kernel
theorem dM_newest_99 : decode cM_newest 99 = .ok (.ireturn, 1) := by decide +kernel
theorem dM_get_0 : decode cM_get 0 = .ok (.aload_n 0, 1) := by decide +kernel
theorem dM_get_1 : decode cM_get 1 = .ok (.invokevirtual 172, 3) := by decide +kernel
theorem dM_get_4 : decode cM_get 4 = .ok (.ifCond .ne 5, 3) := by decide +kernel
theorem dM_get_7 : decode cM_get 7 = .ok (.iconst 0, 1) := by decide +kernel
theorem dM_get_8 : decode cM_get 8 = .ok (.ireturn, 1) := by decide +kernel
theorem dM_get_9 : decode cM_get 9 = .ok (.aload_n 0, 1) := by decide +kernel
theorem dM_get_10 : decode cM_get 10 = .ok (.lload_n 1, 1) := by decide +kernel
theorem dM_get_11 : decode cM_get 11 = .ok (.invokevirtual 103, 3) := by decide +kernel
theorem dM_get_14 : decode cM_get 14 = .ok (.istore_n 3, 1) := by decide +kernel
theorem dM_get_15 : decode cM_get 15 = .ok (.iload_n 3, 1) := by decide +kernel
theorem dM_get_16 : decode cM_get 16 = .ok (.ifCond .lt 41, 3) := by decide +kernel
theorem dM_get_19 : decode cM_get 19 = .ok (.aload_n 0, 1) := by decide +kernel
theorem dM_get_20 : decode cM_get 20 = .ok (.getfield 35, 3) := by decide +kernel
theorem dM_get_23 : decode cM_get 23 = .ok (.iload_n 3, 1) := by decide +kernel
theorem dM_get_24 : decode cM_get 24 = .ok (.iconst 1, 1) := by decide +kernel
theorem dM_get_25 : decode cM_get 25 = .ok (.bastore, 1) := by decide +kernel
theorem dM_get_26 : decode cM_get 26 = .ok (.aload_n 0, 1) := by decide +kernel
theorem dM_get_27 : decode cM_get 27 = .ok (.iload_n 3, 1) := by decide +kernel
theorem dM_get_28 : decode cM_get 28 = .ok (.invokevirtual 182, 3) := by decide +kernel
theorem dM_get_31 : decode cM_get 31 = .ok (.bipush 96, 2) := by decide +kernel
theorem dM_get_33 : decode cM_get 33 = .ok (.if_icmp .ge 14, 3) := by decide +kernel
theorem dM_get_36 : decode cM_get 36 = .ok (.aload_n 0, 1) := by decide +kernel
theorem dM_get_37 : decode cM_get 37 = .ok (.getfield 62, 3) := by decide +kernel
theorem dM_get_40 : decode cM_get 40 = .ok (.bipush 9, 2) := by decide +kernel
theorem dM_get_42 : decode cM_get 42 = .ok (.dup2, 1) := by decide +kernel
theorem dM_get_43 : decode cM_get 43 = .ok (.iaload, 1) := by decide +kernel
theorem dM_get_44 : decode cM_get 44 = .ok (.iconst 1, 1) := by decide +kernel
theorem dM_get_45 : decode cM_get 45 = .ok (.iadd, 1) := by decide +kernel
theorem dM_get_46 : decode cM_get 46 = .ok (.iastore, 1) := by decide +kernel
theorem dM_get_47 : decode cM_get 47 = .ok (.aload_n 0, 1) := by decide +kernel
theorem dM_get_48 : decode cM_get 48 = .ok (.iload_n 3, 1) := by decide +kernel
theorem dM_get_49 : decode cM_get 49 = .ok (.invokevirtual 185, 3) := by decide +kernel
theorem dM_get_52 : decode cM_get 52 = .ok (.aload_n 0, 1) := by decide +kernel
theorem dM_get_53 : decode cM_get 53 = .ok (.getfield 179, 3) := by decide +kernel
theorem dM_get_56 : decode cM_get 56 = .ok (.ireturn, 1) := by decide +kernel
theorem dM_get_57 : decode cM_get 57 = .ok (.aload_n 0, 1) := by decide +kernel
theorem dM_get_58 : decode cM_get 58 = .ok (.lload_n 1, 1) := by decide +kernel
theorem dM_get_59 : decode cM_get 59 = .ok (.invokevirtual 161, 3) := by decide +kernel
theorem dM_get_62 : decode cM_get 62 = .ok (.ifCond .eq 11, 3) := by decide +kernel
theorem dM_get_65 : decode cM_get 65 = .ok (.aload_n 0, 1) := by decide +kernel
theorem dM_get_66 : decode cM_get 66 = .ok (.lload_n 1, 1) := by decide +kernel
theorem dM_get_67 : decode cM_get 67 = .ok (.invokevirtual 143, 3) := by decide +kernel
theorem dM_get_70 : decode cM_get 70 = .ok (.goto 4, 3) := by decide +kernel
theorem dM_get_73 : decode cM_get 73 = .ok (.iconst (-1), 1) := by decide +kernel
theorem dM_get_74 : decode cM_get 74 = .ok (.istore 4, 2) := by decide +kernel
theorem dM_get_76 : decode cM_get 76 = .ok (.iload 4, 2) := by decide +kernel
theorem dM_get_78 : decode cM_get 78 = .ok (.ifCond .ge 7, 3) := by decide +kernel
theorem dM_get_81 : decode cM_get 81 = .ok (.iconst (-1), 1) := by decide +kernel
theorem dM_get_82 : decode cM_get 82 = .ok (.goto 18, 3) := by decide +kernel
theorem dM_get_85 : decode cM_get 85 = .ok (.aload_n 0, 1) := by decide +kernel
theorem dM_get_86 : decode cM_get 86 = .ok (.getfield 47, 3) := by decide +kernel
theorem dM_get_89 : decode cM_get 89 = .ok (.bipush 8, 2) := by decide +kernel
theorem dM_get_91 : decode cM_get 91 = .ok (.lload_n 1, 1) := by decide +kernel
theorem dM_get_92 : decode cM_get 92 = .ok (.invokestatic 89, 3) := by decide +kernel
theorem dM_get_95 : decode cM_get 95 = .ok (.imul, 1) := by decide +kernel
theorem dM_get_96 : decode cM_get 96 = .ok (.iload 4, 2) := by decide +kernel
theorem dM_get_98 : decode cM_get 98 = .ok (.iadd, 1) := by decide +kernel
theorem dM_get_99 : decode cM_get 99 = .ok (.iaload, 1) := by decide +kernel
theorem dM_get_100 : decode cM_get 100 = .ok (.istore_n 3, 1) := by decide +kernel
theorem dM_get_101 : decode cM_get 101 = .ok (.iload_n 3, 1) := by decide +kernel
theorem dM_get_102 : decode cM_get 102 = .ok (.ifCond .lt 10, 3) := by decide +kernel
theorem dM_get_105 : decode cM_get 105 = .ok (.aload_n 0, 1) := by decide +kernel
theorem dM_get_106 : decode cM_get 106 = .ok (.getfield 41, 3) := by decide +kernel
theorem dM_get_109 : decode cM_get 109 = .ok (.iload_n 3, 1) := by decide +kernel
theorem dM_get_110 : decode cM_get 110 = .ok (.iconst 1, 1) := by decide +kernel
theorem dM_get_111 : decode cM_get 111 = .ok (.bastore, 1) := by decide +kernel
theorem dM_get_112 : decode cM_get 112 = .ok (.aload_n 0, 1) := by decide +kernel
theorem dM_get_113 : decode cM_get 113 = .ok (.iload_n 3, 1) := by decide +kernel
theorem dM_get_114 : decode cM_get 114 = .ok (.invokevirtual 185, 3) := by decide +kernel
theorem dM_get_117 : decode cM_get 117 = .ok (.aload_n 0, 1) := by decide +kernel
theorem dM_get_118 : decode cM_get 118 = .ok (.getfield 179, 3) := by decide +kernel
theorem dM_get_121 : decode cM_get 121 = .ok (.ireturn, 1) := by decide +kernel
theorem dM_pageOf_0 : decode cM_pageOf 0 = .ok (.iconst (-1), 1) := by decide +kernel
theorem dM_pageOf_1 : decode cM_pageOf 1 = .ok (.istore_n 2, 1) := by decide +kernel
theorem dM_pageOf_2 : decode cM_pageOf 2 = .ok (.bipush 64, 2) := by decide +kernel
theorem dM_pageOf_4 : decode cM_pageOf 4 = .ok (.istore_n 3, 1) := by decide +kernel
theorem dM_pageOf_5 : decode cM_pageOf 5 = .ok (.iload_n 3, 1) := by decide +kernel
theorem dM_pageOf_6 : decode cM_pageOf 6 = .ok (.bipush 97, 2) := by decide +kernel
theorem dM_pageOf_8 : decode cM_pageOf 8 = .ok (.if_icmp .ge 51, 3) := by decide +kernel
theorem dM_pageOf_11 : decode cM_pageOf 11 = .ok (.iconst 0, 1) := by decide +kernel
theorem dM_pageOf_12 : decode cM_pageOf 12 = .ok (.istore 4, 2) := by decide +kernel
theorem dM_pageOf_14 : decode cM_pageOf 14 = .ok (.iload 4, 2) := by decide +kernel
theorem dM_pageOf_16 : decode cM_pageOf 16 = .ok (.aload_n 0, 1) := by decide +kernel
theorem dM_pageOf_17 : decode cM_pageOf 17 = .ok (.getfield 44, 3) := by decide +kernel
theorem dM_pageOf_20 : decode cM_pageOf 20 = .ok (.iload_n 3, 1) := by decide +kernel
theorem dM_pageOf_21 : decode cM_pageOf 21 = .ok (.iaload, 1) := by decide +kernel
theorem dM_pageOf_22 : decode cM_pageOf 22 = .ok (.if_icmp .ge 31, 3) := by decide +kernel
theorem dM_pageOf_25 : decode cM_pageOf 25 = .ok (.aload_n 0, 1) := by decide +kernel
theorem dM_pageOf_26 : decode cM_pageOf 26 = .ok (.getfield 47, 3) := by decide +kernel
theorem dM_pageOf_29 : decode cM_pageOf 29 = .ok (.bipush 8, 2) := by decide +kernel
theorem dM_pageOf_31 : decode cM_pageOf 31 = .ok (.iload_n 3, 1) := by decide +kernel
theorem dM_pageOf_32 : decode cM_pageOf 32 = .ok (.imul, 1) := by decide +kernel
theorem dM_pageOf_33 : decode cM_pageOf 33 = .ok (.iload 4, 2) := by decide +kernel
theorem dM_pageOf_35 : decode cM_pageOf 35 = .ok (.iadd, 1) := by decide +kernel
theorem dM_pageOf_36 : decode cM_pageOf 36 = .ok (.iaload, 1) := by decide +kernel
theorem dM_pageOf_37 : decode cM_pageOf 37 = .ok (.iload_n 1, 1) := by decide +kernel
theorem dM_pageOf_38 : decode cM_pageOf 38 = .ok (.if_icmp .ne 7, 3) := by decide +kernel
theorem dM_pageOf_41 : decode cM_pageOf 41 = .ok (.iload_n 3, 1) := by decide +kernel
theorem dM_pageOf_42 : decode cM_pageOf 42 = .ok (.goto 4, 3) := by decide +kernel
theorem dM_pageOf_45 : decode cM_pageOf 45 = .ok (.iload_n 2, 1) := by decide +kernel
theorem dM_pageOf_46 : decode cM_pageOf 46 = .ok (.istore_n 2, 1) := by decide +kernel
theorem dM_pageOf_47 : decode cM_pageOf 47 = .ok (.iinc 4 1, 3) := by decide +kernel
theorem dM_pageOf_50 : decode cM_pageOf 50 = .ok (.goto (-36), 3) := by decide +kernel
theorem dM_pageOf_53 : decode cM_pageOf 53 = .ok (.iinc 3 1, 3) := by decide +kernel
theorem dM_pageOf_56 : decode cM_pageOf 56 = .ok (.goto (-51), 3) := by decide +kernel
theorem dM_pageOf_59 : decode cM_pageOf 59 = .ok (.iload_n 2, 1) := by decide +kernel
theorem dM_pageOf_60 : decode cM_pageOf 60 = .ok (.ireturn, 1) := by decide +kernel
theorem dM_tell_0 : decode cM_tell 0 = .ok (.aload_n 0, 1) := by decide +kernel
theorem dM_tell_1 : decode cM_tell 1 = .ok (.iload_n 1, 1) := by decide +kernel
theorem dM_tell_2 : decode cM_tell 2 = .ok (.ifCond .ge 7, 3) := by decide +kernel
theorem dM_tell_5 : decode cM_tell 5 = .ok (.iconst 0, 1) := by decide +kernel
theorem dM_tell_6 : decode cM_tell 6 = .ok (.goto 9, 3) := by decide +kernel
theorem dM_tell_9 : decode cM_tell 9 = .ok (.aload_n 0, 1) := by decide +kernel
theorem dM_tell_10 : decode cM_tell 10 = .ok (.getfield 24, 3) := by decide +kernel
theorem dM_tell_13 : decode cM_tell 13 = .ok (.iload_n 1, 1) := by decide +kernel
theorem dM_tell_14 : decode cM_tell 14 = .ok (.iaload, 1) := by decide +kernel
theorem dM_tell_15 : decode cM_tell 15 = .ok (.putfield 179, 3) := by decide +kernel
theorem dM_tell_18 : decode cM_tell 18 = .ok (.iconst 0, 1) := by decide +kernel
theorem dM_tell_19 : decode cM_tell 19 = .ok (.istore_n 2, 1) := by decide +kernel
theorem dM_tell_20 : decode cM_tell 20 = .ok (.iload_n 2, 1) := by decide +kernel
theorem dM_tell_21 : decode cM_tell 21 = .ok (.aload_n 0, 1) := by decide +kernel
theorem dM_tell_22 : decode cM_tell 22 = .ok (.getfield 179, 3) := by decide +kernel
theorem dM_tell_25 : decode cM_tell 25 = .ok (.if_icmp .ge 26, 3) := by decide +kernel
theorem dM_tell_28 : decode cM_tell 28 = .ok (.aload_n 0, 1) := by decide +kernel
theorem dM_tell_29 : decode cM_tell 29 = .ok (.getfield 17, 3) := by decide +kernel
theorem dM_tell_32 : decode cM_tell 32 = .ok (.iload_n 2, 1) := by decide +kernel
theorem dM_tell_33 : decode cM_tell 33 = .ok (.aload_n 0, 1) := by decide +kernel
theorem dM_tell_34 : decode cM_tell 34 = .ok (.getfield 28, 3) := by decide +kernel
theorem dM_tell_37 : decode cM_tell 37 = .ok (.bipush 8, 2) := by decide +kernel
theorem dM_tell_39 : decode cM_tell 39 = .ok (.iload_n 1, 1) := by decide +kernel
theorem dM_tell_40 : decode cM_tell 40 = .ok (.imul, 1) := by decide +kernel
theorem dM_tell_41 : decode cM_tell 41 = .ok (.iload_n 2, 1) := by decide +kernel
theorem dM_tell_42 : decode cM_tell 42 = .ok (.iadd, 1) := by decide +kernel
theorem dM_tell_43 : decode cM_tell 43 = .ok (.iaload, 1) := by decide +kernel
theorem dM_tell_44 : decode cM_tell 44 = .ok (.iastore, 1) := by decide +kernel
theorem dM_tell_45 : decode cM_tell 45 = .ok (.iinc 2 1, 3) := by decide +kernel
theorem dM_tell_48 : decode cM_tell 48 = .ok (.goto (-28), 3) := by decide +kernel
theorem dM_tell_51 : decode cM_tell 51 = .ok (.return_, 1) := by decide +kernel
theorem dM_got_0 : decode cM_got 0 = .ok (.aload_n 0, 1) := by decide +kernel
theorem dM_got_1 : decode cM_got 1 = .ok (.iconst 0, 1) := by decide +kernel
theorem dM_got_2 : decode cM_got 2 = .ok (.putfield 65, 3) := by decide +kernel
theorem dM_got_5 : decode cM_got 5 = .ok (.iload_n 1, 1) := by decide +kernel
theorem dM_got_6 : decode cM_got 6 = .ok (.iconst 0, 1) := by decide +kernel
theorem dM_got_7 : decode cM_got 7 = .ok (.aload_n 0, 1) := by decide +kernel
theorem dM_got_8 : decode cM_got 8 = .ok (.getfield 179, 3) := by decide +kernel
theorem dM_got_11 : decode cM_got 11 = .ok (.iconst 1, 1) := by decide +kernel
theorem dM_got_12 : decode cM_got 12 = .ok (.isub, 1) := by decide +kernel
theorem dM_got_13 : decode cM_got 13 = .ok (.invokestatic 165, 3) := by decide +kernel
theorem dM_got_16 : decode cM_got 16 = .ok (.ifCond .eq 12, 3) := by decide +kernel
theorem dM_got_19 : decode cM_got 19 = .ok (.aload_n 0, 1) := by decide +kernel
theorem dM_got_20 : decode cM_got 20 = .ok (.getfield 17, 3) := by decide +kernel
theorem dM_got_23 : decode cM_got 23 = .ok (.iload_n 1, 1) := by decide +kernel
theorem dM_got_24 : decode cM_got 24 = .ok (.iaload, 1) := by decide +kernel
theorem dM_got_25 : decode cM_got 25 = .ok (.goto 8, 3) := by decide +kernel
theorem dM_got_28 : decode cM_got 28 = .ok (.aload_n 0, 1) := by decide +kernel
theorem dM_got_29 : decode cM_got 29 = .ok (.iconst 1, 1) := by decide +kernel
theorem dM_got_30 : decode cM_got 30 = .ok (.invokevirtual 169, 3) := by decide +kernel
theorem dM_got_33 : decode cM_got 33 = .ok (.ireturn, 1) := by decide +kernel
theorem dM_delete_0 : decode cM_delete 0 = .ok (.aload_n 0, 1) := by decide +kernel
theorem dM_delete_1 : decode cM_delete 1 = .ok (.invokevirtual 172, 3) := by decide +kernel
theorem dM_delete_4 : decode cM_delete 4 = .ok (.ifCond .ne 5, 3) := by decide +kernel
theorem dM_delete_7 : decode cM_delete 7 = .ok (.iconst 0, 1) := by decide +kernel
theorem dM_delete_8 : decode cM_delete 8 = .ok (.ireturn, 1) := by decide +kernel
theorem dM_delete_9 : decode cM_delete 9 = .ok (.aload_n 0, 1) := by decide +kernel
theorem dM_delete_10 : decode cM_delete 10 = .ok (.lload_n 1, 1) := by decide +kernel
theorem dM_delete_11 : decode cM_delete 11 = .ok (.invokevirtual 103, 3) := by decide +kernel
theorem dM_delete_14 : decode cM_delete 14 = .ok (.istore_n 3, 1) := by decide +kernel
theorem dM_delete_15 : decode cM_delete 15 = .ok (.iload_n 3, 1) := by decide +kernel
theorem dM_delete_16 : decode cM_delete 16 = .ok (.ifCond .lt 10, 3) := by decide +kernel
theorem dM_delete_19 : decode cM_delete 19 = .ok (.aload_n 0, 1) := by decide +kernel
theorem dM_delete_20 : decode cM_delete 20 = .ok (.getfield 31, 3) := by decide +kernel
theorem dM_delete_23 : decode cM_delete 23 = .ok (.iload_n 3, 1) := by decide +kernel
theorem dM_delete_24 : decode cM_delete 24 = .ok (.iconst 0, 1) := by decide +kernel
theorem dM_delete_25 : decode cM_delete 25 = .ok (.bastore, 1) := by decide +kernel
theorem dM_delete_26 : decode cM_delete 26 = .ok (.aload_n 0, 1) := by decide +kernel
theorem dM_delete_27 : decode cM_delete 27 = .ok (.lload_n 1, 1) := by decide +kernel
theorem dM_delete_28 : decode cM_delete 28 = .ok (.iconst 3, 1) := by decide +kernel
theorem dM_delete_29 : decode cM_delete 29 = .ok (.invokevirtual 157, 3) := by decide +kernel
theorem dM_delete_32 : decode cM_delete 32 = .ok (.istore 4, 2) := by decide +kernel
theorem dM_delete_34 : decode cM_delete 34 = .ok (.iload_n 3, 1) := by decide +kernel
theorem dM_delete_35 : decode cM_delete 35 = .ok (.ifCond .ge 8, 3) := by decide +kernel
theorem dM_delete_38 : decode cM_delete 38 = .ok (.iload 4, 2) := by decide +kernel
theorem dM_delete_40 : decode cM_delete 40 = .ok (.ifCond .eq 7, 3) := by decide +kernel
theorem dM_delete_43 : decode cM_delete 43 = .ok (.iconst 1, 1) := by decide +kernel
theorem dM_delete_44 : decode cM_delete 44 = .ok (.goto 4, 3) := by decide +kernel
theorem dM_delete_47 : decode cM_delete 47 = .ok (.iconst 0, 1) := by decide +kernel
theorem dM_delete_48 : decode cM_delete 48 = .ok (.ireturn, 1) := by decide +kernel
theorem dM_setOf_0 : decode cM_setOf 0 = .ok (.aload_n 0, 1) := by decide +kernel
theorem dM_setOf_1 : decode cM_setOf 1 = .ok (.iconst 0, 1) := by decide +kernel
theorem dM_setOf_2 : decode cM_setOf 2 = .ok (.putfield 65, 3) := by decide +kernel
theorem dM_setOf_5 : decode cM_setOf 5 = .ok (.lload_n 1, 1) := by decide +kernel
theorem dM_setOf_6 : decode cM_setOf 6 = .ok (.invokestatic 89, 3) := by decide +kernel
theorem dM_setOf_9 : decode cM_setOf 9 = .ok (.ireturn, 1) := by decide +kernel
theorem dM_where_0 : decode cM_where 0 = .ok (.aload_n 0, 1) := by decide +kernel
theorem dM_where_1 : decode cM_where 1 = .ok (.invokevirtual 172, 3) := by decide +kernel
theorem dM_where_4 : decode cM_where 4 = .ok (.ifCond .ne 5, 3) := by decide +kernel
theorem dM_where_7 : decode cM_where 7 = .ok (.iconst 0, 1) := by decide +kernel
theorem dM_where_8 : decode cM_where 8 = .ok (.ireturn, 1) := by decide +kernel
theorem dM_where_9 : decode cM_where 9 = .ok (.aload_n 0, 1) := by decide +kernel
theorem dM_where_10 : decode cM_where 10 = .ok (.lload_n 1, 1) := by decide +kernel
theorem dM_where_11 : decode cM_where 11 = .ok (.invokevirtual 103, 3) := by decide +kernel
theorem dM_where_14 : decode cM_where 14 = .ok (.ifCond .lt 7, 3) := by decide +kernel
theorem dM_where_17 : decode cM_where 17 = .ok (.iconst 1, 1) := by decide +kernel
theorem dM_where_18 : decode cM_where 18 = .ok (.goto 16, 3) := by decide +kernel
theorem dM_where_21 : decode cM_where 21 = .ok (.aload_n 0, 1) := by decide +kernel
theorem dM_where_22 : decode cM_where 22 = .ok (.lload_n 1, 1) := by decide +kernel
theorem dM_where_23 : decode cM_where 23 = .ok (.invokevirtual 143, 3) := by decide +kernel
theorem dM_where_26 : decode cM_where 26 = .ok (.ifCond .lt 7, 3) := by decide +kernel
theorem dM_where_29 : decode cM_where 29 = .ok (.iconst 2, 1) := by decide +kernel
theorem dM_where_30 : decode cM_where 30 = .ok (.goto 4, 3) := by decide +kernel
theorem dM_where_33 : decode cM_where 33 = .ok (.iconst 0, 1) := by decide +kernel
theorem dM_where_34 : decode cM_where 34 = .ok (.ireturn, 1) := by decide +kernel
theorem dM_flash_0 : decode cM_flash 0 = .ok (.aload_n 0, 1) := by decide +kernel
theorem dM_flash_1 : decode cM_flash 1 = .ok (.iconst 0, 1) := by decide +kernel
theorem dM_flash_2 : decode cM_flash 2 = .ok (.putfield 65, 3) := by decide +kernel
theorem dM_flash_5 : decode cM_flash 5 = .ok (.iload_n 1, 1) := by decide +kernel
theorem dM_flash_6 : decode cM_flash 6 = .ok (.iconst 0, 1) := by decide +kernel
theorem dM_flash_7 : decode cM_flash 7 = .ok (.bipush 95, 2) := by decide +kernel
theorem dM_flash_9 : decode cM_flash 9 = .ok (.invokestatic 165, 3) := by decide +kernel
theorem dM_flash_12 : decode cM_flash 12 = .ok (.ifCond .eq 13, 3) := by decide +kernel
theorem dM_flash_15 : decode cM_flash 15 = .ok (.iload_n 2, 1) := by decide +kernel
theorem dM_flash_16 : decode cM_flash 16 = .ok (.iconst 0, 1) := by decide +kernel
theorem dM_flash_17 : decode cM_flash 17 = .ok (.bipush 31, 2) := by decide +kernel
theorem dM_flash_19 : decode cM_flash 19 = .ok (.invokestatic 165, 3) := by decide +kernel
theorem dM_flash_22 : decode cM_flash 22 = .ok (.ifCond .ne 9, 3) := by decide +kernel
theorem dM_flash_25 : decode cM_flash 25 = .ok (.aload_n 0, 1) := by decide +kernel
theorem dM_flash_26 : decode cM_flash 26 = .ok (.iconst 1, 1) := by decide +kernel
theorem dM_flash_27 : decode cM_flash 27 = .ok (.invokevirtual 169, 3) := by decide +kernel
theorem dM_flash_30 : decode cM_flash 30 = .ok (.ireturn, 1) := by decide +kernel
theorem dM_flash_31 : decode cM_flash 31 = .ok (.iconst 0, 1) := by decide +kernel
theorem dM_flash_32 : decode cM_flash 32 = .ok (.istore_n 3, 1) := by decide +kernel
theorem dM_flash_33 : decode cM_flash 33 = .ok (.iconst 0, 1) := by decide +kernel
theorem dM_flash_34 : decode cM_flash 34 = .ok (.istore 4, 2) := by decide +kernel
theorem dM_flash_36 : decode cM_flash 36 = .ok (.iload 4, 2) := by decide +kernel
theorem dM_flash_38 : decode cM_flash 38 = .ok (.aload_n 0, 1) := by decide +kernel
theorem dM_flash_39 : decode cM_flash 39 = .ok (.getfield 44, 3) := by decide +kernel
theorem dM_flash_42 : decode cM_flash 42 = .ok (.iload_n 1, 1) := by decide +kernel
theorem dM_flash_43 : decode cM_flash 43 = .ok (.iaload, 1) := by decide +kernel
theorem dM_flash_44 : decode cM_flash 44 = .ok (.if_icmp .ge 115, 3) := by decide +kernel
theorem dM_flash_47 : decode cM_flash 47 = .ok (.aload_n 0, 1) := by decide +kernel
theorem dM_flash_48 : decode cM_flash 48 = .ok (.getfield 47, 3) := by decide +kernel
theorem dM_flash_51 : decode cM_flash 51 = .ok (.bipush 8, 2) := by decide +kernel
theorem dM_flash_53 : decode cM_flash 53 = .ok (.iload_n 1, 1) := by decide +kernel
theorem dM_flash_54 : decode cM_flash 54 = .ok (.imul, 1) := by decide +kernel
theorem dM_flash_55 : decode cM_flash 55 = .ok (.iload 4, 2) := by decide +kernel
theorem dM_flash_57 : decode cM_flash 57 = .ok (.iadd, 1) := by decide +kernel
theorem dM_flash_58 : decode cM_flash 58 = .ok (.iaload, 1) := by decide +kernel
theorem dM_flash_59 : decode cM_flash 59 = .ok (.istore 5, 2) := by decide +kernel
theorem dM_flash_61 : decode cM_flash 61 = .ok (.iload_n 2, 1) := by decide +kernel
theorem dM_flash_62 : decode cM_flash 62 = .ok (.iload_n 3, 1) := by decide +kernel
theorem dM_flash_63 : decode cM_flash 63 = .ok (.aload_n 0, 1) := by decide +kernel
theorem dM_flash_64 : decode cM_flash 64 = .ok (.iload 5, 2) := by decide +kernel
theorem dM_flash_66 : decode cM_flash 66 = .ok (.invokevirtual 79, 3) := by decide +kernel
theorem dM_flash_69 : decode cM_flash 69 = .ok (.iadd, 1) := by decide +kernel
theorem dM_flash_70 : decode cM_flash 70 = .ok (.if_icmp .ge 74, 3) := by decide +kernel
theorem dM_flash_73 : decode cM_flash 73 = .ok (.iload_n 2, 1) := by decide +kernel
theorem dM_flash_74 : decode cM_flash 74 = .ok (.iload_n 3, 1) := by decide +kernel
theorem dM_flash_75 : decode cM_flash 75 = .ok (.if_icmp .ne 13, 3) := by decide +kernel
theorem dM_flash_78 : decode cM_flash 78 = .ok (.aload_n 0, 1) := by decide +kernel
theorem dM_flash_79 : decode cM_flash 79 = .ok (.getfield 24, 3) := by decide +kernel
theorem dM_flash_82 : decode cM_flash 82 = .ok (.iload 5, 2) := by decide +kernel
theorem dM_flash_84 : decode cM_flash 84 = .ok (.iaload, 1) := by decide +kernel
theorem dM_flash_85 : decode cM_flash 85 = .ok (.goto 58, 3) := by decide +kernel
theorem dM_flash_88 : decode cM_flash 88 = .ok (.iload_n 2, 1) := by decide +kernel
theorem dM_flash_89 : decode cM_flash 89 = .ok (.iload_n 3, 1) := by decide +kernel
theorem dM_flash_90 : decode cM_flash 90 = .ok (.iconst 1, 1) := by decide +kernel
theorem dM_flash_91 : decode cM_flash 91 = .ok (.iadd, 1) := by decide +kernel
theorem dM_flash_92 : decode cM_flash 92 = .ok (.if_icmp .ne 17, 3) := by decide +kernel
theorem dM_flash_95 : decode cM_flash 95 = .ok (.aload_n 0, 1) := by decide +kernel
theorem dM_flash_96 : decode cM_flash 96 = .ok (.getfield 20, 3) := by decide +kernel
theorem dM_flash_99 : decode cM_flash 99 = .ok (.iload 5, 2) := by decide +kernel
theorem dM_flash_101 : decode cM_flash 101 = .ok (.laload, 1) := by decide +kernel
theorem dM_flash_102 : decode cM_flash 102 = .ok (.bipush 32, 2) := by decide +kernel
theorem dM_flash_104 : decode cM_flash 104 = .ok (.lshr, 1) := by decide +kernel
theorem dM_flash_105 : decode cM_flash 105 = .ok (.l2i, 1) := by decide +kernel
theorem dM_flash_106 : decode cM_flash 106 = .ok (.goto 37, 3) := by decide +kernel
theorem dM_flash_109 : decode cM_flash 109 = .ok (.iload_n 2, 1) := by decide +kernel
theorem dM_flash_110 : decode cM_flash 110 = .ok (.iload_n 3, 1) := by decide +kernel
theorem dM_flash_111 : decode cM_flash 111 = .ok (.iconst 2, 1) := by decide +kernel
theorem dM_flash_112 : decode cM_flash 112 = .ok (.iadd, 1) := by decide +kernel
theorem dM_flash_113 : decode cM_flash 113 = .ok (.if_icmp .ne 14, 3) := by decide +kernel
theorem dM_flash_116 : decode cM_flash 116 = .ok (.aload_n 0, 1) := by decide +kernel
theorem dM_flash_117 : decode cM_flash 117 = .ok (.getfield 20, 3) := by decide +kernel
theorem dM_flash_120 : decode cM_flash 120 = .ok (.iload 5, 2) := by decide +kernel
theorem dM_flash_122 : decode cM_flash 122 = .ok (.laload, 1) := by decide +kernel
theorem dM_flash_123 : decode cM_flash 123 = .ok (.l2i, 1) := by decide +kernel
theorem dM_flash_124 : decode cM_flash 124 = .ok (.goto 19, 3) := by decide +kernel
theorem dM_flash_127 : decode cM_flash 127 = .ok (.aload_n 0, 1) := by decide +kernel
theorem dM_flash_128 : decode cM_flash 128 = .ok (.getfield 28, 3) := by decide +kernel
theorem dM_flash_131 : decode cM_flash 131 = .ok (.bipush 8, 2) := by decide +kernel
theorem dM_flash_133 : decode cM_flash 133 = .ok (.iload 5, 2) := by decide +kernel
theorem dM_flash_135 : decode cM_flash 135 = .ok (.imul, 1) := by decide +kernel
theorem dM_flash_136 : decode cM_flash 136 = .ok (.iload_n 2, 1) := by decide +kernel
theorem dM_flash_137 : decode cM_flash 137 = .ok (.iadd, 1) := by decide +kernel
theorem dM_flash_138 : decode cM_flash 138 = .ok (.iload_n 3, 1) := by decide +kernel
theorem dM_flash_139 : decode cM_flash 139 = .ok (.isub, 1) := by decide +kernel
theorem dM_flash_140 : decode cM_flash 140 = .ok (.iconst 3, 1) := by decide +kernel
theorem dM_flash_141 : decode cM_flash 141 = .ok (.isub, 1) := by decide +kernel
theorem dM_flash_142 : decode cM_flash 142 = .ok (.iaload, 1) := by decide +kernel
theorem dM_flash_143 : decode cM_flash 143 = .ok (.ireturn, 1) := by decide +kernel
theorem dM_flash_144 : decode cM_flash 144 = .ok (.iload_n 3, 1) := by decide +kernel
theorem dM_flash_145 : decode cM_flash 145 = .ok (.aload_n 0, 1) := by decide +kernel
theorem dM_flash_146 : decode cM_flash 146 = .ok (.iload 5, 2) := by decide +kernel
theorem dM_flash_148 : decode cM_flash 148 = .ok (.invokevirtual 79, 3) := by decide +kernel
theorem dM_flash_151 : decode cM_flash 151 = .ok (.iadd, 1) := by decide +kernel
theorem dM_flash_152 : decode cM_flash 152 = .ok (.istore_n 3, 1) := by decide +kernel
theorem dM_flash_153 : decode cM_flash 153 = .ok (.iinc 4 1, 3) := by decide +kernel
theorem dM_flash_156 : decode cM_flash 156 = .ok (.goto (-120), 3) := by decide +kernel
theorem dM_flash_159 : decode cM_flash 159 = .ok (.iconst 0, 1) := by decide +kernel
theorem dM_flash_160 : decode cM_flash 160 = .ok (.ireturn, 1) := by decide +kernel
theorem dM_close_0 : decode cM_close 0 = .ok (.aload_n 0, 1) := by decide +kernel
theorem dM_close_1 : decode cM_close 1 = .ok (.aload_n 0, 1) := by decide +kernel
theorem dM_close_2 : decode cM_close 2 = .ok (.getfield 7, 3) := by decide +kernel
theorem dM_close_5 : decode cM_close 5 = .ok (.ifCond .eq 7, 3) := by decide +kernel
theorem dM_close_8 : decode cM_close 8 = .ok (.iconst 0, 1) := by decide +kernel
theorem dM_close_9 : decode cM_close 9 = .ok (.goto 4, 3) := by decide +kernel
theorem dM_close_12 : decode cM_close 12 = .ok (.iconst 1, 1) := by decide +kernel
theorem dM_close_13 : decode cM_close 13 = .ok (.putfield 65, 3) := by decide +kernel
theorem dM_close_16 : decode cM_close 16 = .ok (.aload_n 0, 1) := by decide +kernel
theorem dM_close_17 : decode cM_close 17 = .ok (.iconst 0, 1) := by decide +kernel
theorem dM_close_18 : decode cM_close 18 = .ok (.putfield 7, 3) := by decide +kernel
theorem dM_close_21 : decode cM_close 21 = .ok (.return_, 1) := by decide +kernel
theorem dM_crash_0 : decode cM_crash 0 = .ok (.aload_n 0, 1) := by decide +kernel
theorem dM_crash_1 : decode cM_crash 1 = .ok (.aload_n 0, 1) := by decide +kernel
theorem dM_crash_2 : decode cM_crash 2 = .ok (.getfield 7, 3) := by decide +kernel
theorem dM_crash_5 : decode cM_crash 5 = .ok (.ifCond .eq 7, 3) := by decide +kernel
theorem dM_crash_8 : decode cM_crash 8 = .ok (.iconst 0, 1) := by decide +kernel
theorem dM_crash_9 : decode cM_crash 9 = .ok (.goto 4, 3) := by decide +kernel
theorem dM_crash_12 : decode cM_crash 12 = .ok (.iconst 1, 1) := by decide +kernel
theorem dM_crash_13 : decode cM_crash 13 = .ok (.putfield 65, 3) := by decide +kernel
theorem dM_crash_16 : decode cM_crash 16 = .ok (.aload_n 0, 1) := by decide +kernel
theorem dM_crash_17 : decode cM_crash 17 = .ok (.getfield 7, 3) := by decide +kernel
theorem dM_crash_20 : decode cM_crash 20 = .ok (.ifCond .ne 4, 3) := by decide +kernel
theorem dM_crash_23 : decode cM_crash 23 = .ok (.return_, 1) := by decide +kernel
theorem dM_crash_24 : decode cM_crash 24 = .ok (.aload_n 0, 1) := by decide +kernel
theorem dM_crash_25 : decode cM_crash 25 = .ok (.iconst 0, 1) := by decide +kernel
theorem dM_crash_26 : decode cM_crash 26 = .ok (.putfield 7, 3) := by decide +kernel
theorem dM_crash_29 : decode cM_crash 29 = .ok (.iconst 0, 1) := by decide +kernel
theorem dM_crash_30 : decode cM_crash 30 = .ok (.istore_n 1, 1) := by decide +kernel
theorem dM_crash_31 : decode cM_crash 31 = .ok (.iload_n 1, 1) := by decide +kernel
theorem dM_crash_32 : decode cM_crash 32 = .ok (.bipush 97, 2) := by decide +kernel
theorem dM_crash_34 : decode cM_crash 34 = .ok (.if_icmp .ge 16, 3) := by decide +kernel
theorem dM_crash_37 : decode cM_crash 37 = .ok (.aload_n 0, 1) := by decide +kernel
theorem dM_crash_38 : decode cM_crash 38 = .ok (.getfield 44, 3) := by decide +kernel
theorem dM_crash_41 : decode cM_crash 41 = .ok (.iload_n 1, 1) := by decide +kernel
theorem dM_crash_42 : decode cM_crash 42 = .ok (.iconst 0, 1) := by decide +kernel
theorem dM_crash_43 : decode cM_crash 43 = .ok (.iastore, 1) := by decide +kernel
theorem dM_crash_44 : decode cM_crash 44 = .ok (.iinc 1 1, 3) := by decide +kernel
theorem dM_crash_47 : decode cM_crash 47 = .ok (.goto (-16), 3) := by decide +kernel
theorem dM_crash_50 : decode cM_crash 50 = .ok (.iconst 0, 1) := by decide +kernel
theorem dM_crash_51 : decode cM_crash 51 = .ok (.istore_n 1, 1) := by decide +kernel
theorem dM_crash_52 : decode cM_crash 52 = .ok (.iload_n 1, 1) := by decide +kernel
theorem dM_crash_53 : decode cM_crash 53 = .ok (.bipush 13, 2) := by decide +kernel
theorem dM_crash_55 : decode cM_crash 55 = .ok (.if_icmp .ge 16, 3) := by decide +kernel
theorem dM_crash_58 : decode cM_crash 58 = .ok (.aload_n 0, 1) := by decide +kernel
theorem dM_crash_59 : decode cM_crash 59 = .ok (.getfield 62, 3) := by decide +kernel
theorem dM_crash_62 : decode cM_crash 62 = .ok (.iload_n 1, 1) := by decide +kernel
theorem dM_crash_63 : decode cM_crash 63 = .ok (.iconst 0, 1) := by decide +kernel
theorem dM_crash_64 : decode cM_crash 64 = .ok (.iastore, 1) := by decide +kernel
theorem dM_crash_65 : decode cM_crash 65 = .ok (.iinc 1 1, 3) := by decide +kernel
theorem dM_crash_68 : decode cM_crash 68 = .ok (.goto (-16), 3) := by decide +kernel
theorem dM_crash_71 : decode cM_crash 71 = .ok (.aload_n 0, 1) := by decide +kernel
theorem dM_crash_72 : decode cM_crash 72 = .ok (.iconst 0, 1) := by decide +kernel
theorem dM_crash_73 : decode cM_crash 73 = .ok (.putfield 96, 3) := by decide +kernel
theorem dM_crash_76 : decode cM_crash 76 = .ok (.aload_n 0, 1) := by decide +kernel
theorem dM_crash_77 : decode cM_crash 77 = .ok (.iconst 0, 1) := by decide +kernel
theorem dM_crash_78 : decode cM_crash 78 = .ok (.putfield 106, 3) := by decide +kernel
theorem dM_crash_81 : decode cM_crash 81 = .ok (.aload_n 0, 1) := by decide +kernel
theorem dM_crash_82 : decode cM_crash 82 = .ok (.iconst 0, 1) := by decide +kernel
theorem dM_crash_83 : decode cM_crash 83 = .ok (.putfield 179, 3) := by decide +kernel
theorem dM_crash_86 : decode cM_crash 86 = .ok (.return_, 1) := by decide +kernel
theorem dM_open_0 : decode cM_open 0 = .ok (.aload_n 0, 1) := by decide +kernel
theorem dM_open_1 : decode cM_open 1 = .ok (.aload_n 0, 1) := by decide +kernel
theorem dM_open_2 : decode cM_open 2 = .ok (.getfield 7, 3) := by decide +kernel
theorem dM_open_5 : decode cM_open 5 = .ok (.ifCond .eq 7, 3) := by decide +kernel
theorem dM_open_8 : decode cM_open 8 = .ok (.iconst 1, 1) := by decide +kernel
theorem dM_open_9 : decode cM_open 9 = .ok (.goto 4, 3) := by decide +kernel
theorem dM_open_12 : decode cM_open 12 = .ok (.iconst 0, 1) := by decide +kernel
theorem dM_open_13 : decode cM_open 13 = .ok (.putfield 65, 3) := by decide +kernel
theorem dM_open_16 : decode cM_open 16 = .ok (.aload_n 0, 1) := by decide +kernel
theorem dM_open_17 : decode cM_open 17 = .ok (.getfield 7, 3) := by decide +kernel
theorem dM_open_20 : decode cM_open 20 = .ok (.ifCond .eq 5, 3) := by decide +kernel
theorem dM_open_23 : decode cM_open 23 = .ok (.iconst 0, 1) := by decide +kernel
theorem dM_open_24 : decode cM_open 24 = .ok (.ireturn, 1) := by decide +kernel
theorem dM_open_25 : decode cM_open 25 = .ok (.aload_n 0, 1) := by decide +kernel
theorem dM_open_26 : decode cM_open 26 = .ok (.iconst 1, 1) := by decide +kernel
theorem dM_open_27 : decode cM_open 27 = .ok (.putfield 7, 3) := by decide +kernel
theorem dM_open_30 : decode cM_open 30 = .ok (.aload_n 0, 1) := by decide +kernel
theorem dM_open_31 : decode cM_open 31 = .ok (.invokevirtual 188, 3) := by decide +kernel
theorem dM_open_34 : decode cM_open 34 = .ok (.ireturn, 1) := by decide +kernel
theorem dM_indexed_0 : decode cM_indexed 0 = .ok (.iconst 0, 1) := by decide +kernel
theorem dM_indexed_1 : decode cM_indexed 1 = .ok (.istore_n 1, 1) := by decide +kernel
theorem dM_indexed_2 : decode cM_indexed 2 = .ok (.bipush 64, 2) := by decide +kernel
theorem dM_indexed_4 : decode cM_indexed 4 = .ok (.istore_n 2, 1) := by decide +kernel
theorem dM_indexed_5 : decode cM_indexed 5 = .ok (.iload_n 2, 1) := by decide +kernel
theorem dM_indexed_6 : decode cM_indexed 6 = .ok (.bipush 97, 2) := by decide +kernel
theorem dM_indexed_8 : decode cM_indexed 8 = .ok (.if_icmp .ge 54, 3) := by decide +kernel
theorem dM_indexed_11 : decode cM_indexed 11 = .ok (.iconst 0, 1) := by decide +kernel
theorem dM_indexed_12 : decode cM_indexed 12 = .ok (.istore_n 3, 1) := by decide +kernel
theorem dM_indexed_13 : decode cM_indexed 13 = .ok (.iload_n 3, 1) := by decide +kernel
theorem dM_indexed_14 : decode cM_indexed 14 = .ok (.aload_n 0, 1) := by decide +kernel
theorem dM_indexed_15 : decode cM_indexed 15 = .ok (.getfield 44, 3) := by decide +kernel
theorem dM_indexed_18 : decode cM_indexed 18 = .ok (.iload_n 2, 1) := by decide +kernel
theorem dM_indexed_19 : decode cM_indexed 19 = .ok (.iaload, 1) := by decide +kernel
theorem dM_indexed_20 : decode cM_indexed 20 = .ok (.if_icmp .ge 36, 3) := by decide +kernel
theorem dM_indexed_23 : decode cM_indexed 23 = .ok (.iload_n 1, 1) := by decide +kernel
theorem dM_indexed_24 : decode cM_indexed 24 = .ok (.aload_n 0, 1) := by decide +kernel
theorem dM_indexed_25 : decode cM_indexed 25 = .ok (.getfield 31, 3) := by decide +kernel
theorem dM_indexed_28 : decode cM_indexed 28 = .ok (.aload_n 0, 1) := by decide +kernel
theorem dM_indexed_29 : decode cM_indexed 29 = .ok (.getfield 47, 3) := by decide +kernel
theorem dM_indexed_32 : decode cM_indexed 32 = .ok (.bipush 8, 2) := by decide +kernel
theorem dM_indexed_34 : decode cM_indexed 34 = .ok (.iload_n 2, 1) := by decide +kernel
theorem dM_indexed_35 : decode cM_indexed 35 = .ok (.imul, 1) := by decide +kernel
theorem dM_indexed_36 : decode cM_indexed 36 = .ok (.iload_n 3, 1) := by decide +kernel
theorem dM_indexed_37 : decode cM_indexed 37 = .ok (.iadd, 1) := by decide +kernel
theorem dM_indexed_38 : decode cM_indexed 38 = .ok (.iaload, 1) := by decide +kernel
theorem dM_indexed_39 : decode cM_indexed 39 = .ok (.baload, 1) := by decide +kernel
theorem dM_indexed_40 : decode cM_indexed 40 = .ok (.ifCond .eq 7, 3) := by decide +kernel
theorem dM_indexed_43 : decode cM_indexed 43 = .ok (.iconst 1, 1) := by decide +kernel
theorem dM_indexed_44 : decode cM_indexed 44 = .ok (.goto 4, 3) := by decide +kernel
theorem dM_indexed_47 : decode cM_indexed 47 = .ok (.iconst 0, 1) := by decide +kernel
theorem dM_indexed_48 : decode cM_indexed 48 = .ok (.iadd, 1) := by decide +kernel
theorem dM_indexed_49 : decode cM_indexed 49 = .ok (.istore_n 1, 1) := by decide +kernel
theorem dM_indexed_50 : decode cM_indexed 50 = .ok (.iinc 3 1, 3) := by decide +kernel
theorem dM_indexed_53 : decode cM_indexed 53 = .ok (.goto (-40), 3) := by decide +kernel
theorem dM_indexed_56 : decode cM_indexed 56 = .ok (.iinc 2 1, 3) := by decide +kernel
theorem dM_indexed_59 : decode cM_indexed 59 = .ok (.goto (-54), 3) := by decide +kernel
theorem dM_indexed_62 : decode cM_indexed 62 = .ok (.iload_n 1, 1) := by decide +kernel
theorem dM_indexed_63 : decode cM_indexed 63 = .ok (.ireturn, 1) := by decide +kernel
theorem dM_count_0 : decode cM_count 0 = .ok (.aload_n 0, 1) := by decide +kernel
theorem dM_count_1 : decode cM_count 1 = .ok (.iconst 0, 1) := by decide +kernel
theorem dM_count_2 : decode cM_count 2 = .ok (.putfield 65, 3) := by decide +kernel
theorem dM_count_5 : decode cM_count 5 = .ok (.iload_n 1, 1) := by decide +kernel
theorem dM_count_6 : decode cM_count 6 = .ok (.iconst 0, 1) := by decide +kernel
theorem dM_count_7 : decode cM_count 7 = .ok (.bipush 12, 2) := by decide +kernel
theorem dM_count_9 : decode cM_count 9 = .ok (.invokestatic 165, 3) := by decide +kernel
theorem dM_count_12 : decode cM_count 12 = .ok (.ifCond .ne 5, 3) := by decide +kernel
theorem dM_count_15 : decode cM_count 15 = .ok (.iconst (-1), 1) := by decide +kernel
theorem dM_count_16 : decode cM_count 16 = .ok (.ireturn, 1) := by decide +kernel
theorem dM_count_17 : decode cM_count 17 = .ok (.iload_n 1, 1) := by decide +kernel
theorem dM_count_18 : decode cM_count 18 = .ok (.bipush 11, 2) := by decide +kernel
theorem dM_count_20 : decode cM_count 20 = .ok (.if_icmp .ne 10, 3) := by decide +kernel
theorem dM_count_23 : decode cM_count 23 = .ok (.aload_n 0, 1) := by decide +kernel
theorem dM_count_24 : decode cM_count 24 = .ok (.invokevirtual 188, 3) := by decide +kernel
theorem dM_count_27 : decode cM_count 27 = .ok (.goto 24, 3) := by decide +kernel
theorem dM_count_30 : decode cM_count 30 = .ok (.iload_n 1, 1) := by decide +kernel
theorem dM_count_31 : decode cM_count 31 = .ok (.bipush 12, 2) := by decide +kernel
theorem dM_count_33 : decode cM_count 33 = .ok (.if_icmp .ne 12, 3) := by decide +kernel
theorem dM_count_36 : decode cM_count 36 = .ok (.aload_n 0, 1) := by decide +kernel
theorem dM_count_37 : decode cM_count 37 = .ok (.bipush 96, 2) := by decide +kernel
theorem dM_count_39 : decode cM_count 39 = .ok (.invokevirtual 122, 3) := by decide +kernel
theorem dM_count_42 : decode cM_count 42 = .ok (.goto 9, 3) := by decide +kernel
theorem dM_count_45 : decode cM_count 45 = .ok (.aload_n 0, 1) := by decide +kernel
theorem dM_count_46 : decode cM_count 46 = .ok (.getfield 62, 3) := by decide +kernel
theorem dM_count_49 : decode cM_count 49 = .ok (.iload_n 1, 1) := by decide +kernel
theorem dM_count_50 : decode cM_count 50 = .ok (.iaload, 1) := by decide +kernel
theorem dM_count_51 : decode cM_count 51 = .ok (.ireturn, 1) := by decide +kernel
