theorem dW_word_0 : decode cW_word 0 = .ok (.aload_n 3, 1) := by decide +kernel
theorem dW_word_1 : decode cW_word 1 = .ok (.iconst 0, 1) := by decide +kernel
theorem dW_word_2 : decode cW_word 2 = .ok (.aload_n 0, 1) := by decide +kernel
theorem dW_word_3 : decode cW_word 3 = .ok (.iload_n 1, 1) := by decide +kernel
theorem dW_word_4 : decode cW_word 4 = .ok (.iload_n 2, 1) := by decide +kernel
theorem dW_word_5 : decode cW_word 5 = .ok (.invokevirtual 7, 3) := by decide +kernel
theorem dW_word_8 : decode cW_word 8 = .ok (.i2l, 1) := by decide +kernel
theorem dW_word_9 : decode cW_word 9 = .ok (.lastore, 1) := by decide +kernel
theorem dW_word_10 : decode cW_word 10 = .ok (.goto 7, 3) := by decide +kernel
theorem dW_word_13 : decode cW_word 13 = .ok (.astore 4, 2) := by decide +kernel
theorem dW_word_15 : decode cW_word 15 = .ok (.iconst 1, 1) := by decide +kernel
theorem dW_word_16 : decode cW_word 16 = .ok (.ireturn, 1) := by decide +kernel
theorem dW_word_17 : decode cW_word 17 = .ok (.iconst 0, 1) := by decide +kernel
theorem dW_word_18 : decode cW_word 18 = .ok (.ireturn, 1) := by decide +kernel
theorem dW_put_0 : decode cW_put 0 = .ok (.aload_n 0, 1) := by decide +kernel
theorem dW_put_1 : decode cW_put 1 = .ok (.lload_n 1, 1) := by decide +kernel
theorem dW_put_2 : decode cW_put 2 = .ok (.iload_n 3, 1) := by decide +kernel
theorem dW_put_3 : decode cW_put 3 = .ok (.invokevirtual 15, 3) := by decide +kernel
theorem dW_put_6 : decode cW_put 6 = .ok (.goto 11, 3) := by decide +kernel
theorem dW_put_9 : decode cW_put 9 = .ok (.astore 4, 2) := by decide +kernel
theorem dW_put_11 : decode cW_put 11 = .ok (.iconst 1, 1) := by decide +kernel
theorem dW_put_12 : decode cW_put 12 = .ok (.ireturn, 1) := by decide +kernel
theorem dW_put_13 : decode cW_put 13 = .ok (.astore 4, 2) := by decide +kernel
theorem dW_put_15 : decode cW_put 15 = .ok (.iconst 2, 1) := by decide +kernel
theorem dW_put_16 : decode cW_put 16 = .ok (.ireturn, 1) := by decide +kernel
theorem dW_put_17 : decode cW_put 17 = .ok (.iconst 0, 1) := by decide +kernel
theorem dW_put_18 : decode cW_put 18 = .ok (.ireturn, 1) := by decide +kernel
theorem dW_get_0 : decode cW_get 0 = .ok (.aload_n 3, 1) := by decide +kernel
theorem dW_get_1 : decode cW_get 1 = .ok (.iconst 0, 1) := by decide +kernel
theorem dW_get_2 : decode cW_get 2 = .ok (.aload_n 0, 1) := by decide +kernel
theorem dW_get_3 : decode cW_get 3 = .ok (.lload_n 1, 1) := by decide +kernel
theorem dW_get_4 : decode cW_get 4 = .ok (.invokevirtual 23, 3) := by decide +kernel
theorem dW_get_7 : decode cW_get 7 = .ok (.i2l, 1) := by decide +kernel
theorem dW_get_8 : decode cW_get 8 = .ok (.lastore, 1) := by decide +kernel
theorem dW_get_9 : decode cW_get 9 = .ok (.goto 7, 3) := by decide +kernel
theorem dW_get_12 : decode cW_get 12 = .ok (.astore 4, 2) := by decide +kernel
theorem dW_get_14 : decode cW_get 14 = .ok (.iconst 1, 1) := by decide +kernel
theorem dW_get_15 : decode cW_get 15 = .ok (.ireturn, 1) := by decide +kernel
theorem dW_get_16 : decode cW_get 16 = .ok (.iconst 0, 1) := by decide +kernel
theorem dW_get_17 : decode cW_get 17 = .ok (.ireturn, 1) := by decide +kernel
theorem dW_got_0 : decode cW_got 0 = .ok (.aload_n 2, 1) := by decide +kernel
theorem dW_got_1 : decode cW_got 1 = .ok (.iconst 0, 1) := by decide +kernel
theorem dW_got_2 : decode cW_got 2 = .ok (.aload_n 0, 1) := by decide +kernel
theorem dW_got_3 : decode cW_got 3 = .ok (.iload_n 1, 1) := by decide +kernel
theorem dW_got_4 : decode cW_got 4 = .ok (.invokevirtual 27, 3) := by decide +kernel
theorem dW_got_7 : decode cW_got 7 = .ok (.i2l, 1) := by decide +kernel
theorem dW_got_8 : decode cW_got 8 = .ok (.lastore, 1) := by decide +kernel
theorem dW_got_9 : decode cW_got 9 = .ok (.goto 6, 3) := by decide +kernel
theorem dW_got_12 : decode cW_got 12 = .ok (.astore_n 3, 1) := by decide +kernel
theorem dW_got_13 : decode cW_got 13 = .ok (.iconst 1, 1) := by decide +kernel
theorem dW_got_14 : decode cW_got 14 = .ok (.ireturn, 1) := by decide +kernel
theorem dW_got_15 : decode cW_got 15 = .ok (.iconst 0, 1) := by decide +kernel
theorem dW_got_16 : decode cW_got 16 = .ok (.ireturn, 1) := by decide +kernel
theorem dW_delete_0 : decode cW_delete 0 = .ok (.aload_n 3, 1) := by decide +kernel
theorem dW_delete_1 : decode cW_delete 1 = .ok (.iconst 0, 1) := by decide +kernel
theorem dW_delete_2 : decode cW_delete 2 = .ok (.aload_n 0, 1) := by decide +kernel
theorem dW_delete_3 : decode cW_delete 3 = .ok (.lload_n 1, 1) := by decide +kernel
theorem dW_delete_4 : decode cW_delete 4 = .ok (.invokevirtual 31, 3) := by decide +kernel
theorem dW_delete_7 : decode cW_delete 7 = .ok (.ifCond .eq 7, 3) := by decide +kernel
theorem dW_delete_10 : decode cW_delete 10 = .ok (.lconst 1, 1) := by decide +kernel
theorem dW_delete_11 : decode cW_delete 11 = .ok (.goto 4, 3) := by decide +kernel
theorem dW_delete_14 : decode cW_delete 14 = .ok (.lconst 0, 1) := by decide +kernel
theorem dW_delete_15 : decode cW_delete 15 = .ok (.lastore, 1) := by decide +kernel
theorem dW_delete_16 : decode cW_delete 16 = .ok (.goto 7, 3) := by decide +kernel
theorem dW_delete_19 : decode cW_delete 19 = .ok (.astore 4, 2) := by decide +kernel
theorem dW_delete_21 : decode cW_delete 21 = .ok (.iconst 1, 1) := by decide +kernel
theorem dW_delete_22 : decode cW_delete 22 = .ok (.ireturn, 1) := by decide +kernel
theorem dW_delete_23 : decode cW_delete 23 = .ok (.iconst 0, 1) := by decide +kernel
theorem dW_delete_24 : decode cW_delete 24 = .ok (.ireturn, 1) := by decide +kernel
theorem dW_where_0 : decode cW_where 0 = .ok (.aload_n 3, 1) := by decide +kernel
theorem dW_where_1 : decode cW_where 1 = .ok (.iconst 0, 1) := by decide +kernel
theorem dW_where_2 : decode cW_where 2 = .ok (.aload_n 0, 1) := by decide +kernel
theorem dW_where_3 : decode cW_where 3 = .ok (.lload_n 1, 1) := by decide +kernel
theorem dW_where_4 : decode cW_where 4 = .ok (.invokevirtual 35, 3) := by decide +kernel
theorem dW_where_7 : decode cW_where 7 = .ok (.i2l, 1) := by decide +kernel
theorem dW_where_8 : decode cW_where 8 = .ok (.lastore, 1) := by decide +kernel
theorem dW_where_9 : decode cW_where 9 = .ok (.goto 7, 3) := by decide +kernel
theorem dW_where_12 : decode cW_where 12 = .ok (.astore 4, 2) := by decide +kernel
theorem dW_where_14 : decode cW_where 14 = .ok (.iconst 1, 1) := by decide +kernel
theorem dW_where_15 : decode cW_where 15 = .ok (.ireturn, 1) := by decide +kernel
theorem dW_where_16 : decode cW_where 16 = .ok (.iconst 0, 1) := by decide +kernel
theorem dW_where_17 : decode cW_where 17 = .ok (.ireturn, 1) := by decide +kernel
theorem dW_flash_0 : decode cW_flash 0 = .ok (.aload_n 3, 1) := by decide +kernel
theorem dW_flash_1 : decode cW_flash 1 = .ok (.iconst 0, 1) := by decide +kernel
theorem dW_flash_2 : decode cW_flash 2 = .ok (.aload_n 0, 1) := by decide +kernel
theorem dW_flash_3 : decode cW_flash 3 = .ok (.iload_n 1, 1) := by decide +kernel
theorem dW_flash_4 : decode cW_flash 4 = .ok (.iload_n 2, 1) := by decide +kernel
theorem dW_flash_5 : decode cW_flash 5 = .ok (.invokevirtual 38, 3) := by decide +kernel
theorem dW_flash_8 : decode cW_flash 8 = .ok (.i2l, 1) := by decide +kernel
theorem dW_flash_9 : decode cW_flash 9 = .ok (.lastore, 1) := by decide +kernel
theorem dW_flash_10 : decode cW_flash 10 = .ok (.goto 7, 3) := by decide +kernel
theorem dW_flash_13 : decode cW_flash 13 = .ok (.astore 4, 2) := by decide +kernel
theorem dW_flash_15 : decode cW_flash 15 = .ok (.iconst 1, 1) := by decide +kernel
theorem dW_flash_16 : decode cW_flash 16 = .ok (.ireturn, 1) := by decide +kernel
theorem dW_flash_17 : decode cW_flash 17 = .ok (.iconst 0, 1) := by decide +kernel
theorem dW_flash_18 : decode cW_flash 18 = .ok (.ireturn, 1) := by decide +kernel
theorem dW_close_0 : decode cW_close 0 = .ok (.aload_n 0, 1) := by decide +kernel
theorem dW_close_1 : decode cW_close 1 = .ok (.invokevirtual 41, 3) := by decide +kernel
theorem dW_close_4 : decode cW_close 4 = .ok (.goto 6, 3) := by decide +kernel
theorem dW_close_7 : decode cW_close 7 = .ok (.astore_n 1, 1) := by decide +kernel
theorem dW_close_8 : decode cW_close 8 = .ok (.iconst 1, 1) := by decide +kernel
theorem dW_close_9 : decode cW_close 9 = .ok (.ireturn, 1) := by decide +kernel
theorem dW_close_10 : decode cW_close 10 = .ok (.iconst 0, 1) := by decide +kernel
theorem dW_close_11 : decode cW_close 11 = .ok (.ireturn, 1) := by decide +kernel
theorem dW_crash_0 : decode cW_crash 0 = .ok (.aload_n 0, 1) := by decide +kernel
theorem dW_crash_1 : decode cW_crash 1 = .ok (.invokevirtual 44, 3) := by decide +kernel
theorem dW_crash_4 : decode cW_crash 4 = .ok (.goto 6, 3) := by decide +kernel
theorem dW_crash_7 : decode cW_crash 7 = .ok (.astore_n 1, 1) := by decide +kernel
theorem dW_crash_8 : decode cW_crash 8 = .ok (.iconst 1, 1) := by decide +kernel
theorem dW_crash_9 : decode cW_crash 9 = .ok (.ireturn, 1) := by decide +kernel
theorem dW_crash_10 : decode cW_crash 10 = .ok (.iconst 0, 1) := by decide +kernel
theorem dW_crash_11 : decode cW_crash 11 = .ok (.ireturn, 1) := by decide +kernel
theorem dW_open_0 : decode cW_open 0 = .ok (.aload_n 1, 1) := by decide +kernel
theorem dW_open_1 : decode cW_open 1 = .ok (.iconst 0, 1) := by decide +kernel
theorem dW_open_2 : decode cW_open 2 = .ok (.aload_n 0, 1) := by decide +kernel
theorem dW_open_3 : decode cW_open 3 = .ok (.invokevirtual 47, 3) := by decide +kernel
theorem dW_open_6 : decode cW_open 6 = .ok (.i2l, 1) := by decide +kernel
theorem dW_open_7 : decode cW_open 7 = .ok (.lastore, 1) := by decide +kernel
theorem dW_open_8 : decode cW_open 8 = .ok (.goto 6, 3) := by decide +kernel
theorem dW_open_11 : decode cW_open 11 = .ok (.astore_n 2, 1) := by decide +kernel
theorem dW_open_12 : decode cW_open 12 = .ok (.iconst 1, 1) := by decide +kernel
theorem dW_open_13 : decode cW_open 13 = .ok (.ireturn, 1) := by decide +kernel
theorem dW_open_14 : decode cW_open 14 = .ok (.iconst 0, 1) := by decide +kernel
theorem dW_open_15 : decode cW_open 15 = .ok (.ireturn, 1) := by decide +kernel
theorem dW_law_0 : decode cW_law 0 = .ok (.new 8, 3) := by decide +kernel
theorem dW_law_3 : decode cW_law 3 = .ok (.dup, 1) := by decide +kernel
theorem dW_law_4 : decode cW_law 4 = .ok (.invokespecial 51, 3) := by decide +kernel
theorem dW_law_7 : decode cW_law 7 = .ok (.astore_n 1, 1) := by decide +kernel
theorem dW_law_8 : decode cW_law 8 = .ok (.new 52, 3) := by decide +kernel
theorem dW_law_11 : decode cW_law 11 = .ok (.dup, 1) := by decide +kernel
theorem dW_law_12 : decode cW_law 12 = .ok (.invokespecial 54, 3) := by decide +kernel
theorem dW_law_15 : decode cW_law 15 = .ok (.astore_n 2, 1) := by decide +kernel
theorem dW_law_16 : decode cW_law 16 = .ok (.iconst 1, 1) := by decide +kernel
theorem dW_law_17 : decode cW_law 17 = .ok (.newarray .long, 2) := by decide +kernel
theorem dW_law_19 : decode cW_law 19 = .ok (.astore_n 3, 1) := by decide +kernel
theorem dW_law_20 : decode cW_law 20 = .ok (.iconst 0, 1) := by decide +kernel
theorem dW_law_21 : decode cW_law 21 = .ok (.istore 4, 2) := by decide +kernel
theorem dW_law_23 : decode cW_law 23 = .ok (.iload 4, 2) := by decide +kernel
theorem dW_law_25 : decode cW_law 25 = .ok (.aload_n 0, 1) := by decide +kernel
theorem dW_law_26 : decode cW_law 26 = .ok (.arraylength, 1) := by decide +kernel
theorem dW_law_27 : decode cW_law 27 = .ok (.iconst 4, 1) := by decide +kernel
theorem dW_law_28 : decode cW_law 28 = .ok (.isub, 1) := by decide +kernel
theorem dW_law_29 : decode cW_law 29 = .ok (.if_icmp .gt 794, 3) := by decide +kernel
theorem dW_law_32 : decode cW_law 32 = .ok (.aload_n 0, 1) := by decide +kernel
theorem dW_law_33 : decode cW_law 33 = .ok (.iload 4, 2) := by decide +kernel
theorem dW_law_35 : decode cW_law 35 = .ok (.iaload, 1) := by decide +kernel
theorem dW_law_36 : decode cW_law 36 = .ok (.bipush 15, 2) := by decide +kernel
theorem dW_law_38 : decode cW_law 38 = .ok (.iand, 1) := by decide +kernel
theorem dW_law_39 : decode cW_law 39 = .ok (.tableswitch 778 0 11 #[61, 129, 209, 297, 353, 448, 505, 593, 661, 685, 709, 753], 61) := by decide +kernel
theorem dW_law_100 : decode cW_law 100 = .ok (.aload_n 1, 1) := by decide +kernel
theorem dW_law_101 : decode cW_law 101 = .ok (.aload_n 0, 1) := by decide +kernel
theorem dW_law_102 : decode cW_law 102 = .ok (.iload 4, 2) := by decide +kernel
theorem dW_law_104 : decode cW_law 104 = .ok (.iconst 1, 1) := by decide +kernel
theorem dW_law_105 : decode cW_law 105 = .ok (.iadd, 1) := by decide +kernel
theorem dW_law_106 : decode cW_law 106 = .ok (.iaload, 1) := by decide +kernel
theorem dW_law_107 : decode cW_law 107 = .ok (.aload_n 0, 1) := by decide +kernel
theorem dW_law_108 : decode cW_law 108 = .ok (.iload 4, 2) := by decide +kernel
theorem dW_law_110 : decode cW_law 110 = .ok (.iconst 2, 1) := by decide +kernel
theorem dW_law_111 : decode cW_law 111 = .ok (.iadd, 1) := by decide +kernel
theorem dW_law_112 : decode cW_law 112 = .ok (.iaload, 1) := by decide +kernel
theorem dW_law_113 : decode cW_law 113 = .ok (.aload_n 3, 1) := by decide +kernel
theorem dW_law_114 : decode cW_law 114 = .ok (.invokestatic 55, 3) := by decide +kernel
theorem dW_law_117 : decode cW_law 117 = .ok (.istore 5, 2) := by decide +kernel
theorem dW_law_119 : decode cW_law 119 = .ok (.aload_n 2, 1) := by decide +kernel
theorem dW_law_120 : decode cW_law 120 = .ok (.aload_n 0, 1) := by decide +kernel
theorem dW_law_121 : decode cW_law 121 = .ok (.iload 4, 2) := by decide +kernel
theorem dW_law_123 : decode cW_law 123 = .ok (.iconst 1, 1) := by decide +kernel
theorem dW_law_124 : decode cW_law 124 = .ok (.iadd, 1) := by decide +kernel
theorem dW_law_125 : decode cW_law 125 = .ok (.iaload, 1) := by decide +kernel
theorem dW_law_126 : decode cW_law 126 = .ok (.aload_n 0, 1) := by decide +kernel
theorem dW_law_127 : decode cW_law 127 = .ok (.iload 4, 2) := by decide +kernel
theorem dW_law_129 : decode cW_law 129 = .ok (.iconst 2, 1) := by decide +kernel
theorem dW_law_130 : decode cW_law 130 = .ok (.iadd, 1) := by decide +kernel
theorem dW_law_131 : decode cW_law 131 = .ok (.iaload, 1) := by decide +kernel
theorem dW_law_132 : decode cW_law 132 = .ok (.invokevirtual 60, 3) := by decide +kernel
theorem dW_law_135 : decode cW_law 135 = .ok (.istore 6, 2) := by decide +kernel
theorem dW_law_137 : decode cW_law 137 = .ok (.aload_n 2, 1) := by decide +kernel
theorem dW_law_138 : decode cW_law 138 = .ok (.invokevirtual 61, 3) := by decide +kernel
theorem dW_law_141 : decode cW_law 141 = .ok (.iload 5, 2) := by decide +kernel
theorem dW_law_143 : decode cW_law 143 = .ok (.if_icmp .eq 5, 3) := by decide +kernel
theorem dW_law_146 : decode cW_law 146 = .ok (.iconst 0, 1) := by decide +kernel
theorem dW_law_147 : decode cW_law 147 = .ok (.ireturn, 1) := by decide +kernel
theorem dW_law_148 : decode cW_law 148 = .ok (.iload 5, 2) := by decide +kernel
theorem dW_law_150 : decode cW_law 150 = .ok (.ifCond .ne 15, 3) := by decide +kernel
theorem dW_law_153 : decode cW_law 153 = .ok (.aload_n 3, 1) := by decide +kernel
theorem dW_law_154 : decode cW_law 154 = .ok (.iconst 0, 1) := by decide +kernel
theorem dW_law_155 : decode cW_law 155 = .ok (.laload, 1) := by decide +kernel
theorem dW_law_156 : decode cW_law 156 = .ok (.iload 6, 2) := by decide +kernel
theorem dW_law_158 : decode cW_law 158 = .ok (.i2l, 1) := by decide +kernel
theorem dW_law_159 : decode cW_law 159 = .ok (.lcmp, 1) := by decide +kernel
theorem dW_law_160 : decode cW_law 160 = .ok (.ifCond .eq 5, 3) := by decide +kernel
theorem dW_law_163 : decode cW_law 163 = .ok (.iconst 0, 1) := by decide +kernel
theorem dW_law_164 : decode cW_law 164 = .ok (.ireturn, 1) := by decide +kernel
theorem dW_law_165 : decode cW_law 165 = .ok (.goto 652, 3) := by decide +kernel
theorem dW_law_168 : decode cW_law 168 = .ok (.aload_n 1, 1) := by decide +kernel
theorem dW_law_169 : decode cW_law 169 = .ok (.aload_n 0, 1) := by decide +kernel
theorem dW_law_170 : decode cW_law 170 = .ok (.iload 4, 2) := by decide +kernel
theorem dW_law_172 : decode cW_law 172 = .ok (.iconst 1, 1) := by decide +kernel
theorem dW_law_173 : decode cW_law 173 = .ok (.iadd, 1) := by decide +kernel
theorem dW_law_174 : decode cW_law 174 = .ok (.iaload, 1) := by decide +kernel
theorem dW_law_175 : decode cW_law 175 = .ok (.i2l, 1) := by decide +kernel
theorem dW_law_176 : decode cW_law 176 = .ok (.bipush 32, 2) := by decide +kernel
theorem dW_law_178 : decode cW_law 178 = .ok (.lshl, 1) := by decide +kernel
theorem dW_law_179 : decode cW_law 179 = .ok (.aload_n 0, 1) := by decide +kernel
theorem dW_law_180 : decode cW_law 180 = .ok (.iload 4, 2) := by decide +kernel
theorem dW_law_182 : decode cW_law 182 = .ok (.iconst 2, 1) := by decide +kernel
theorem dW_law_183 : decode cW_law 183 = .ok (.iadd, 1) := by decide +kernel
theorem dW_law_184 : decode cW_law 184 = .ok (.iaload, 1) := by decide +kernel
theorem dW_law_185 : decode cW_law 185 = .ok (.i2l, 1) := by decide +kernel
theorem dW_law_186 : decode cW_law 186 = .ok (.ldc2_w 64, 3) := by decide +kernel
theorem dW_law_189 : decode cW_law 189 = .ok (.land, 1) := by decide +kernel
theorem dW_law_190 : decode cW_law 190 = .ok (.lor, 1) := by decide +kernel
theorem dW_law_191 : decode cW_law 191 = .ok (.aload_n 0, 1) := by decide +kernel
theorem dW_law_192 : decode cW_law 192 = .ok (.iload 4, 2) := by decide +kernel
theorem dW_law_194 : decode cW_law 194 = .ok (.iconst 3, 1) := by decide +kernel
theorem dW_law_195 : decode cW_law 195 = .ok (.iadd, 1) := by decide +kernel
theorem dW_law_196 : decode cW_law 196 = .ok (.iaload, 1) := by decide +kernel
theorem dW_law_197 : decode cW_law 197 = .ok (.invokestatic 66, 3) := by decide +kernel
theorem dW_law_200 : decode cW_law 200 = .ok (.istore 5, 2) := by decide +kernel
theorem dW_law_202 : decode cW_law 202 = .ok (.aload_n 2, 1) := by decide +kernel
theorem dW_law_203 : decode cW_law 203 = .ok (.aload_n 0, 1) := by decide +kernel
theorem dW_law_204 : decode cW_law 204 = .ok (.iload 4, 2) := by decide +kernel
theorem dW_law_206 : decode cW_law 206 = .ok (.iconst 1, 1) := by decide +kernel
theorem dW_law_207 : decode cW_law 207 = .ok (.iadd, 1) := by decide +kernel
theorem dW_law_208 : decode cW_law 208 = .ok (.iaload, 1) := by decide +kernel
theorem dW_law_209 : decode cW_law 209 = .ok (.i2l, 1) := by decide +kernel
theorem dW_law_210 : decode cW_law 210 = .ok (.bipush 32, 2) := by decide +kernel
theorem dW_law_212 : decode cW_law 212 = .ok (.lshl, 1) := by decide +kernel
theorem dW_law_213 : decode cW_law 213 = .ok (.aload_n 0, 1) := by decide +kernel
theorem dW_law_214 : decode cW_law 214 = .ok (.iload 4, 2) := by decide +kernel
theorem dW_law_216 : decode cW_law 216 = .ok (.iconst 2, 1) := by decide +kernel
theorem dW_law_217 : decode cW_law 217 = .ok (.iadd, 1) := by decide +kernel
theorem dW_law_218 : decode cW_law 218 = .ok (.iaload, 1) := by decide +kernel
theorem dW_law_219 : decode cW_law 219 = .ok (.i2l, 1) := by decide +kernel
theorem dW_law_220 : decode cW_law 220 = .ok (.ldc2_w 64, 3) := by decide +kernel
theorem dW_law_223 : decode cW_law 223 = .ok (.land, 1) := by decide +kernel
theorem dW_law_224 : decode cW_law 224 = .ok (.lor, 1) := by decide +kernel
theorem dW_law_225 : decode cW_law 225 = .ok (.aload_n 0, 1) := by decide +kernel
theorem dW_law_226 : decode cW_law 226 = .ok (.iload 4, 2) := by decide +kernel
theorem dW_law_228 : decode cW_law 228 = .ok (.iconst 3, 1) := by decide +kernel
theorem dW_law_229 : decode cW_law 229 = .ok (.iadd, 1) := by decide +kernel
theorem dW_law_230 : decode cW_law 230 = .ok (.iaload, 1) := by decide +kernel
theorem dW_law_231 : decode cW_law 231 = .ok (.invokevirtual 69, 3) := by decide +kernel
theorem dW_law_234 : decode cW_law 234 = .ok (.aload_n 2, 1) := by decide +kernel
theorem dW_law_235 : decode cW_law 235 = .ok (.invokevirtual 61, 3) := by decide +kernel
theorem dW_law_238 : decode cW_law 238 = .ok (.iload 5, 2) := by decide +kernel
theorem dW_law_240 : decode cW_law 240 = .ok (.if_icmp .eq 5, 3) := by decide +kernel
theorem dW_law_243 : decode cW_law 243 = .ok (.iconst 0, 1) := by decide +kernel
theorem dW_law_244 : decode cW_law 244 = .ok (.ireturn, 1) := by decide +kernel
theorem dW_law_245 : decode cW_law 245 = .ok (.goto 572, 3) := by decide +kernel
theorem dW_law_248 : decode cW_law 248 = .ok (.aload_n 1, 1) := by decide +kernel
theorem dW_law_249 : decode cW_law 249 = .ok (.aload_n 0, 1) := by decide +kernel
theorem dW_law_250 : decode cW_law 250 = .ok (.iload 4, 2) := by decide +kernel
theorem dW_law_252 : decode cW_law 252 = .ok (.iconst 1, 1) := by decide +kernel
theorem dW_law_253 : decode cW_law 253 = .ok (.iadd, 1) := by decide +kernel
theorem dW_law_254 : decode cW_law 254 = .ok (.iaload, 1) := by decide +kernel
theorem dW_law_255 : decode cW_law 255 = .ok (.i2l, 1) := by decide +kernel
theorem dW_law_256 : decode cW_law 256 = .ok (.bipush 32, 2) := by decide +kernel
theorem dW_law_258 : decode cW_law 258 = .ok (.lshl, 1) := by decide +kernel
theorem dW_law_259 : decode cW_law 259 = .ok (.aload_n 0, 1) := by decide +kernel
theorem dW_law_260 : decode cW_law 260 = .ok (.iload 4, 2) := by decide +kernel
theorem dW_law_262 : decode cW_law 262 = .ok (.iconst 2, 1) := by decide +kernel
theorem dW_law_263 : decode cW_law 263 = .ok (.iadd, 1) := by decide +kernel
theorem dW_law_264 : decode cW_law 264 = .ok (.iaload, 1) := by decide +kernel
theorem dW_law_265 : decode cW_law 265 = .ok (.i2l, 1) := by decide +kernel
theorem dW_law_266 : decode cW_law 266 = .ok (.ldc2_w 64, 3) := by decide +kernel
theorem dW_law_269 : decode cW_law 269 = .ok (.land, 1) := by decide +kernel
theorem dW_law_270 : decode cW_law 270 = .ok (.lor, 1) := by decide +kernel
theorem dW_law_271 : decode cW_law 271 = .ok (.aload_n 3, 1) := by decide +kernel
theorem dW_law_272 : decode cW_law 272 = .ok (.invokestatic 70, 3) := by decide +kernel
theorem dW_law_275 : decode cW_law 275 = .ok (.istore 5, 2) := by decide +kernel
theorem dW_law_277 : decode cW_law 277 = .ok (.aload_n 2, 1) := by decide +kernel
theorem dW_law_278 : decode cW_law 278 = .ok (.aload_n 0, 1) := by decide +kernel
theorem dW_law_279 : decode cW_law 279 = .ok (.iload 4, 2) := by decide +kernel
theorem dW_law_281 : decode cW_law 281 = .ok (.iconst 1, 1) := by decide +kernel
theorem dW_law_282 : decode cW_law 282 = .ok (.iadd, 1) := by decide +kernel
theorem dW_law_283 : decode cW_law 283 = .ok (.iaload, 1) := by decide +kernel
theorem dW_law_284 : decode cW_law 284 = .ok (.i2l, 1) := by decide +kernel
theorem dW_law_285 : decode cW_law 285 = .ok (.bipush 32, 2) := by decide +kernel
theorem dW_law_287 : decode cW_law 287 = .ok (.lshl, 1) := by decide +kernel
theorem dW_law_288 : decode cW_law 288 = .ok (.aload_n 0, 1) := by decide +kernel
theorem dW_law_289 : decode cW_law 289 = .ok (.iload 4, 2) := by decide +kernel
theorem dW_law_291 : decode cW_law 291 = .ok (.iconst 2, 1) := by decide +kernel
theorem dW_law_292 : decode cW_law 292 = .ok (.iadd, 1) := by decide +kernel
theorem dW_law_293 : decode cW_law 293 = .ok (.iaload, 1) := by decide +kernel
theorem dW_law_294 : decode cW_law 294 = .ok (.i2l, 1) := by decide +kernel
theorem dW_law_295 : decode cW_law 295 = .ok (.ldc2_w 64, 3) := by decide +kernel
theorem dW_law_298 : decode cW_law 298 = .ok (.land, 1) := by decide +kernel
theorem dW_law_299 : decode cW_law 299 = .ok (.lor, 1) := by decide +kernel
theorem dW_law_300 : decode cW_law 300 = .ok (.invokevirtual 73, 3) := by decide +kernel
theorem dW_law_303 : decode cW_law 303 = .ok (.istore 6, 2) := by decide +kernel
theorem dW_law_305 : decode cW_law 305 = .ok (.aload_n 2, 1) := by decide +kernel
theorem dW_law_306 : decode cW_law 306 = .ok (.invokevirtual 61, 3) := by decide +kernel
theorem dW_law_309 : decode cW_law 309 = .ok (.iload 5, 2) := by decide +kernel
theorem dW_law_311 : decode cW_law 311 = .ok (.if_icmp .eq 5, 3) := by decide +kernel
theorem dW_law_314 : decode cW_law 314 = .ok (.iconst 0, 1) := by decide +kernel
theorem dW_law_315 : decode cW_law 315 = .ok (.ireturn, 1) := by decide +kernel
theorem dW_law_316 : decode cW_law 316 = .ok (.iload 5, 2) := by decide +kernel
theorem dW_law_318 : decode cW_law 318 = .ok (.ifCond .ne 15, 3) := by decide +kernel
theorem dW_law_321 : decode cW_law 321 = .ok (.aload_n 3, 1) := by decide +kernel
theorem dW_law_322 : decode cW_law 322 = .ok (.iconst 0, 1) := by decide +kernel
theorem dW_law_323 : decode cW_law 323 = .ok (.laload, 1) := by decide +kernel
theorem dW_law_324 : decode cW_law 324 = .ok (.iload 6, 2) := by decide +kernel
theorem dW_law_326 : decode cW_law 326 = .ok (.i2l, 1) := by decide +kernel
theorem dW_law_327 : decode cW_law 327 = .ok (.lcmp, 1) := by decide +kernel
theorem dW_law_328 : decode cW_law 328 = .ok (.ifCond .eq 5, 3) := by decide +kernel
theorem dW_law_331 : decode cW_law 331 = .ok (.iconst 0, 1) := by decide +kernel
theorem dW_law_332 : decode cW_law 332 = .ok (.ireturn, 1) := by decide +kernel
theorem dW_law_333 : decode cW_law 333 = .ok (.goto 484, 3) := by decide +kernel
theorem dW_law_336 : decode cW_law 336 = .ok (.aload_n 1, 1) := by decide +kernel
theorem dW_law_337 : decode cW_law 337 = .ok (.aload_n 0, 1) := by decide +kernel
theorem dW_law_338 : decode cW_law 338 = .ok (.iload 4, 2) := by decide +kernel
theorem dW_law_340 : decode cW_law 340 = .ok (.iconst 1, 1) := by decide +kernel
theorem dW_law_341 : decode cW_law 341 = .ok (.iadd, 1) := by decide +kernel
theorem dW_law_342 : decode cW_law 342 = .ok (.iaload, 1) := by decide +kernel
theorem dW_law_343 : decode cW_law 343 = .ok (.aload_n 3, 1) := by decide +kernel
theorem dW_law_344 : decode cW_law 344 = .ok (.invokestatic 74, 3) := by decide +kernel
theorem dW_law_347 : decode cW_law 347 = .ok (.istore 5, 2) := by decide +kernel
theorem dW_law_349 : decode cW_law 349 = .ok (.aload_n 2, 1) := by decide +kernel
theorem dW_law_350 : decode cW_law 350 = .ok (.aload_n 0, 1) := by decide +kernel
theorem dW_law_351 : decode cW_law 351 = .ok (.iload 4, 2) := by decide +kernel
theorem dW_law_353 : decode cW_law 353 = .ok (.iconst 1, 1) := by decide +kernel
theorem dW_law_354 : decode cW_law 354 = .ok (.iadd, 1) := by decide +kernel
theorem dW_law_355 : decode cW_law 355 = .ok (.iaload, 1) := by decide +kernel
theorem dW_law_356 : decode cW_law 356 = .ok (.invokevirtual 77, 3) := by decide +kernel
theorem dW_law_359 : decode cW_law 359 = .ok (.istore 6, 2) := by decide +kernel
theorem dW_law_361 : decode cW_law 361 = .ok (.aload_n 2, 1) := by decide +kernel
theorem dW_law_362 : decode cW_law 362 = .ok (.invokevirtual 61, 3) := by decide +kernel
theorem dW_law_365 : decode cW_law 365 = .ok (.iload 5, 2) := by decide +kernel
theorem dW_law_367 : decode cW_law 367 = .ok (.if_icmp .eq 5, 3) := by decide +kernel
theorem dW_law_370 : decode cW_law 370 = .ok (.iconst 0, 1) := by decide +kernel
theorem dW_law_371 : decode cW_law 371 = .ok (.ireturn, 1) := by decide +kernel
theorem dW_law_372 : decode cW_law 372 = .ok (.iload 5, 2) := by decide +kernel
theorem dW_law_374 : decode cW_law 374 = .ok (.ifCond .ne 15, 3) := by decide +kernel
theorem dW_law_377 : decode cW_law 377 = .ok (.aload_n 3, 1) := by decide +kernel
theorem dW_law_378 : decode cW_law 378 = .ok (.iconst 0, 1) := by decide +kernel
theorem dW_law_379 : decode cW_law 379 = .ok (.laload, 1) := by decide +kernel
theorem dW_law_380 : decode cW_law 380 = .ok (.iload 6, 2) := by decide +kernel
theorem dW_law_382 : decode cW_law 382 = .ok (.i2l, 1) := by decide +kernel
theorem dW_law_383 : decode cW_law 383 = .ok (.lcmp, 1) := by decide +kernel
theorem dW_law_384 : decode cW_law 384 = .ok (.ifCond .eq 5, 3) := by decide +kernel
theorem dW_law_387 : decode cW_law 387 = .ok (.iconst 0, 1) := by decide +kernel
theorem dW_law_388 : decode cW_law 388 = .ok (.ireturn, 1) := by decide +kernel
theorem dW_law_389 : decode cW_law 389 = .ok (.goto 428, 3) := by decide +kernel
theorem dW_law_392 : decode cW_law 392 = .ok (.aload_n 1, 1) := by decide +kernel
theorem dW_law_393 : decode cW_law 393 = .ok (.aload_n 0, 1) := by decide +kernel
theorem dW_law_394 : decode cW_law 394 = .ok (.iload 4, 2) := by decide +kernel
theorem dW_law_396 : decode cW_law 396 = .ok (.iconst 1, 1) := by decide +kernel
theorem dW_law_397 : decode cW_law 397 = .ok (.iadd, 1) := by decide +kernel
theorem dW_law_398 : decode cW_law 398 = .ok (.iaload, 1) := by decide +kernel
theorem dW_law_399 : decode cW_law 399 = .ok (.i2l, 1) := by decide +kernel
theorem dW_law_400 : decode cW_law 400 = .ok (.bipush 32, 2) := by decide +kernel
theorem dW_law_402 : decode cW_law 402 = .ok (.lshl, 1) := by decide +kernel
theorem dW_law_403 : decode cW_law 403 = .ok (.aload_n 0, 1) := by decide +kernel
theorem dW_law_404 : decode cW_law 404 = .ok (.iload 4, 2) := by decide +kernel
theorem dW_law_406 : decode cW_law 406 = .ok (.iconst 2, 1) := by decide +kernel
theorem dW_law_407 : decode cW_law 407 = .ok (.iadd, 1) := by decide +kernel
theorem dW_law_408 : decode cW_law 408 = .ok (.iaload, 1) := by decide +kernel
theorem dW_law_409 : decode cW_law 409 = .ok (.i2l, 1) := by decide +kernel
theorem dW_law_410 : decode cW_law 410 = .ok (.ldc2_w 64, 3) := by decide +kernel
theorem dW_law_413 : decode cW_law 413 = .ok (.land, 1) := by decide +kernel
theorem dW_law_414 : decode cW_law 414 = .ok (.lor, 1) := by decide +kernel
theorem dW_law_415 : decode cW_law 415 = .ok (.aload_n 3, 1) := by decide +kernel
theorem dW_law_416 : decode cW_law 416 = .ok (.invokestatic 78, 3) := by decide +kernel
theorem dW_law_419 : decode cW_law 419 = .ok (.istore 5, 2) := by decide +kernel
theorem dW_law_421 : decode cW_law 421 = .ok (.aload_n 2, 1) := by decide +kernel
theorem dW_law_422 : decode cW_law 422 = .ok (.aload_n 0, 1) := by decide +kernel
theorem dW_law_423 : decode cW_law 423 = .ok (.iload 4, 2) := by decide +kernel
theorem dW_law_425 : decode cW_law 425 = .ok (.iconst 1, 1) := by decide +kernel
theorem dW_law_426 : decode cW_law 426 = .ok (.iadd, 1) := by decide +kernel
theorem dW_law_427 : decode cW_law 427 = .ok (.iaload, 1) := by decide +kernel
theorem dW_law_428 : decode cW_law 428 = .ok (.i2l, 1) := by decide +kernel
theorem dW_law_429 : decode cW_law 429 = .ok (.bipush 32, 2) := by decide +kernel
theorem dW_law_431 : decode cW_law 431 = .ok (.lshl, 1) := by decide +kernel
theorem dW_law_432 : decode cW_law 432 = .ok (.aload_n 0, 1) := by decide +kernel
theorem dW_law_433 : decode cW_law 433 = .ok (.iload 4, 2) := by decide +kernel
theorem dW_law_435 : decode cW_law 435 = .ok (.iconst 2, 1) := by decide +kernel
theorem dW_law_436 : decode cW_law 436 = .ok (.iadd, 1) := by decide +kernel
theorem dW_law_437 : decode cW_law 437 = .ok (.iaload, 1) := by decide +kernel
theorem dW_law_438 : decode cW_law 438 = .ok (.i2l, 1) := by decide +kernel
theorem dW_law_439 : decode cW_law 439 = .ok (.ldc2_w 64, 3) := by decide +kernel
theorem dW_law_442 : decode cW_law 442 = .ok (.land, 1) := by decide +kernel
theorem dW_law_443 : decode cW_law 443 = .ok (.lor, 1) := by decide +kernel
theorem dW_law_444 : decode cW_law 444 = .ok (.invokevirtual 80, 3) := by decide +kernel
theorem dW_law_447 : decode cW_law 447 = .ok (.istore 6, 2) := by decide +kernel
theorem dW_law_449 : decode cW_law 449 = .ok (.aload_n 2, 1) := by decide +kernel
theorem dW_law_450 : decode cW_law 450 = .ok (.invokevirtual 61, 3) := by decide +kernel
theorem dW_law_453 : decode cW_law 453 = .ok (.iload 5, 2) := by decide +kernel
theorem dW_law_455 : decode cW_law 455 = .ok (.if_icmp .eq 5, 3) := by decide +kernel
theorem dW_law_458 : decode cW_law 458 = .ok (.iconst 0, 1) := by decide +kernel
theorem dW_law_459 : decode cW_law 459 = .ok (.ireturn, 1) := by decide +kernel
theorem dW_law_460 : decode cW_law 460 = .ok (.iload 5, 2) := by decide +kernel
theorem dW_law_462 : decode cW_law 462 = .ok (.ifCond .ne 22, 3) := by decide +kernel
theorem dW_law_465 : decode cW_law 465 = .ok (.aload_n 3, 1) := by decide +kernel
theorem dW_law_466 : decode cW_law 466 = .ok (.iconst 0, 1) := by decide +kernel
theorem dW_law_467 : decode cW_law 467 = .ok (.laload, 1) := by decide +kernel
theorem dW_law_468 : decode cW_law 468 = .ok (.iload 6, 2) := by decide +kernel
theorem dW_law_470 : decode cW_law 470 = .ok (.ifCond .eq 7, 3) := by decide +kernel
theorem dW_law_473 : decode cW_law 473 = .ok (.lconst 1, 1) := by decide +kernel
theorem dW_law_474 : decode cW_law 474 = .ok (.goto 4, 3) := by decide +kernel
theorem dW_law_477 : decode cW_law 477 = .ok (.lconst 0, 1) := by decide +kernel
theorem dW_law_478 : decode cW_law 478 = .ok (.lcmp, 1) := by decide +kernel
theorem dW_law_479 : decode cW_law 479 = .ok (.ifCond .eq 5, 3) := by decide +kernel
theorem dW_law_482 : decode cW_law 482 = .ok (.iconst 0, 1) := by decide +kernel
theorem dW_law_483 : decode cW_law 483 = .ok (.ireturn, 1) := by decide +kernel
theorem dW_law_484 : decode cW_law 484 = .ok (.goto 333, 3) := by decide +kernel
theorem dW_law_487 : decode cW_law 487 = .ok (.aload_n 1, 1) := by decide +kernel
theorem dW_law_488 : decode cW_law 488 = .ok (.aload_n 0, 1) := by decide +kernel
theorem dW_law_489 : decode cW_law 489 = .ok (.iload 4, 2) := by decide +kernel
theorem dW_law_491 : decode cW_law 491 = .ok (.iconst 1, 1) := by decide +kernel
theorem dW_law_492 : decode cW_law 492 = .ok (.iadd, 1) := by decide +kernel
theorem dW_law_493 : decode cW_law 493 = .ok (.iaload, 1) := by decide +kernel
theorem dW_law_494 : decode cW_law 494 = .ok (.i2l, 1) := by decide +kernel
theorem dW_law_495 : decode cW_law 495 = .ok (.bipush 32, 2) := by decide +kernel
theorem dW_law_497 : decode cW_law 497 = .ok (.lshl, 1) := by decide +kernel
theorem dW_law_498 : decode cW_law 498 = .ok (.aload_n 0, 1) := by decide +kernel
theorem dW_law_499 : decode cW_law 499 = .ok (.iload 4, 2) := by decide +kernel
theorem dW_law_501 : decode cW_law 501 = .ok (.iconst 2, 1) := by decide +kernel
theorem dW_law_502 : decode cW_law 502 = .ok (.iadd, 1) := by decide +kernel
theorem dW_law_503 : decode cW_law 503 = .ok (.iaload, 1) := by decide +kernel
theorem dW_law_504 : decode cW_law 504 = .ok (.i2l, 1) := by decide +kernel
theorem dW_law_505 : decode cW_law 505 = .ok (.ldc2_w 64, 3) := by decide +kernel
theorem dW_law_508 : decode cW_law 508 = .ok (.land, 1) := by decide +kernel
theorem dW_law_509 : decode cW_law 509 = .ok (.lor, 1) := by decide +kernel
theorem dW_law_510 : decode cW_law 510 = .ok (.invokevirtual 81, 3) := by decide +kernel
theorem dW_law_513 : decode cW_law 513 = .ok (.aload_n 2, 1) := by decide +kernel
theorem dW_law_514 : decode cW_law 514 = .ok (.aload_n 0, 1) := by decide +kernel
theorem dW_law_515 : decode cW_law 515 = .ok (.iload 4, 2) := by decide +kernel
theorem dW_law_517 : decode cW_law 517 = .ok (.iconst 1, 1) := by decide +kernel
theorem dW_law_518 : decode cW_law 518 = .ok (.iadd, 1) := by decide +kernel
theorem dW_law_519 : decode cW_law 519 = .ok (.iaload, 1) := by decide +kernel
theorem dW_law_520 : decode cW_law 520 = .ok (.i2l, 1) := by decide +kernel
theorem dW_law_521 : decode cW_law 521 = .ok (.bipush 32, 2) := by decide +kernel
theorem dW_law_523 : decode cW_law 523 = .ok (.lshl, 1) := by decide +kernel
theorem dW_law_524 : decode cW_law 524 = .ok (.aload_n 0, 1) := by decide +kernel
theorem dW_law_525 : decode cW_law 525 = .ok (.iload 4, 2) := by decide +kernel
theorem dW_law_527 : decode cW_law 527 = .ok (.iconst 2, 1) := by decide +kernel
theorem dW_law_528 : decode cW_law 528 = .ok (.iadd, 1) := by decide +kernel
theorem dW_law_529 : decode cW_law 529 = .ok (.iaload, 1) := by decide +kernel
theorem dW_law_530 : decode cW_law 530 = .ok (.i2l, 1) := by decide +kernel
theorem dW_law_531 : decode cW_law 531 = .ok (.ldc2_w 64, 3) := by decide +kernel
theorem dW_law_534 : decode cW_law 534 = .ok (.land, 1) := by decide +kernel
theorem dW_law_535 : decode cW_law 535 = .ok (.lor, 1) := by decide +kernel
theorem dW_law_536 : decode cW_law 536 = .ok (.invokevirtual 84, 3) := by decide +kernel
theorem dW_law_539 : decode cW_law 539 = .ok (.if_icmp .eq 278, 3) := by decide +kernel
theorem dW_law_542 : decode cW_law 542 = .ok (.iconst 0, 1) := by decide +kernel
theorem dW_law_543 : decode cW_law 543 = .ok (.ireturn, 1) := by decide +kernel
theorem dW_law_544 : decode cW_law 544 = .ok (.aload_n 1, 1) := by decide +kernel
theorem dW_law_545 : decode cW_law 545 = .ok (.aload_n 0, 1) := by decide +kernel
theorem dW_law_546 : decode cW_law 546 = .ok (.iload 4, 2) := by decide +kernel
theorem dW_law_548 : decode cW_law 548 = .ok (.iconst 1, 1) := by decide +kernel
theorem dW_law_549 : decode cW_law 549 = .ok (.iadd, 1) := by decide +kernel
theorem dW_law_550 : decode cW_law 550 = .ok (.iaload, 1) := by decide +kernel
theorem dW_law_551 : decode cW_law 551 = .ok (.i2l, 1) := by decide +kernel
theorem dW_law_552 : decode cW_law 552 = .ok (.bipush 32, 2) := by decide +kernel
theorem dW_law_554 : decode cW_law 554 = .ok (.lshl, 1) := by decide +kernel
theorem dW_law_555 : decode cW_law 555 = .ok (.aload_n 0, 1) := by decide +kernel
theorem dW_law_556 : decode cW_law 556 = .ok (.iload 4, 2) := by decide +kernel
theorem dW_law_558 : decode cW_law 558 = .ok (.iconst 2, 1) := by decide +kernel
theorem dW_law_559 : decode cW_law 559 = .ok (.iadd, 1) := by decide +kernel
theorem dW_law_560 : decode cW_law 560 = .ok (.iaload, 1) := by decide +kernel
theorem dW_law_561 : decode cW_law 561 = .ok (.i2l, 1) := by decide +kernel
theorem dW_law_562 : decode cW_law 562 = .ok (.ldc2_w 64, 3) := by decide +kernel
theorem dW_law_565 : decode cW_law 565 = .ok (.land, 1) := by decide +kernel
theorem dW_law_566 : decode cW_law 566 = .ok (.lor, 1) := by decide +kernel
theorem dW_law_567 : decode cW_law 567 = .ok (.aload_n 3, 1) := by decide +kernel
theorem dW_law_568 : decode cW_law 568 = .ok (.invokestatic 85, 3) := by decide +kernel
theorem dW_law_571 : decode cW_law 571 = .ok (.istore 5, 2) := by decide +kernel
theorem dW_law_573 : decode cW_law 573 = .ok (.aload_n 2, 1) := by decide +kernel
theorem dW_law_574 : decode cW_law 574 = .ok (.aload_n 0, 1) := by decide +kernel
theorem dW_law_575 : decode cW_law 575 = .ok (.iload 4, 2) := by decide +kernel
theorem dW_law_577 : decode cW_law 577 = .ok (.iconst 1, 1) := by decide +kernel
theorem dW_law_578 : decode cW_law 578 = .ok (.iadd, 1) := by decide +kernel
theorem dW_law_579 : decode cW_law 579 = .ok (.iaload, 1) := by decide +kernel
theorem dW_law_580 : decode cW_law 580 = .ok (.i2l, 1) := by decide +kernel
theorem dW_law_581 : decode cW_law 581 = .ok (.bipush 32, 2) := by decide +kernel
theorem dW_law_583 : decode cW_law 583 = .ok (.lshl, 1) := by decide +kernel
theorem dW_law_584 : decode cW_law 584 = .ok (.aload_n 0, 1) := by decide +kernel
theorem dW_law_585 : decode cW_law 585 = .ok (.iload 4, 2) := by decide +kernel
theorem dW_law_587 : decode cW_law 587 = .ok (.iconst 2, 1) := by decide +kernel
theorem dW_law_588 : decode cW_law 588 = .ok (.iadd, 1) := by decide +kernel
theorem dW_law_589 : decode cW_law 589 = .ok (.iaload, 1) := by decide +kernel
theorem dW_law_590 : decode cW_law 590 = .ok (.i2l, 1) := by decide +kernel
theorem dW_law_591 : decode cW_law 591 = .ok (.ldc2_w 64, 3) := by decide +kernel
theorem dW_law_594 : decode cW_law 594 = .ok (.land, 1) := by decide +kernel
theorem dW_law_595 : decode cW_law 595 = .ok (.lor, 1) := by decide +kernel
theorem dW_law_596 : decode cW_law 596 = .ok (.invokevirtual 87, 3) := by decide +kernel
theorem dW_law_599 : decode cW_law 599 = .ok (.istore 6, 2) := by decide +kernel
theorem dW_law_601 : decode cW_law 601 = .ok (.aload_n 2, 1) := by decide +kernel
theorem dW_law_602 : decode cW_law 602 = .ok (.invokevirtual 61, 3) := by decide +kernel
theorem dW_law_605 : decode cW_law 605 = .ok (.iload 5, 2) := by decide +kernel
theorem dW_law_607 : decode cW_law 607 = .ok (.if_icmp .eq 5, 3) := by decide +kernel
theorem dW_law_610 : decode cW_law 610 = .ok (.iconst 0, 1) := by decide +kernel
theorem dW_law_611 : decode cW_law 611 = .ok (.ireturn, 1) := by decide +kernel
theorem dW_law_612 : decode cW_law 612 = .ok (.iload 5, 2) := by decide +kernel
theorem dW_law_614 : decode cW_law 614 = .ok (.ifCond .ne 15, 3) := by decide +kernel
theorem dW_law_617 : decode cW_law 617 = .ok (.aload_n 3, 1) := by decide +kernel
theorem dW_law_618 : decode cW_law 618 = .ok (.iconst 0, 1) := by decide +kernel
theorem dW_law_619 : decode cW_law 619 = .ok (.laload, 1) := by decide +kernel
theorem dW_law_620 : decode cW_law 620 = .ok (.iload 6, 2) := by decide +kernel
theorem dW_law_622 : decode cW_law 622 = .ok (.i2l, 1) := by decide +kernel
theorem dW_law_623 : decode cW_law 623 = .ok (.lcmp, 1) := by decide +kernel
theorem dW_law_624 : decode cW_law 624 = .ok (.ifCond .eq 5, 3) := by decide +kernel
theorem dW_law_627 : decode cW_law 627 = .ok (.iconst 0, 1) := by decide +kernel
theorem dW_law_628 : decode cW_law 628 = .ok (.ireturn, 1) := by decide +kernel
theorem dW_law_629 : decode cW_law 629 = .ok (.goto 188, 3) := by decide +kernel
theorem dW_law_632 : decode cW_law 632 = .ok (.aload_n 1, 1) := by decide +kernel
theorem dW_law_633 : decode cW_law 633 = .ok (.aload_n 0, 1) := by decide +kernel
theorem dW_law_634 : decode cW_law 634 = .ok (.iload 4, 2) := by decide +kernel
theorem dW_law_636 : decode cW_law 636 = .ok (.iconst 1, 1) := by decide +kernel
theorem dW_law_637 : decode cW_law 637 = .ok (.iadd, 1) := by decide +kernel
theorem dW_law_638 : decode cW_law 638 = .ok (.iaload, 1) := by decide +kernel
theorem dW_law_639 : decode cW_law 639 = .ok (.aload_n 0, 1) := by decide +kernel
theorem dW_law_640 : decode cW_law 640 = .ok (.iload 4, 2) := by decide +kernel
theorem dW_law_642 : decode cW_law 642 = .ok (.iconst 2, 1) := by decide +kernel
theorem dW_law_643 : decode cW_law 643 = .ok (.iadd, 1) := by decide +kernel
theorem dW_law_644 : decode cW_law 644 = .ok (.iaload, 1) := by decide +kernel
theorem dW_law_645 : decode cW_law 645 = .ok (.aload_n 3, 1) := by decide +kernel
theorem dW_law_646 : decode cW_law 646 = .ok (.invokestatic 88, 3) := by decide +kernel
theorem dW_law_649 : decode cW_law 649 = .ok (.istore 5, 2) := by decide +kernel
theorem dW_law_651 : decode cW_law 651 = .ok (.aload_n 2, 1) := by decide +kernel
theorem dW_law_652 : decode cW_law 652 = .ok (.aload_n 0, 1) := by decide +kernel
theorem dW_law_653 : decode cW_law 653 = .ok (.iload 4, 2) := by decide +kernel
theorem dW_law_655 : decode cW_law 655 = .ok (.iconst 1, 1) := by decide +kernel
theorem dW_law_656 : decode cW_law 656 = .ok (.iadd, 1) := by decide +kernel
theorem dW_law_657 : decode cW_law 657 = .ok (.iaload, 1) := by decide +kernel
theorem dW_law_658 : decode cW_law 658 = .ok (.aload_n 0, 1) := by decide +kernel
theorem dW_law_659 : decode cW_law 659 = .ok (.iload 4, 2) := by decide +kernel
theorem dW_law_661 : decode cW_law 661 = .ok (.iconst 2, 1) := by decide +kernel
theorem dW_law_662 : decode cW_law 662 = .ok (.iadd, 1) := by decide +kernel
theorem dW_law_663 : decode cW_law 663 = .ok (.iaload, 1) := by decide +kernel
theorem dW_law_664 : decode cW_law 664 = .ok (.invokevirtual 90, 3) := by decide +kernel
theorem dW_law_667 : decode cW_law 667 = .ok (.istore 6, 2) := by decide +kernel
theorem dW_law_669 : decode cW_law 669 = .ok (.aload_n 2, 1) := by decide +kernel
theorem dW_law_670 : decode cW_law 670 = .ok (.invokevirtual 61, 3) := by decide +kernel
theorem dW_law_673 : decode cW_law 673 = .ok (.iload 5, 2) := by decide +kernel
theorem dW_law_675 : decode cW_law 675 = .ok (.if_icmp .eq 5, 3) := by decide +kernel
theorem dW_law_678 : decode cW_law 678 = .ok (.iconst 0, 1) := by decide +kernel
theorem dW_law_679 : decode cW_law 679 = .ok (.ireturn, 1) := by decide +kernel
theorem dW_law_680 : decode cW_law 680 = .ok (.iload 5, 2) := by decide +kernel
theorem dW_law_682 : decode cW_law 682 = .ok (.ifCond .ne 15, 3) := by decide +kernel
theorem dW_law_685 : decode cW_law 685 = .ok (.aload_n 3, 1) := by decide +kernel
theorem dW_law_686 : decode cW_law 686 = .ok (.iconst 0, 1) := by decide +kernel
theorem dW_law_687 : decode cW_law 687 = .ok (.laload, 1) := by decide +kernel
theorem dW_law_688 : decode cW_law 688 = .ok (.iload 6, 2) := by decide +kernel
theorem dW_law_690 : decode cW_law 690 = .ok (.i2l, 1) := by decide +kernel
theorem dW_law_691 : decode cW_law 691 = .ok (.lcmp, 1) := by decide +kernel
theorem dW_law_692 : decode cW_law 692 = .ok (.ifCond .eq 5, 3) := by decide +kernel
theorem dW_law_695 : decode cW_law 695 = .ok (.iconst 0, 1) := by decide +kernel
theorem dW_law_696 : decode cW_law 696 = .ok (.ireturn, 1) := by decide +kernel
theorem dW_law_697 : decode cW_law 697 = .ok (.goto 120, 3) := by decide +kernel
theorem dW_law_700 : decode cW_law 700 = .ok (.aload_n 1, 1) := by decide +kernel
theorem dW_law_701 : decode cW_law 701 = .ok (.invokestatic 91, 3) := by decide +kernel
theorem dW_law_704 : decode cW_law 704 = .ok (.istore 5, 2) := by decide +kernel
theorem dW_law_706 : decode cW_law 706 = .ok (.aload_n 2, 1) := by decide +kernel
theorem dW_law_707 : decode cW_law 707 = .ok (.invokevirtual 94, 3) := by decide +kernel
theorem dW_law_710 : decode cW_law 710 = .ok (.aload_n 2, 1) := by decide +kernel
theorem dW_law_711 : decode cW_law 711 = .ok (.invokevirtual 61, 3) := by decide +kernel
theorem dW_law_714 : decode cW_law 714 = .ok (.iload 5, 2) := by decide +kernel
theorem dW_law_716 : decode cW_law 716 = .ok (.if_icmp .eq 5, 3) := by decide +kernel
theorem dW_law_719 : decode cW_law 719 = .ok (.iconst 0, 1) := by decide +kernel
theorem dW_law_720 : decode cW_law 720 = .ok (.ireturn, 1) := by decide +kernel
theorem dW_law_721 : decode cW_law 721 = .ok (.goto 96, 3) := by decide +kernel
theorem dW_law_724 : decode cW_law 724 = .ok (.aload_n 1, 1) := by decide +kernel
theorem dW_law_725 : decode cW_law 725 = .ok (.invokestatic 95, 3) := by decide +kernel
theorem dW_law_728 : decode cW_law 728 = .ok (.istore 5, 2) := by decide +kernel
theorem dW_law_730 : decode cW_law 730 = .ok (.aload_n 2, 1) := by decide +kernel
theorem dW_law_731 : decode cW_law 731 = .ok (.invokevirtual 97, 3) := by decide +kernel
theorem dW_law_734 : decode cW_law 734 = .ok (.aload_n 2, 1) := by decide +kernel
theorem dW_law_735 : decode cW_law 735 = .ok (.invokevirtual 61, 3) := by decide +kernel
theorem dW_law_738 : decode cW_law 738 = .ok (.iload 5, 2) := by decide +kernel
theorem dW_law_740 : decode cW_law 740 = .ok (.if_icmp .eq 5, 3) := by decide +kernel
theorem dW_law_743 : decode cW_law 743 = .ok (.iconst 0, 1) := by decide +kernel
theorem dW_law_744 : decode cW_law 744 = .ok (.ireturn, 1) := by decide +kernel
theorem dW_law_745 : decode cW_law 745 = .ok (.goto 72, 3) := by decide +kernel
theorem dW_law_748 : decode cW_law 748 = .ok (.aload_n 1, 1) := by decide +kernel
theorem dW_law_749 : decode cW_law 749 = .ok (.aload_n 3, 1) := by decide +kernel
theorem dW_law_750 : decode cW_law 750 = .ok (.invokestatic 98, 3) := by decide +kernel
theorem dW_law_753 : decode cW_law 753 = .ok (.istore 5, 2) := by decide +kernel
theorem dW_law_755 : decode cW_law 755 = .ok (.aload_n 2, 1) := by decide +kernel
theorem dW_law_756 : decode cW_law 756 = .ok (.invokevirtual 101, 3) := by decide +kernel
theorem dW_law_759 : decode cW_law 759 = .ok (.istore 6, 2) := by decide +kernel
theorem dW_law_761 : decode cW_law 761 = .ok (.aload_n 2, 1) := by decide +kernel
theorem dW_law_762 : decode cW_law 762 = .ok (.invokevirtual 61, 3) := by decide +kernel
theorem dW_law_765 : decode cW_law 765 = .ok (.iload 5, 2) := by decide +kernel
theorem dW_law_767 : decode cW_law 767 = .ok (.if_icmp .eq 5, 3) := by decide +kernel
theorem dW_law_770 : decode cW_law 770 = .ok (.iconst 0, 1) := by decide +kernel
theorem dW_law_771 : decode cW_law 771 = .ok (.ireturn, 1) := by decide +kernel
theorem dW_law_772 : decode cW_law 772 = .ok (.iload 5, 2) := by decide +kernel
theorem dW_law_774 : decode cW_law 774 = .ok (.ifCond .ne 15, 3) := by decide +kernel
theorem dW_law_777 : decode cW_law 777 = .ok (.aload_n 3, 1) := by decide +kernel
theorem dW_law_778 : decode cW_law 778 = .ok (.iconst 0, 1) := by decide +kernel
theorem dW_law_779 : decode cW_law 779 = .ok (.laload, 1) := by decide +kernel
theorem dW_law_780 : decode cW_law 780 = .ok (.iload 6, 2) := by decide +kernel
theorem dW_law_782 : decode cW_law 782 = .ok (.i2l, 1) := by decide +kernel
theorem dW_law_783 : decode cW_law 783 = .ok (.lcmp, 1) := by decide +kernel
theorem dW_law_784 : decode cW_law 784 = .ok (.ifCond .eq 5, 3) := by decide +kernel
theorem dW_law_787 : decode cW_law 787 = .ok (.iconst 0, 1) := by decide +kernel
theorem dW_law_788 : decode cW_law 788 = .ok (.ireturn, 1) := by decide +kernel
theorem dW_law_789 : decode cW_law 789 = .ok (.goto 28, 3) := by decide +kernel
theorem dW_law_792 : decode cW_law 792 = .ok (.aload_n 1, 1) := by decide +kernel
theorem dW_law_793 : decode cW_law 793 = .ok (.aload_n 0, 1) := by decide +kernel
theorem dW_law_794 : decode cW_law 794 = .ok (.iload 4, 2) := by decide +kernel
theorem dW_law_796 : decode cW_law 796 = .ok (.iconst 1, 1) := by decide +kernel
theorem dW_law_797 : decode cW_law 797 = .ok (.iadd, 1) := by decide +kernel
theorem dW_law_798 : decode cW_law 798 = .ok (.iaload, 1) := by decide +kernel
theorem dW_law_799 : decode cW_law 799 = .ok (.invokevirtual 102, 3) := by decide +kernel
theorem dW_law_802 : decode cW_law 802 = .ok (.aload_n 2, 1) := by decide +kernel
theorem dW_law_803 : decode cW_law 803 = .ok (.aload_n 0, 1) := by decide +kernel
theorem dW_law_804 : decode cW_law 804 = .ok (.iload 4, 2) := by decide +kernel
theorem dW_law_806 : decode cW_law 806 = .ok (.iconst 1, 1) := by decide +kernel
theorem dW_law_807 : decode cW_law 807 = .ok (.iadd, 1) := by decide +kernel
theorem dW_law_808 : decode cW_law 808 = .ok (.iaload, 1) := by decide +kernel
theorem dW_law_809 : decode cW_law 809 = .ok (.invokevirtual 105, 3) := by decide +kernel
theorem dW_law_812 : decode cW_law 812 = .ok (.if_icmp .eq 5, 3) := by decide +kernel
theorem dW_law_815 : decode cW_law 815 = .ok (.iconst 0, 1) := by decide +kernel
theorem dW_law_816 : decode cW_law 816 = .ok (.ireturn, 1) := by decide +kernel
theorem dW_law_817 : decode cW_law 817 = .ok (.iinc 4 4, 3) := by decide +kernel
theorem dW_law_820 : decode cW_law 820 = .ok (.goto (-797), 3) := by decide +kernel
theorem dW_law_823 : decode cW_law 823 = .ok (.iconst 1, 1) := by decide +kernel
theorem dW_law_824 : decode cW_law 824 = .ok (.ireturn, 1) := by decide +kernel
