theorem dT_init_0 : decode cT_init 0 = .ok (.aload_n 0, 1) := by decide +kernel
theorem dT_init_1 : decode cT_init 1 = .ok (.invokespecial 3, 3) := by decide +kernel
theorem dT_init_4 : decode cT_init 4 = .ok (.aload_n 0, 1) := by decide +kernel
theorem dT_init_5 : decode cT_init 5 = .ok (.iconst 0, 1) := by decide +kernel
theorem dT_init_6 : decode cT_init 6 = .ok (.putfield 9, 3) := by decide +kernel
theorem dT_init_9 : decode cT_init 9 = .ok (.aload_n 0, 1) := by decide +kernel
theorem dT_init_10 : decode cT_init 10 = .ok (.iconst 0, 1) := by decide +kernel
theorem dT_init_11 : decode cT_init 11 = .ok (.putfield 15, 3) := by decide +kernel
theorem dT_init_14 : decode cT_init 14 = .ok (.lload_n 1, 1) := by decide +kernel
theorem dT_init_15 : decode cT_init 15 = .ok (.invokestatic 19, 3) := by decide +kernel
theorem dT_init_18 : decode cT_init 18 = .ok (.lstore 4, 2) := by decide +kernel
theorem dT_init_20 : decode cT_init 20 = .ok (.aload_n 0, 1) := by decide +kernel
theorem dT_init_21 : decode cT_init 21 = .ok (.lload_n 1, 1) := by decide +kernel
theorem dT_init_22 : decode cT_init 22 = .ok (.putfield 23, 3) := by decide +kernel
theorem dT_init_25 : decode cT_init 25 = .ok (.aload_n 0, 1) := by decide +kernel
theorem dT_init_26 : decode cT_init 26 = .ok (.aload_n 3, 1) := by decide +kernel
theorem dT_init_27 : decode cT_init 27 = .ok (.putfield 27, 3) := by decide +kernel
theorem dT_init_30 : decode cT_init 30 = .ok (.aload_n 0, 1) := by decide +kernel
theorem dT_init_31 : decode cT_init 31 = .ok (.lload 4, 2) := by decide +kernel
theorem dT_init_33 : decode cT_init 33 = .ok (.invokestatic 31, 3) := by decide +kernel
theorem dT_init_36 : decode cT_init 36 = .ok (.putfield 35, 3) := by decide +kernel
theorem dT_init_39 : decode cT_init 39 = .ok (.aload_n 0, 1) := by decide +kernel
theorem dT_init_40 : decode cT_init 40 = .ok (.lload 4, 2) := by decide +kernel
theorem dT_init_42 : decode cT_init 42 = .ok (.invokestatic 38, 3) := by decide +kernel
theorem dT_init_45 : decode cT_init 45 = .ok (.putfield 41, 3) := by decide +kernel
theorem dT_init_48 : decode cT_init 48 = .ok (.return_, 1) := by decide +kernel
theorem dT_words_0 : decode cT_words 0 = .ok (.iconst 3, 1) := by decide +kernel
theorem dT_words_1 : decode cT_words 1 = .ok (.aload_n 0, 1) := by decide +kernel
theorem dT_words_2 : decode cT_words 2 = .ok (.getfield 27, 3) := by decide +kernel
theorem dT_words_5 : decode cT_words 5 = .ok (.arraylength, 1) := by decide +kernel
theorem dT_words_6 : decode cT_words 6 = .ok (.iadd, 1) := by decide +kernel
theorem dT_words_7 : decode cT_words 7 = .ok (.ireturn, 1) := by decide +kernel
theorem dT_wordAt_0 : decode cT_wordAt 0 = .ok (.iload_n 1, 1) := by decide +kernel
theorem dT_wordAt_1 : decode cT_wordAt 1 = .ok (.tableswitch 48 0 2 #[27, 33, 42], 27) := by decide +kernel
theorem dT_wordAt_28 : decode cT_wordAt 28 = .ok (.aload_n 0, 1) := by decide +kernel
theorem dT_wordAt_29 : decode cT_wordAt 29 = .ok (.getfield 27, 3) := by decide +kernel
theorem dT_wordAt_32 : decode cT_wordAt 32 = .ok (.arraylength, 1) := by decide +kernel
theorem dT_wordAt_33 : decode cT_wordAt 33 = .ok (.ireturn, 1) := by decide +kernel
theorem dT_wordAt_34 : decode cT_wordAt 34 = .ok (.aload_n 0, 1) := by decide +kernel
theorem dT_wordAt_35 : decode cT_wordAt 35 = .ok (.getfield 23, 3) := by decide +kernel
theorem dT_wordAt_38 : decode cT_wordAt 38 = .ok (.bipush 32, 2) := by decide +kernel
theorem dT_wordAt_40 : decode cT_wordAt 40 = .ok (.lushr, 1) := by decide +kernel
theorem dT_wordAt_41 : decode cT_wordAt 41 = .ok (.l2i, 1) := by decide +kernel
theorem dT_wordAt_42 : decode cT_wordAt 42 = .ok (.ireturn, 1) := by decide +kernel
theorem dT_wordAt_43 : decode cT_wordAt 43 = .ok (.aload_n 0, 1) := by decide +kernel
theorem dT_wordAt_44 : decode cT_wordAt 44 = .ok (.getfield 23, 3) := by decide +kernel
theorem dT_wordAt_47 : decode cT_wordAt 47 = .ok (.l2i, 1) := by decide +kernel
theorem dT_wordAt_48 : decode cT_wordAt 48 = .ok (.ireturn, 1) := by decide +kernel
theorem dT_wordAt_49 : decode cT_wordAt 49 = .ok (.aload_n 0, 1) := by decide +kernel
theorem dT_wordAt_50 : decode cT_wordAt 50 = .ok (.getfield 27, 3) := by decide +kernel
theorem dT_wordAt_53 : decode cT_wordAt 53 = .ok (.iload_n 1, 1) := by decide +kernel
theorem dT_wordAt_54 : decode cT_wordAt 54 = .ok (.iconst 3, 1) := by decide +kernel
theorem dT_wordAt_55 : decode cT_wordAt 55 = .ok (.isub, 1) := by decide +kernel
theorem dT_wordAt_56 : decode cT_wordAt 56 = .ok (.iaload, 1) := by decide +kernel
theorem dT_wordAt_57 : decode cT_wordAt 57 = .ok (.ireturn, 1) := by decide +kernel
