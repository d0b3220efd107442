theorem dI_init_0 : decode cI_init 0 = .ok (.aload_n 0, 1) := by decide +kernel
theorem dI_init_1 : decode cI_init 1 = .ok (.invokespecial 3, 3) := by decide +kernel
theorem dI_init_4 : decode cI_init 4 = .ok (.aload_n 0, 1) := by decide +kernel
theorem dI_init_5 : decode cI_init 5 = .ok (.sipush 264, 3) := by decide +kernel
theorem dI_init_8 : decode cI_init 8 = .ok (.anewarray 9, 3) := by decide +kernel
theorem dI_init_11 : decode cI_init 11 = .ok (.putfield 11, 3) := by decide +kernel
theorem dI_init_14 : decode cI_init 14 = .ok (.aload_n 0, 1) := by decide +kernel
theorem dI_init_15 : decode cI_init 15 = .ok (.bipush 64, 2) := by decide +kernel
theorem dI_init_17 : decode cI_init 17 = .ok (.newarray .int, 2) := by decide +kernel
theorem dI_init_19 : decode cI_init 19 = .ok (.putfield 17, 3) := by decide +kernel
theorem dI_init_22 : decode cI_init 22 = .ok (.aload_n 0, 1) := by decide +kernel
theorem dI_init_23 : decode cI_init 23 = .ok (.iconst 0, 1) := by decide +kernel
theorem dI_init_24 : decode cI_init 24 = .ok (.putfield 21, 3) := by decide +kernel
theorem dI_init_27 : decode cI_init 27 = .ok (.return_, 1) := by decide +kernel
theorem dI_takeGotAlone_0 : decode cI_takeGotAlone 0 = .ok (.iconst 0, 1) := by decide +kernel
theorem dI_takeGotAlone_1 : decode cI_takeGotAlone 1 = .ok (.istore_n 3, 1) := by decide +kernel
theorem dI_takeGotAlone_2 : decode cI_takeGotAlone 2 = .ok (.iconst 0, 1) := by decide +kernel
theorem dI_takeGotAlone_3 : decode cI_takeGotAlone 3 = .ok (.istore 4, 2) := by decide +kernel
theorem dI_takeGotAlone_5 : decode cI_takeGotAlone 5 = .ok (.iconst 0, 1) := by decide +kernel
theorem dI_takeGotAlone_6 : decode cI_takeGotAlone 6 = .ok (.istore 5, 2) := by decide +kernel
theorem dI_takeGotAlone_8 : decode cI_takeGotAlone 8 = .ok (.iload 5, 2) := by decide +kernel
theorem dI_takeGotAlone_10 : decode cI_takeGotAlone 10 = .ok (.aload_n 0, 1) := by decide +kernel
theorem dI_takeGotAlone_11 : decode cI_takeGotAlone 11 = .ok (.getfield 21, 3) := by decide +kernel
theorem dI_takeGotAlone_14 : decode cI_takeGotAlone 14 = .ok (.if_icmp .ge 83, 3) := by decide +kernel
theorem dI_takeGotAlone_17 : decode cI_takeGotAlone 17 = .ok (.aload_n 0, 1) := by decide +kernel
theorem dI_takeGotAlone_18 : decode cI_takeGotAlone 18 = .ok (.getfield 11, 3) := by decide +kernel
theorem dI_takeGotAlone_21 : decode cI_takeGotAlone 21 = .ok (.iload 5, 2) := by decide +kernel
theorem dI_takeGotAlone_23 : decode cI_takeGotAlone 23 = .ok (.aaload, 1) := by decide +kernel
theorem dI_takeGotAlone_24 : decode cI_takeGotAlone 24 = .ok (.astore 6, 2) := by decide +kernel
theorem dI_takeGotAlone_26 : decode cI_takeGotAlone 26 = .ok (.aload 6, 2) := by decide +kernel
theorem dI_takeGotAlone_28 : decode cI_takeGotAlone 28 = .ok (.getfield 40, 3) := by decide +kernel
theorem dI_takeGotAlone_31 : decode cI_takeGotAlone 31 = .ok (.ifCond .eq 49, 3) := by decide +kernel
theorem dI_takeGotAlone_34 : decode cI_takeGotAlone 34 = .ok (.aload 6, 2) := by decide +kernel
theorem dI_takeGotAlone_36 : decode cI_takeGotAlone 36 = .ok (.getfield 44, 3) := by decide +kernel
theorem dI_takeGotAlone_39 : decode cI_takeGotAlone 39 = .ok (.iload_n 1, 1) := by decide +kernel
theorem dI_takeGotAlone_40 : decode cI_takeGotAlone 40 = .ok (.if_icmp .ge 40, 3) := by decide +kernel
theorem dI_takeGotAlone_43 : decode cI_takeGotAlone 43 = .ok (.aload_n 0, 1) := by decide +kernel
theorem dI_takeGotAlone_44 : decode cI_takeGotAlone 44 = .ok (.getfield 17, 3) := by decide +kernel
theorem dI_takeGotAlone_47 : decode cI_takeGotAlone 47 = .ok (.aload 6, 2) := by decide +kernel
theorem dI_takeGotAlone_49 : decode cI_takeGotAlone 49 = .ok (.getfield 33, 3) := by decide +kernel
theorem dI_takeGotAlone_52 : decode cI_takeGotAlone 52 = .ok (.iaload, 1) := by decide +kernel
theorem dI_takeGotAlone_53 : decode cI_takeGotAlone 53 = .ok (.iconst 1, 1) := by decide +kernel
theorem dI_takeGotAlone_54 : decode cI_takeGotAlone 54 = .ok (.if_icmp .ne 26, 3) := by decide +kernel
theorem dI_takeGotAlone_57 : decode cI_takeGotAlone 57 = .ok (.aload_n 2, 1) := by decide +kernel
theorem dI_takeGotAlone_58 : decode cI_takeGotAlone 58 = .ok (.iload 4, 2) := by decide +kernel
theorem dI_takeGotAlone_60 : decode cI_takeGotAlone 60 = .ok (.aload 6, 2) := by decide +kernel
theorem dI_takeGotAlone_62 : decode cI_takeGotAlone 62 = .ok (.aastore, 1) := by decide +kernel
theorem dI_takeGotAlone_63 : decode cI_takeGotAlone 63 = .ok (.iinc 4 1, 3) := by decide +kernel
theorem dI_takeGotAlone_66 : decode cI_takeGotAlone 66 = .ok (.aload_n 0, 1) := by decide +kernel
theorem dI_takeGotAlone_67 : decode cI_takeGotAlone 67 = .ok (.getfield 17, 3) := by decide +kernel
theorem dI_takeGotAlone_70 : decode cI_takeGotAlone 70 = .ok (.aload 6, 2) := by decide +kernel
theorem dI_takeGotAlone_72 : decode cI_takeGotAlone 72 = .ok (.getfield 33, 3) := by decide +kernel
theorem dI_takeGotAlone_75 : decode cI_takeGotAlone 75 = .ok (.iconst 0, 1) := by decide +kernel
theorem dI_takeGotAlone_76 : decode cI_takeGotAlone 76 = .ok (.iastore, 1) := by decide +kernel
theorem dI_takeGotAlone_77 : decode cI_takeGotAlone 77 = .ok (.goto 14, 3) := by decide +kernel
theorem dI_takeGotAlone_80 : decode cI_takeGotAlone 80 = .ok (.aload_n 0, 1) := by decide +kernel
theorem dI_takeGotAlone_81 : decode cI_takeGotAlone 81 = .ok (.getfield 11, 3) := by decide +kernel
theorem dI_takeGotAlone_84 : decode cI_takeGotAlone 84 = .ok (.iload_n 3, 1) := by decide +kernel
theorem dI_takeGotAlone_85 : decode cI_takeGotAlone 85 = .ok (.aload 6, 2) := by decide +kernel
theorem dI_takeGotAlone_87 : decode cI_takeGotAlone 87 = .ok (.aastore, 1) := by decide +kernel
theorem dI_takeGotAlone_88 : decode cI_takeGotAlone 88 = .ok (.iinc 3 1, 3) := by decide +kernel
theorem dI_takeGotAlone_91 : decode cI_takeGotAlone 91 = .ok (.iinc 5 1, 3) := by decide +kernel
theorem dI_takeGotAlone_94 : decode cI_takeGotAlone 94 = .ok (.goto (-86), 3) := by decide +kernel
theorem dI_takeGotAlone_97 : decode cI_takeGotAlone 97 = .ok (.aload_n 0, 1) := by decide +kernel
theorem dI_takeGotAlone_98 : decode cI_takeGotAlone 98 = .ok (.iload_n 3, 1) := by decide +kernel
theorem dI_takeGotAlone_99 : decode cI_takeGotAlone 99 = .ok (.invokevirtual 36, 3) := by decide +kernel
theorem dI_takeGotAlone_102 : decode cI_takeGotAlone 102 = .ok (.iload 4, 2) := by decide +kernel
theorem dI_takeGotAlone_104 : decode cI_takeGotAlone 104 = .ok (.ireturn, 1) := by decide +kernel
theorem dI_shrinkTo_0 : decode cI_shrinkTo 0 = .ok (.iload_n 1, 1) := by decide +kernel
theorem dI_shrinkTo_1 : decode cI_shrinkTo 1 = .ok (.istore_n 2, 1) := by decide +kernel
theorem dI_shrinkTo_2 : decode cI_shrinkTo 2 = .ok (.iload_n 2, 1) := by decide +kernel
theorem dI_shrinkTo_3 : decode cI_shrinkTo 3 = .ok (.aload_n 0, 1) := by decide +kernel
theorem dI_shrinkTo_4 : decode cI_shrinkTo 4 = .ok (.getfield 21, 3) := by decide +kernel
theorem dI_shrinkTo_7 : decode cI_shrinkTo 7 = .ok (.if_icmp .ge 16, 3) := by decide +kernel
theorem dI_shrinkTo_10 : decode cI_shrinkTo 10 = .ok (.aload_n 0, 1) := by decide +kernel
theorem dI_shrinkTo_11 : decode cI_shrinkTo 11 = .ok (.getfield 11, 3) := by decide +kernel
theorem dI_shrinkTo_14 : decode cI_shrinkTo 14 = .ok (.iload_n 2, 1) := by decide +kernel
theorem dI_shrinkTo_15 : decode cI_shrinkTo 15 = .ok (.aconst_null, 1) := by decide +kernel
theorem dI_shrinkTo_16 : decode cI_shrinkTo 16 = .ok (.aastore, 1) := by decide +kernel
theorem dI_shrinkTo_17 : decode cI_shrinkTo 17 = .ok (.iinc 2 1, 3) := by decide +kernel
theorem dI_shrinkTo_20 : decode cI_shrinkTo 20 = .ok (.goto (-18), 3) := by decide +kernel
theorem dI_shrinkTo_23 : decode cI_shrinkTo 23 = .ok (.aload_n 0, 1) := by decide +kernel
theorem dI_shrinkTo_24 : decode cI_shrinkTo 24 = .ok (.iload_n 1, 1) := by decide +kernel
theorem dI_shrinkTo_25 : decode cI_shrinkTo 25 = .ok (.putfield 21, 3) := by decide +kernel
theorem dI_shrinkTo_28 : decode cI_shrinkTo 28 = .ok (.return_, 1) := by decide +kernel
theorem dI_setsBefore_0 : decode cI_setsBefore 0 = .ok (.lconst 0, 1) := by decide +kernel
theorem dI_setsBefore_1 : decode cI_setsBefore 1 = .ok (.lstore_n 2, 1) := by decide +kernel
theorem dI_setsBefore_2 : decode cI_setsBefore 2 = .ok (.iconst 0, 1) := by decide +kernel
theorem dI_setsBefore_3 : decode cI_setsBefore 3 = .ok (.istore 4, 2) := by decide +kernel
theorem dI_setsBefore_5 : decode cI_setsBefore 5 = .ok (.iload 4, 2) := by decide +kernel
theorem dI_setsBefore_7 : decode cI_setsBefore 7 = .ok (.aload_n 0, 1) := by decide +kernel
theorem dI_setsBefore_8 : decode cI_setsBefore 8 = .ok (.getfield 21, 3) := by decide +kernel
theorem dI_setsBefore_11 : decode cI_setsBefore 11 = .ok (.if_icmp .ge 38, 3) := by decide +kernel
theorem dI_setsBefore_14 : decode cI_setsBefore 14 = .ok (.aload_n 0, 1) := by decide +kernel
theorem dI_setsBefore_15 : decode cI_setsBefore 15 = .ok (.getfield 11, 3) := by decide +kernel
theorem dI_setsBefore_18 : decode cI_setsBefore 18 = .ok (.iload 4, 2) := by decide +kernel
theorem dI_setsBefore_20 : decode cI_setsBefore 20 = .ok (.aaload, 1) := by decide +kernel
theorem dI_setsBefore_21 : decode cI_setsBefore 21 = .ok (.getfield 44, 3) := by decide +kernel
theorem dI_setsBefore_24 : decode cI_setsBefore 24 = .ok (.iload_n 1, 1) := by decide +kernel
theorem dI_setsBefore_25 : decode cI_setsBefore 25 = .ok (.if_icmp .ge 18, 3) := by decide +kernel
theorem dI_setsBefore_28 : decode cI_setsBefore 28 = .ok (.lload_n 2, 1) := by decide +kernel
theorem dI_setsBefore_29 : decode cI_setsBefore 29 = .ok (.lconst 1, 1) := by decide +kernel
theorem dI_setsBefore_30 : decode cI_setsBefore 30 = .ok (.aload_n 0, 1) := by decide +kernel
theorem dI_setsBefore_31 : decode cI_setsBefore 31 = .ok (.getfield 11, 3) := by decide +kernel
theorem dI_setsBefore_34 : decode cI_setsBefore 34 = .ok (.iload 4, 2) := by decide +kernel
theorem dI_setsBefore_36 : decode cI_setsBefore 36 = .ok (.aaload, 1) := by decide +kernel
theorem dI_setsBefore_37 : decode cI_setsBefore 37 = .ok (.getfield 33, 3) := by decide +kernel
theorem dI_setsBefore_40 : decode cI_setsBefore 40 = .ok (.lshl, 1) := by decide +kernel
theorem dI_setsBefore_41 : decode cI_setsBefore 41 = .ok (.lor, 1) := by decide +kernel
theorem dI_setsBefore_42 : decode cI_setsBefore 42 = .ok (.lstore_n 2, 1) := by decide +kernel
theorem dI_setsBefore_43 : decode cI_setsBefore 43 = .ok (.iinc 4 1, 3) := by decide +kernel
theorem dI_setsBefore_46 : decode cI_setsBefore 46 = .ok (.goto (-41), 3) := by decide +kernel
theorem dI_setsBefore_49 : decode cI_setsBefore 49 = .ok (.lload_n 2, 1) := by decide +kernel
theorem dI_setsBefore_50 : decode cI_setsBefore 50 = .ok (.lreturn, 1) := by decide +kernel
theorem dI_takeSet_0 : decode cI_takeSet 0 = .ok (.iconst 0, 1) := by decide +kernel
theorem dI_takeSet_1 : decode cI_takeSet 1 = .ok (.istore_n 3, 1) := by decide +kernel
theorem dI_takeSet_2 : decode cI_takeSet 2 = .ok (.iconst 0, 1) := by decide +kernel
theorem dI_takeSet_3 : decode cI_takeSet 3 = .ok (.istore 4, 2) := by decide +kernel
theorem dI_takeSet_5 : decode cI_takeSet 5 = .ok (.iconst 0, 1) := by decide +kernel
theorem dI_takeSet_6 : decode cI_takeSet 6 = .ok (.istore 5, 2) := by decide +kernel
theorem dI_takeSet_8 : decode cI_takeSet 8 = .ok (.iload 5, 2) := by decide +kernel
theorem dI_takeSet_10 : decode cI_takeSet 10 = .ok (.aload_n 0, 1) := by decide +kernel
theorem dI_takeSet_11 : decode cI_takeSet 11 = .ok (.getfield 21, 3) := by decide +kernel
theorem dI_takeSet_14 : decode cI_takeSet 14 = .ok (.if_icmp .ge 50, 3) := by decide +kernel
theorem dI_takeSet_17 : decode cI_takeSet 17 = .ok (.aload_n 0, 1) := by decide +kernel
theorem dI_takeSet_18 : decode cI_takeSet 18 = .ok (.getfield 11, 3) := by decide +kernel
theorem dI_takeSet_21 : decode cI_takeSet 21 = .ok (.iload 5, 2) := by decide +kernel
theorem dI_takeSet_23 : decode cI_takeSet 23 = .ok (.aaload, 1) := by decide +kernel
theorem dI_takeSet_24 : decode cI_takeSet 24 = .ok (.astore 6, 2) := by decide +kernel
theorem dI_takeSet_26 : decode cI_takeSet 26 = .ok (.aload 6, 2) := by decide +kernel
theorem dI_takeSet_28 : decode cI_takeSet 28 = .ok (.getfield 33, 3) := by decide +kernel
theorem dI_takeSet_31 : decode cI_takeSet 31 = .ok (.iload_n 1, 1) := by decide +kernel
theorem dI_takeSet_32 : decode cI_takeSet 32 = .ok (.if_icmp .ne 15, 3) := by decide +kernel
theorem dI_takeSet_35 : decode cI_takeSet 35 = .ok (.aload_n 2, 1) := by decide +kernel
theorem dI_takeSet_36 : decode cI_takeSet 36 = .ok (.iload 4, 2) := by decide +kernel
theorem dI_takeSet_38 : decode cI_takeSet 38 = .ok (.aload 6, 2) := by decide +kernel
theorem dI_takeSet_40 : decode cI_takeSet 40 = .ok (.aastore, 1) := by decide +kernel
theorem dI_takeSet_41 : decode cI_takeSet 41 = .ok (.iinc 4 1, 3) := by decide +kernel
theorem dI_takeSet_44 : decode cI_takeSet 44 = .ok (.goto 14, 3) := by decide +kernel
theorem dI_takeSet_47 : decode cI_takeSet 47 = .ok (.aload_n 0, 1) := by decide +kernel
theorem dI_takeSet_48 : decode cI_takeSet 48 = .ok (.getfield 11, 3) := by decide +kernel
theorem dI_takeSet_51 : decode cI_takeSet 51 = .ok (.iload_n 3, 1) := by decide +kernel
theorem dI_takeSet_52 : decode cI_takeSet 52 = .ok (.aload 6, 2) := by decide +kernel
theorem dI_takeSet_54 : decode cI_takeSet 54 = .ok (.aastore, 1) := by decide +kernel
theorem dI_takeSet_55 : decode cI_takeSet 55 = .ok (.iinc 3 1, 3) := by decide +kernel
theorem dI_takeSet_58 : decode cI_takeSet 58 = .ok (.iinc 5 1, 3) := by decide +kernel
theorem dI_takeSet_61 : decode cI_takeSet 61 = .ok (.goto (-53), 3) := by decide +kernel
theorem dI_takeSet_64 : decode cI_takeSet 64 = .ok (.aload_n 0, 1) := by decide +kernel
theorem dI_takeSet_65 : decode cI_takeSet 65 = .ok (.getfield 17, 3) := by decide +kernel
theorem dI_takeSet_68 : decode cI_takeSet 68 = .ok (.iload_n 1, 1) := by decide +kernel
theorem dI_takeSet_69 : decode cI_takeSet 69 = .ok (.iconst 0, 1) := by decide +kernel
theorem dI_takeSet_70 : decode cI_takeSet 70 = .ok (.iastore, 1) := by decide +kernel
theorem dI_takeSet_71 : decode cI_takeSet 71 = .ok (.aload_n 0, 1) := by decide +kernel
theorem dI_takeSet_72 : decode cI_takeSet 72 = .ok (.iload_n 3, 1) := by decide +kernel
theorem dI_takeSet_73 : decode cI_takeSet 73 = .ok (.invokevirtual 36, 3) := by decide +kernel
theorem dI_takeSet_76 : decode cI_takeSet 76 = .ok (.iload 4, 2) := by decide +kernel
theorem dI_takeSet_78 : decode cI_takeSet 78 = .ok (.ireturn, 1) := by decide +kernel
theorem dI_add_0 : decode cI_add 0 = .ok (.aload_n 0, 1) := by decide +kernel
theorem dI_add_1 : decode cI_add 1 = .ok (.aload_n 1, 1) := by decide +kernel
theorem dI_add_2 : decode cI_add 2 = .ok (.getfield 25, 3) := by decide +kernel
theorem dI_add_5 : decode cI_add 5 = .ok (.invokevirtual 29, 3) := by decide +kernel
theorem dI_add_8 : decode cI_add 8 = .ok (.pop, 1) := by decide +kernel
theorem dI_add_9 : decode cI_add 9 = .ok (.aload_n 0, 1) := by decide +kernel
theorem dI_add_10 : decode cI_add 10 = .ok (.getfield 11, 3) := by decide +kernel
theorem dI_add_13 : decode cI_add 13 = .ok (.aload_n 0, 1) := by decide +kernel
theorem dI_add_14 : decode cI_add 14 = .ok (.getfield 21, 3) := by decide +kernel
theorem dI_add_17 : decode cI_add 17 = .ok (.aload_n 1, 1) := by decide +kernel
theorem dI_add_18 : decode cI_add 18 = .ok (.aastore, 1) := by decide +kernel
theorem dI_add_19 : decode cI_add 19 = .ok (.aload_n 0, 1) := by decide +kernel
theorem dI_add_20 : decode cI_add 20 = .ok (.dup, 1) := by decide +kernel
theorem dI_add_21 : decode cI_add 21 = .ok (.getfield 21, 3) := by decide +kernel
theorem dI_add_24 : decode cI_add 24 = .ok (.iconst 1, 1) := by decide +kernel
theorem dI_add_25 : decode cI_add 25 = .ok (.iadd, 1) := by decide +kernel
theorem dI_add_26 : decode cI_add 26 = .ok (.putfield 21, 3) := by decide +kernel
theorem dI_add_29 : decode cI_add 29 = .ok (.aload_n 0, 1) := by decide +kernel
theorem dI_add_30 : decode cI_add 30 = .ok (.getfield 17, 3) := by decide +kernel
theorem dI_add_33 : decode cI_add 33 = .ok (.aload_n 1, 1) := by decide +kernel
theorem dI_add_34 : decode cI_add 34 = .ok (.getfield 33, 3) := by decide +kernel
theorem dI_add_37 : decode cI_add 37 = .ok (.dup2, 1) := by decide +kernel
theorem dI_add_38 : decode cI_add 38 = .ok (.iaload, 1) := by decide +kernel
theorem dI_add_39 : decode cI_add 39 = .ok (.iconst 1, 1) := by decide +kernel
theorem dI_add_40 : decode cI_add 40 = .ok (.iadd, 1) := by decide +kernel
theorem dI_add_41 : decode cI_add 41 = .ok (.iastore, 1) := by decide +kernel
theorem dI_add_42 : decode cI_add 42 = .ok (.return_, 1) := by decide +kernel
theorem dI_remove_0 : decode cI_remove 0 = .ok (.iconst 0, 1) := by decide +kernel
theorem dI_remove_1 : decode cI_remove 1 = .ok (.istore_n 3, 1) := by decide +kernel
theorem dI_remove_2 : decode cI_remove 2 = .ok (.aload_n 0, 1) := by decide +kernel
theorem dI_remove_3 : decode cI_remove 3 = .ok (.getfield 21, 3) := by decide +kernel
theorem dI_remove_6 : decode cI_remove 6 = .ok (.istore 4, 2) := by decide +kernel
theorem dI_remove_8 : decode cI_remove 8 = .ok (.iconst 0, 1) := by decide +kernel
theorem dI_remove_9 : decode cI_remove 9 = .ok (.istore 5, 2) := by decide +kernel
theorem dI_remove_11 : decode cI_remove 11 = .ok (.iload 5, 2) := by decide +kernel
theorem dI_remove_13 : decode cI_remove 13 = .ok (.iload 4, 2) := by decide +kernel
theorem dI_remove_15 : decode cI_remove 15 = .ok (.if_icmp .ge 62, 3) := by decide +kernel
theorem dI_remove_18 : decode cI_remove 18 = .ok (.aload_n 0, 1) := by decide +kernel
theorem dI_remove_19 : decode cI_remove 19 = .ok (.getfield 11, 3) := by decide +kernel
theorem dI_remove_22 : decode cI_remove 22 = .ok (.iload 5, 2) := by decide +kernel
theorem dI_remove_24 : decode cI_remove 24 = .ok (.aaload, 1) := by decide +kernel
theorem dI_remove_25 : decode cI_remove 25 = .ok (.getfield 25, 3) := by decide +kernel
theorem dI_remove_28 : decode cI_remove 28 = .ok (.lload_n 1, 1) := by decide +kernel
theorem dI_remove_29 : decode cI_remove 29 = .ok (.lcmp, 1) := by decide +kernel
theorem dI_remove_30 : decode cI_remove 30 = .ok (.ifCond .ne 25, 3) := by decide +kernel
theorem dI_remove_33 : decode cI_remove 33 = .ok (.aload_n 0, 1) := by decide +kernel
theorem dI_remove_34 : decode cI_remove 34 = .ok (.getfield 17, 3) := by decide +kernel
theorem dI_remove_37 : decode cI_remove 37 = .ok (.aload_n 0, 1) := by decide +kernel
theorem dI_remove_38 : decode cI_remove 38 = .ok (.getfield 11, 3) := by decide +kernel
theorem dI_remove_41 : decode cI_remove 41 = .ok (.iload 5, 2) := by decide +kernel
theorem dI_remove_43 : decode cI_remove 43 = .ok (.aaload, 1) := by decide +kernel
theorem dI_remove_44 : decode cI_remove 44 = .ok (.getfield 33, 3) := by decide +kernel
theorem dI_remove_47 : decode cI_remove 47 = .ok (.dup2, 1) := by decide +kernel
theorem dI_remove_48 : decode cI_remove 48 = .ok (.iaload, 1) := by decide +kernel
theorem dI_remove_49 : decode cI_remove 49 = .ok (.iconst 1, 1) := by decide +kernel
theorem dI_remove_50 : decode cI_remove 50 = .ok (.isub, 1) := by decide +kernel
theorem dI_remove_51 : decode cI_remove 51 = .ok (.iastore, 1) := by decide +kernel
theorem dI_remove_52 : decode cI_remove 52 = .ok (.goto 19, 3) := by decide +kernel
theorem dI_remove_55 : decode cI_remove 55 = .ok (.aload_n 0, 1) := by decide +kernel
theorem dI_remove_56 : decode cI_remove 56 = .ok (.getfield 11, 3) := by decide +kernel
theorem dI_remove_59 : decode cI_remove 59 = .ok (.iload_n 3, 1) := by decide +kernel
theorem dI_remove_60 : decode cI_remove 60 = .ok (.aload_n 0, 1) := by decide +kernel
theorem dI_remove_61 : decode cI_remove 61 = .ok (.getfield 11, 3) := by decide +kernel
theorem dI_remove_64 : decode cI_remove 64 = .ok (.iload 5, 2) := by decide +kernel
theorem dI_remove_66 : decode cI_remove 66 = .ok (.aaload, 1) := by decide +kernel
theorem dI_remove_67 : decode cI_remove 67 = .ok (.aastore, 1) := by decide +kernel
theorem dI_remove_68 : decode cI_remove 68 = .ok (.iinc 3 1, 3) := by decide +kernel
theorem dI_remove_71 : decode cI_remove 71 = .ok (.iinc 5 1, 3) := by decide +kernel
theorem dI_remove_74 : decode cI_remove 74 = .ok (.goto (-63), 3) := by decide +kernel
theorem dI_remove_77 : decode cI_remove 77 = .ok (.aload_n 0, 1) := by decide +kernel
theorem dI_remove_78 : decode cI_remove 78 = .ok (.iload_n 3, 1) := by decide +kernel
theorem dI_remove_79 : decode cI_remove 79 = .ok (.invokevirtual 36, 3) := by decide +kernel
theorem dI_remove_82 : decode cI_remove 82 = .ok (.iload_n 3, 1) := by decide +kernel
theorem dI_remove_83 : decode cI_remove 83 = .ok (.iload 4, 2) := by decide +kernel
theorem dI_remove_85 : decode cI_remove 85 = .ok (.if_icmp .ge 7, 3) := by decide +kernel
theorem dI_remove_88 : decode cI_remove 88 = .ok (.iconst 1, 1) := by decide +kernel
theorem dI_remove_89 : decode cI_remove 89 = .ok (.goto 4, 3) := by decide +kernel
theorem dI_remove_92 : decode cI_remove 92 = .ok (.iconst 0, 1) := by decide +kernel
theorem dI_remove_93 : decode cI_remove 93 = .ok (.ireturn, 1) := by decide +kernel
theorem dI_find_0 : decode cI_find 0 = .ok (.iconst 0, 1) := by decide +kernel
theorem dI_find_1 : decode cI_find 1 = .ok (.istore_n 3, 1) := by decide +kernel
theorem dI_find_2 : decode cI_find 2 = .ok (.iload_n 3, 1) := by decide +kernel
theorem dI_find_3 : decode cI_find 3 = .ok (.aload_n 0, 1) := by decide +kernel
theorem dI_find_4 : decode cI_find 4 = .ok (.getfield 21, 3) := by decide +kernel
theorem dI_find_7 : decode cI_find 7 = .ok (.if_icmp .ge 30, 3) := by decide +kernel
theorem dI_find_10 : decode cI_find 10 = .ok (.aload_n 0, 1) := by decide +kernel
theorem dI_find_11 : decode cI_find 11 = .ok (.getfield 11, 3) := by decide +kernel
theorem dI_find_14 : decode cI_find 14 = .ok (.iload_n 3, 1) := by decide +kernel
theorem dI_find_15 : decode cI_find 15 = .ok (.aaload, 1) := by decide +kernel
theorem dI_find_16 : decode cI_find 16 = .ok (.getfield 25, 3) := by decide +kernel
theorem dI_find_19 : decode cI_find 19 = .ok (.lload_n 1, 1) := by decide +kernel
theorem dI_find_20 : decode cI_find 20 = .ok (.lcmp, 1) := by decide +kernel
theorem dI_find_21 : decode cI_find 21 = .ok (.ifCond .ne 10, 3) := by decide +kernel
theorem dI_find_24 : decode cI_find 24 = .ok (.aload_n 0, 1) := by decide +kernel
theorem dI_find_25 : decode cI_find 25 = .ok (.getfield 11, 3) := by decide +kernel
theorem dI_find_28 : decode cI_find 28 = .ok (.iload_n 3, 1) := by decide +kernel
theorem dI_find_29 : decode cI_find 29 = .ok (.aaload, 1) := by decide +kernel
theorem dI_find_30 : decode cI_find 30 = .ok (.areturn, 1) := by decide +kernel
theorem dI_find_31 : decode cI_find 31 = .ok (.iinc 3 1, 3) := by decide +kernel
theorem dI_find_34 : decode cI_find 34 = .ok (.goto (-32), 3) := by decide +kernel
theorem dI_find_37 : decode cI_find 37 = .ok (.aconst_null, 1) := by decide +kernel
theorem dI_find_38 : decode cI_find 38 = .ok (.areturn, 1) := by decide +kernel
theorem dI_wipe_0 : decode cI_wipe 0 = .ok (.aload_n 0, 1) := by decide +kernel
theorem dI_wipe_1 : decode cI_wipe 1 = .ok (.iconst 0, 1) := by decide +kernel
theorem dI_wipe_2 : decode cI_wipe 2 = .ok (.invokevirtual 36, 3) := by decide +kernel
theorem dI_wipe_5 : decode cI_wipe 5 = .ok (.aload_n 0, 1) := by decide +kernel
theorem dI_wipe_6 : decode cI_wipe 6 = .ok (.getfield 17, 3) := by decide +kernel
theorem dI_wipe_9 : decode cI_wipe 9 = .ok (.iconst 0, 1) := by decide +kernel
theorem dI_wipe_10 : decode cI_wipe 10 = .ok (.invokestatic 47, 3) := by decide +kernel
theorem dI_wipe_13 : decode cI_wipe 13 = .ok (.return_, 1) := by decide +kernel
