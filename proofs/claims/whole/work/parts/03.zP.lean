theorem dP_init_0 : decode cP_init 0 = .ok (.aload_n 0, 1) := by decide +kernel
theorem dP_init_1 : decode cP_init 1 = .ok (.invokespecial 3, 3) := by decide +kernel
theorem dP_init_4 : decode cP_init 4 = .ok (.aload_n 0, 1) := by decide +kernel
theorem dP_init_5 : decode cP_init 5 = .ok (.bipush 8, 2) := by decide +kernel
theorem dP_init_7 : decode cP_init 7 = .ok (.anewarray 9, 3) := by decide +kernel
theorem dP_init_10 : decode cP_init 10 = .ok (.putfield 11, 3) := by decide +kernel
theorem dP_init_13 : decode cP_init 13 = .ok (.aload_n 0, 1) := by decide +kernel
theorem dP_init_14 : decode cP_init 14 = .ok (.iconst 0, 1) := by decide +kernel
theorem dP_init_15 : decode cP_init 15 = .ok (.putfield 17, 3) := by decide +kernel
theorem dP_init_18 : decode cP_init 18 = .ok (.aload_n 0, 1) := by decide +kernel
theorem dP_init_19 : decode cP_init 19 = .ok (.iconst 0, 1) := by decide +kernel
theorem dP_init_20 : decode cP_init 20 = .ok (.putfield 21, 3) := by decide +kernel
theorem dP_init_23 : decode cP_init 23 = .ok (.aload_n 0, 1) := by decide +kernel
theorem dP_init_24 : decode cP_init 24 = .ok (.lconst 0, 1) := by decide +kernel
theorem dP_init_25 : decode cP_init 25 = .ok (.putfield 24, 3) := by decide +kernel
theorem dP_init_28 : decode cP_init 28 = .ok (.return_, 1) := by decide +kernel
theorem dP_hasRoomFor_0 : decode cP_hasRoomFor 0 = .ok (.aload_n 0, 1) := by decide +kernel
theorem dP_hasRoomFor_1 : decode cP_hasRoomFor 1 = .ok (.getfield 21, 3) := by decide +kernel
theorem dP_hasRoomFor_4 : decode cP_hasRoomFor 4 = .ok (.iload_n 1, 1) := by decide +kernel
theorem dP_hasRoomFor_5 : decode cP_hasRoomFor 5 = .ok (.iadd, 1) := by decide +kernel
theorem dP_hasRoomFor_6 : decode cP_hasRoomFor 6 = .ok (.bipush 32, 2) := by decide +kernel
theorem dP_hasRoomFor_8 : decode cP_hasRoomFor 8 = .ok (.if_icmp .gt 7, 3) := by decide +kernel
theorem dP_hasRoomFor_11 : decode cP_hasRoomFor 11 = .ok (.iconst 1, 1) := by decide +kernel
theorem dP_hasRoomFor_12 : decode cP_hasRoomFor 12 = .ok (.goto 4, 3) := by decide +kernel
theorem dP_hasRoomFor_15 : decode cP_hasRoomFor 15 = .ok (.iconst 0, 1) := by decide +kernel
theorem dP_hasRoomFor_16 : decode cP_hasRoomFor 16 = .ok (.ireturn, 1) := by decide +kernel
theorem dP_find_0 : decode cP_find 0 = .ok (.aload_n 0, 1) := by decide +kernel
theorem dP_find_1 : decode cP_find 1 = .ok (.lload_n 1, 1) := by decide +kernel
theorem dP_find_2 : decode cP_find 2 = .ok (.invokevirtual 34, 3) := by decide +kernel
theorem dP_find_5 : decode cP_find 5 = .ok (.istore_n 3, 1) := by decide +kernel
theorem dP_find_6 : decode cP_find 6 = .ok (.iload_n 3, 1) := by decide +kernel
theorem dP_find_7 : decode cP_find 7 = .ok (.iconst (-1), 1) := by decide +kernel
theorem dP_find_8 : decode cP_find 8 = .ok (.if_icmp .ne 7, 3) := by decide +kernel
theorem dP_find_11 : decode cP_find 11 = .ok (.aconst_null, 1) := by decide +kernel
theorem dP_find_12 : decode cP_find 12 = .ok (.goto 9, 3) := by decide +kernel
theorem dP_find_15 : decode cP_find 15 = .ok (.aload_n 0, 1) := by decide +kernel
theorem dP_find_16 : decode cP_find 16 = .ok (.getfield 11, 3) := by decide +kernel
theorem dP_find_19 : decode cP_find 19 = .ok (.iload_n 3, 1) := by decide +kernel
theorem dP_find_20 : decode cP_find 20 = .ok (.aaload, 1) := by decide +kernel
theorem dP_find_21 : decode cP_find 21 = .ok (.areturn, 1) := by decide +kernel
theorem dP_placeOf_0 : decode cP_placeOf 0 = .ok (.iconst 0, 1) := by decide +kernel
theorem dP_placeOf_1 : decode cP_placeOf 1 = .ok (.istore_n 3, 1) := by decide +kernel
theorem dP_placeOf_2 : decode cP_placeOf 2 = .ok (.iload_n 3, 1) := by decide +kernel
theorem dP_placeOf_3 : decode cP_placeOf 3 = .ok (.aload_n 0, 1) := by decide +kernel
theorem dP_placeOf_4 : decode cP_placeOf 4 = .ok (.getfield 17, 3) := by decide +kernel
theorem dP_placeOf_7 : decode cP_placeOf 7 = .ok (.if_icmp .ge 25, 3) := by decide +kernel
theorem dP_placeOf_10 : decode cP_placeOf 10 = .ok (.aload_n 0, 1) := by decide +kernel
theorem dP_placeOf_11 : decode cP_placeOf 11 = .ok (.getfield 11, 3) := by decide +kernel
theorem dP_placeOf_14 : decode cP_placeOf 14 = .ok (.iload_n 3, 1) := by decide +kernel
theorem dP_placeOf_15 : decode cP_placeOf 15 = .ok (.aaload, 1) := by decide +kernel
theorem dP_placeOf_16 : decode cP_placeOf 16 = .ok (.getfield 54, 3) := by decide +kernel
theorem dP_placeOf_19 : decode cP_placeOf 19 = .ok (.lload_n 1, 1) := by decide +kernel
theorem dP_placeOf_20 : decode cP_placeOf 20 = .ok (.lcmp, 1) := by decide +kernel
theorem dP_placeOf_21 : decode cP_placeOf 21 = .ok (.ifCond .ne 5, 3) := by decide +kernel
theorem dP_placeOf_24 : decode cP_placeOf 24 = .ok (.iload_n 3, 1) := by decide +kernel
theorem dP_placeOf_25 : decode cP_placeOf 25 = .ok (.ireturn, 1) := by decide +kernel
theorem dP_placeOf_26 : decode cP_placeOf 26 = .ok (.iinc 3 1, 3) := by decide +kernel
theorem dP_placeOf_29 : decode cP_placeOf 29 = .ok (.goto (-27), 3) := by decide +kernel
theorem dP_placeOf_32 : decode cP_placeOf 32 = .ok (.iconst (-1), 1) := by decide +kernel
theorem dP_placeOf_33 : decode cP_placeOf 33 = .ok (.ireturn, 1) := by decide +kernel
theorem dP_remove_0 : decode cP_remove 0 = .ok (.aload_n 0, 1) := by decide +kernel
theorem dP_remove_1 : decode cP_remove 1 = .ok (.lload_n 1, 1) := by decide +kernel
theorem dP_remove_2 : decode cP_remove 2 = .ok (.invokevirtual 34, 3) := by decide +kernel
theorem dP_remove_5 : decode cP_remove 5 = .ok (.istore_n 3, 1) := by decide +kernel
theorem dP_remove_6 : decode cP_remove 6 = .ok (.iload_n 3, 1) := by decide +kernel
theorem dP_remove_7 : decode cP_remove 7 = .ok (.iconst (-1), 1) := by decide +kernel
theorem dP_remove_8 : decode cP_remove 8 = .ok (.if_icmp .eq 8, 3) := by decide +kernel
theorem dP_remove_11 : decode cP_remove 11 = .ok (.aload_n 0, 1) := by decide +kernel
theorem dP_remove_12 : decode cP_remove 12 = .ok (.iload_n 3, 1) := by decide +kernel
theorem dP_remove_13 : decode cP_remove 13 = .ok (.invokevirtual 38, 3) := by decide +kernel
theorem dP_remove_16 : decode cP_remove 16 = .ok (.return_, 1) := by decide +kernel
theorem dP_removeAt_0 : decode cP_removeAt 0 = .ok (.aload_n 0, 1) := by decide +kernel
theorem dP_removeAt_1 : decode cP_removeAt 1 = .ok (.dup, 1) := by decide +kernel
theorem dP_removeAt_2 : decode cP_removeAt 2 = .ok (.getfield 21, 3) := by decide +kernel
theorem dP_removeAt_5 : decode cP_removeAt 5 = .ok (.aload_n 0, 1) := by decide +kernel
theorem dP_removeAt_6 : decode cP_removeAt 6 = .ok (.getfield 11, 3) := by decide +kernel
theorem dP_removeAt_9 : decode cP_removeAt 9 = .ok (.iload_n 1, 1) := by decide +kernel
theorem dP_removeAt_10 : decode cP_removeAt 10 = .ok (.aaload, 1) := by decide +kernel
theorem dP_removeAt_11 : decode cP_removeAt 11 = .ok (.invokevirtual 28, 3) := by decide +kernel
theorem dP_removeAt_14 : decode cP_removeAt 14 = .ok (.isub, 1) := by decide +kernel
theorem dP_removeAt_15 : decode cP_removeAt 15 = .ok (.putfield 21, 3) := by decide +kernel
theorem dP_removeAt_18 : decode cP_removeAt 18 = .ok (.aload_n 0, 1) := by decide +kernel
theorem dP_removeAt_19 : decode cP_removeAt 19 = .ok (.dup, 1) := by decide +kernel
theorem dP_removeAt_20 : decode cP_removeAt 20 = .ok (.getfield 17, 3) := by decide +kernel
theorem dP_removeAt_23 : decode cP_removeAt 23 = .ok (.iconst 1, 1) := by decide +kernel
theorem dP_removeAt_24 : decode cP_removeAt 24 = .ok (.isub, 1) := by decide +kernel
theorem dP_removeAt_25 : decode cP_removeAt 25 = .ok (.putfield 17, 3) := by decide +kernel
theorem dP_removeAt_28 : decode cP_removeAt 28 = .ok (.iload_n 1, 1) := by decide +kernel
theorem dP_removeAt_29 : decode cP_removeAt 29 = .ok (.istore_n 2, 1) := by decide +kernel
theorem dP_removeAt_30 : decode cP_removeAt 30 = .ok (.iload_n 2, 1) := by decide +kernel
theorem dP_removeAt_31 : decode cP_removeAt 31 = .ok (.aload_n 0, 1) := by decide +kernel
theorem dP_removeAt_32 : decode cP_removeAt 32 = .ok (.getfield 17, 3) := by decide +kernel
theorem dP_removeAt_35 : decode cP_removeAt 35 = .ok (.if_icmp .ge 23, 3) := by decide +kernel
theorem dP_removeAt_38 : decode cP_removeAt 38 = .ok (.aload_n 0, 1) := by decide +kernel
theorem dP_removeAt_39 : decode cP_removeAt 39 = .ok (.getfield 11, 3) := by decide +kernel
theorem dP_removeAt_42 : decode cP_removeAt 42 = .ok (.iload_n 2, 1) := by decide +kernel
theorem dP_removeAt_43 : decode cP_removeAt 43 = .ok (.aload_n 0, 1) := by decide +kernel
theorem dP_removeAt_44 : decode cP_removeAt 44 = .ok (.getfield 11, 3) := by decide +kernel
theorem dP_removeAt_47 : decode cP_removeAt 47 = .ok (.iload_n 2, 1) := by decide +kernel
theorem dP_removeAt_48 : decode cP_removeAt 48 = .ok (.iconst 1, 1) := by decide +kernel
theorem dP_removeAt_49 : decode cP_removeAt 49 = .ok (.iadd, 1) := by decide +kernel
theorem dP_removeAt_50 : decode cP_removeAt 50 = .ok (.aaload, 1) := by decide +kernel
theorem dP_removeAt_51 : decode cP_removeAt 51 = .ok (.aastore, 1) := by decide +kernel
theorem dP_removeAt_52 : decode cP_removeAt 52 = .ok (.iinc 2 1, 3) := by decide +kernel
theorem dP_removeAt_55 : decode cP_removeAt 55 = .ok (.goto (-25), 3) := by decide +kernel
theorem dP_removeAt_58 : decode cP_removeAt 58 = .ok (.aload_n 0, 1) := by decide +kernel
theorem dP_removeAt_59 : decode cP_removeAt 59 = .ok (.getfield 11, 3) := by decide +kernel
theorem dP_removeAt_62 : decode cP_removeAt 62 = .ok (.aload_n 0, 1) := by decide +kernel
theorem dP_removeAt_63 : decode cP_removeAt 63 = .ok (.getfield 17, 3) := by decide +kernel
theorem dP_removeAt_66 : decode cP_removeAt 66 = .ok (.aconst_null, 1) := by decide +kernel
theorem dP_removeAt_67 : decode cP_removeAt 67 = .ok (.aastore, 1) := by decide +kernel
theorem dP_removeAt_68 : decode cP_removeAt 68 = .ok (.aload_n 0, 1) := by decide +kernel
theorem dP_removeAt_69 : decode cP_removeAt 69 = .ok (.lconst 0, 1) := by decide +kernel
theorem dP_removeAt_70 : decode cP_removeAt 70 = .ok (.putfield 24, 3) := by decide +kernel
theorem dP_removeAt_73 : decode cP_removeAt 73 = .ok (.iconst 0, 1) := by decide +kernel
theorem dP_removeAt_74 : decode cP_removeAt 74 = .ok (.istore_n 2, 1) := by decide +kernel
theorem dP_removeAt_75 : decode cP_removeAt 75 = .ok (.iload_n 2, 1) := by decide +kernel
theorem dP_removeAt_76 : decode cP_removeAt 76 = .ok (.aload_n 0, 1) := by decide +kernel
theorem dP_removeAt_77 : decode cP_removeAt 77 = .ok (.getfield 17, 3) := by decide +kernel
theorem dP_removeAt_80 : decode cP_removeAt 80 = .ok (.if_icmp .ge 27, 3) := by decide +kernel
theorem dP_removeAt_83 : decode cP_removeAt 83 = .ok (.aload_n 0, 1) := by decide +kernel
theorem dP_removeAt_84 : decode cP_removeAt 84 = .ok (.dup, 1) := by decide +kernel
theorem dP_removeAt_85 : decode cP_removeAt 85 = .ok (.getfield 24, 3) := by decide +kernel
theorem dP_removeAt_88 : decode cP_removeAt 88 = .ok (.aload_n 0, 1) := by decide +kernel
theorem dP_removeAt_89 : decode cP_removeAt 89 = .ok (.getfield 11, 3) := by decide +kernel
theorem dP_removeAt_92 : decode cP_removeAt 92 = .ok (.iload_n 2, 1) := by decide +kernel
theorem dP_removeAt_93 : decode cP_removeAt 93 = .ok (.aaload, 1) := by decide +kernel
theorem dP_removeAt_94 : decode cP_removeAt 94 = .ok (.getfield 31, 3) := by decide +kernel
theorem dP_removeAt_97 : decode cP_removeAt 97 = .ok (.lor, 1) := by decide +kernel
theorem dP_removeAt_98 : decode cP_removeAt 98 = .ok (.putfield 24, 3) := by decide +kernel
theorem dP_removeAt_101 : decode cP_removeAt 101 = .ok (.iinc 2 1, 3) := by decide +kernel
theorem dP_removeAt_104 : decode cP_removeAt 104 = .ok (.goto (-29), 3) := by decide +kernel
theorem dP_removeAt_107 : decode cP_removeAt 107 = .ok (.return_, 1) := by decide +kernel
theorem dP_dropFor_0 : decode cP_dropFor 0 = .ok (.aload_n 0, 1) := by decide +kernel
theorem dP_dropFor_1 : decode cP_dropFor 1 = .ok (.getfield 17, 3) := by decide +kernel
theorem dP_dropFor_4 : decode cP_dropFor 4 = .ok (.istore_n 3, 1) := by decide +kernel
theorem dP_dropFor_5 : decode cP_dropFor 5 = .ok (.iconst 0, 1) := by decide +kernel
theorem dP_dropFor_6 : decode cP_dropFor 6 = .ok (.istore 4, 2) := by decide +kernel
theorem dP_dropFor_8 : decode cP_dropFor 8 = .ok (.iconst 0, 1) := by decide +kernel
theorem dP_dropFor_9 : decode cP_dropFor 9 = .ok (.istore 5, 2) := by decide +kernel
theorem dP_dropFor_11 : decode cP_dropFor 11 = .ok (.iload 5, 2) := by decide +kernel
theorem dP_dropFor_13 : decode cP_dropFor 13 = .ok (.iload_n 3, 1) := by decide +kernel
theorem dP_dropFor_14 : decode cP_dropFor 14 = .ok (.if_icmp .ge 43, 3) := by decide +kernel
theorem dP_dropFor_17 : decode cP_dropFor 17 = .ok (.aload_n 0, 1) := by decide +kernel
theorem dP_dropFor_18 : decode cP_dropFor 18 = .ok (.iload_n 1, 1) := by decide +kernel
theorem dP_dropFor_19 : decode cP_dropFor 19 = .ok (.invokevirtual 42, 3) := by decide +kernel
theorem dP_dropFor_22 : decode cP_dropFor 22 = .ok (.ifCond .ne 35, 3) := by decide +kernel
theorem dP_dropFor_25 : decode cP_dropFor 25 = .ok (.aload_n 0, 1) := by decide +kernel
theorem dP_dropFor_26 : decode cP_dropFor 26 = .ok (.getfield 11, 3) := by decide +kernel
theorem dP_dropFor_29 : decode cP_dropFor 29 = .ok (.iload 4, 2) := by decide +kernel
theorem dP_dropFor_31 : decode cP_dropFor 31 = .ok (.aaload, 1) := by decide +kernel
theorem dP_dropFor_32 : decode cP_dropFor 32 = .ok (.getfield 46, 3) := by decide +kernel
theorem dP_dropFor_35 : decode cP_dropFor 35 = .ok (.iload_n 2, 1) := by decide +kernel
theorem dP_dropFor_36 : decode cP_dropFor 36 = .ok (.if_icmp .ne 12, 3) := by decide +kernel
theorem dP_dropFor_39 : decode cP_dropFor 39 = .ok (.aload_n 0, 1) := by decide +kernel
theorem dP_dropFor_40 : decode cP_dropFor 40 = .ok (.iload 4, 2) := by decide +kernel
theorem dP_dropFor_42 : decode cP_dropFor 42 = .ok (.invokevirtual 38, 3) := by decide +kernel
theorem dP_dropFor_45 : decode cP_dropFor 45 = .ok (.goto 6, 3) := by decide +kernel
theorem dP_dropFor_48 : decode cP_dropFor 48 = .ok (.iinc 4 1, 3) := by decide +kernel
theorem dP_dropFor_51 : decode cP_dropFor 51 = .ok (.iinc 5 1, 3) := by decide +kernel
theorem dP_dropFor_54 : decode cP_dropFor 54 = .ok (.goto (-43), 3) := by decide +kernel
theorem dP_dropFor_57 : decode cP_dropFor 57 = .ok (.iload_n 3, 1) := by decide +kernel
theorem dP_dropFor_58 : decode cP_dropFor 58 = .ok (.aload_n 0, 1) := by decide +kernel
theorem dP_dropFor_59 : decode cP_dropFor 59 = .ok (.getfield 17, 3) := by decide +kernel
theorem dP_dropFor_62 : decode cP_dropFor 62 = .ok (.isub, 1) := by decide +kernel
theorem dP_dropFor_63 : decode cP_dropFor 63 = .ok (.ireturn, 1) := by decide +kernel
theorem dP_add_0 : decode cP_add 0 = .ok (.aload_n 0, 1) := by decide +kernel
theorem dP_add_1 : decode cP_add 1 = .ok (.getfield 11, 3) := by decide +kernel
theorem dP_add_4 : decode cP_add 4 = .ok (.aload_n 0, 1) := by decide +kernel
theorem dP_add_5 : decode cP_add 5 = .ok (.getfield 17, 3) := by decide +kernel
theorem dP_add_8 : decode cP_add 8 = .ok (.aload_n 1, 1) := by decide +kernel
theorem dP_add_9 : decode cP_add 9 = .ok (.aastore, 1) := by decide +kernel
theorem dP_add_10 : decode cP_add 10 = .ok (.aload_n 0, 1) := by decide +kernel
theorem dP_add_11 : decode cP_add 11 = .ok (.dup, 1) := by decide +kernel
theorem dP_add_12 : decode cP_add 12 = .ok (.getfield 17, 3) := by decide +kernel
theorem dP_add_15 : decode cP_add 15 = .ok (.iconst 1, 1) := by decide +kernel
theorem dP_add_16 : decode cP_add 16 = .ok (.iadd, 1) := by decide +kernel
theorem dP_add_17 : decode cP_add 17 = .ok (.putfield 17, 3) := by decide +kernel
theorem dP_add_20 : decode cP_add 20 = .ok (.aload_n 0, 1) := by decide +kernel
theorem dP_add_21 : decode cP_add 21 = .ok (.dup, 1) := by decide +kernel
theorem dP_add_22 : decode cP_add 22 = .ok (.getfield 21, 3) := by decide +kernel
theorem dP_add_25 : decode cP_add 25 = .ok (.aload_n 1, 1) := by decide +kernel
theorem dP_add_26 : decode cP_add 26 = .ok (.invokevirtual 28, 3) := by decide +kernel
theorem dP_add_29 : decode cP_add 29 = .ok (.iadd, 1) := by decide +kernel
theorem dP_add_30 : decode cP_add 30 = .ok (.putfield 21, 3) := by decide +kernel
theorem dP_add_33 : decode cP_add 33 = .ok (.aload_n 0, 1) := by decide +kernel
theorem dP_add_34 : decode cP_add 34 = .ok (.dup, 1) := by decide +kernel
theorem dP_add_35 : decode cP_add 35 = .ok (.getfield 24, 3) := by decide +kernel
theorem dP_add_38 : decode cP_add 38 = .ok (.aload_n 1, 1) := by decide +kernel
theorem dP_add_39 : decode cP_add 39 = .ok (.getfield 31, 3) := by decide +kernel
theorem dP_add_42 : decode cP_add 42 = .ok (.lor, 1) := by decide +kernel
theorem dP_add_43 : decode cP_add 43 = .ok (.putfield 24, 3) := by decide +kernel
theorem dP_add_46 : decode cP_add 46 = .ok (.return_, 1) := by decide +kernel
theorem dP_clearMarks_0 : decode cP_clearMarks 0 = .ok (.iconst 0, 1) := by decide +kernel
theorem dP_clearMarks_1 : decode cP_clearMarks 1 = .ok (.istore_n 1, 1) := by decide +kernel
theorem dP_clearMarks_2 : decode cP_clearMarks 2 = .ok (.iload_n 1, 1) := by decide +kernel
theorem dP_clearMarks_3 : decode cP_clearMarks 3 = .ok (.aload_n 0, 1) := by decide +kernel
theorem dP_clearMarks_4 : decode cP_clearMarks 4 = .ok (.getfield 17, 3) := by decide +kernel
theorem dP_clearMarks_7 : decode cP_clearMarks 7 = .ok (.if_icmp .ge 19, 3) := by decide +kernel
theorem dP_clearMarks_10 : decode cP_clearMarks 10 = .ok (.aload_n 0, 1) := by decide +kernel
theorem dP_clearMarks_11 : decode cP_clearMarks 11 = .ok (.getfield 11, 3) := by decide +kernel
theorem dP_clearMarks_14 : decode cP_clearMarks 14 = .ok (.iload_n 1, 1) := by decide +kernel
theorem dP_clearMarks_15 : decode cP_clearMarks 15 = .ok (.aaload, 1) := by decide +kernel
theorem dP_clearMarks_16 : decode cP_clearMarks 16 = .ok (.iconst 0, 1) := by decide +kernel
theorem dP_clearMarks_17 : decode cP_clearMarks 17 = .ok (.putfield 46, 3) := by decide +kernel
theorem dP_clearMarks_20 : decode cP_clearMarks 20 = .ok (.iinc 1 1, 3) := by decide +kernel
theorem dP_clearMarks_23 : decode cP_clearMarks 23 = .ok (.goto (-21), 3) := by decide +kernel
theorem dP_clearMarks_26 : decode cP_clearMarks 26 = .ok (.return_, 1) := by decide +kernel
theorem dP_wipe_0 : decode cP_wipe 0 = .ok (.iconst 0, 1) := by decide +kernel
theorem dP_wipe_1 : decode cP_wipe 1 = .ok (.istore_n 1, 1) := by decide +kernel
theorem dP_wipe_2 : decode cP_wipe 2 = .ok (.iload_n 1, 1) := by decide +kernel
theorem dP_wipe_3 : decode cP_wipe 3 = .ok (.bipush 8, 2) := by decide +kernel
theorem dP_wipe_5 : decode cP_wipe 5 = .ok (.if_icmp .ge 16, 3) := by decide +kernel
theorem dP_wipe_8 : decode cP_wipe 8 = .ok (.aload_n 0, 1) := by decide +kernel
theorem dP_wipe_9 : decode cP_wipe 9 = .ok (.getfield 11, 3) := by decide +kernel
theorem dP_wipe_12 : decode cP_wipe 12 = .ok (.iload_n 1, 1) := by decide +kernel
theorem dP_wipe_13 : decode cP_wipe 13 = .ok (.aconst_null, 1) := by decide +kernel
theorem dP_wipe_14 : decode cP_wipe 14 = .ok (.aastore, 1) := by decide +kernel
theorem dP_wipe_15 : decode cP_wipe 15 = .ok (.iinc 1 1, 3) := by decide +kernel
theorem dP_wipe_18 : decode cP_wipe 18 = .ok (.goto (-16), 3) := by decide +kernel
theorem dP_wipe_21 : decode cP_wipe 21 = .ok (.aload_n 0, 1) := by decide +kernel
theorem dP_wipe_22 : decode cP_wipe 22 = .ok (.iconst 0, 1) := by decide +kernel
theorem dP_wipe_23 : decode cP_wipe 23 = .ok (.putfield 17, 3) := by decide +kernel
theorem dP_wipe_26 : decode cP_wipe 26 = .ok (.aload_n 0, 1) := by decide +kernel
theorem dP_wipe_27 : decode cP_wipe 27 = .ok (.iconst 0, 1) := by decide +kernel
theorem dP_wipe_28 : decode cP_wipe 28 = .ok (.putfield 21, 3) := by decide +kernel
theorem dP_wipe_31 : decode cP_wipe 31 = .ok (.aload_n 0, 1) := by decide +kernel
theorem dP_wipe_32 : decode cP_wipe 32 = .ok (.lconst 0, 1) := by decide +kernel
theorem dP_wipe_33 : decode cP_wipe 33 = .ok (.putfield 24, 3) := by decide +kernel
theorem dP_wipe_36 : decode cP_wipe 36 = .ok (.return_, 1) := by decide +kernel
theorem dP_wordAt_0 : decode cP_wordAt 0 = .ok (.iconst 0, 1) := by decide +kernel
theorem dP_wordAt_1 : decode cP_wordAt 1 = .ok (.istore_n 2, 1) := by decide +kernel
theorem dP_wordAt_2 : decode cP_wordAt 2 = .ok (.iconst 0, 1) := by decide +kernel
theorem dP_wordAt_3 : decode cP_wordAt 3 = .ok (.istore_n 3, 1) := by decide +kernel
theorem dP_wordAt_4 : decode cP_wordAt 4 = .ok (.iload_n 3, 1) := by decide +kernel
theorem dP_wordAt_5 : decode cP_wordAt 5 = .ok (.aload_n 0, 1) := by decide +kernel
theorem dP_wordAt_6 : decode cP_wordAt 6 = .ok (.getfield 17, 3) := by decide +kernel
theorem dP_wordAt_9 : decode cP_wordAt 9 = .ok (.if_icmp .ge 44, 3) := by decide +kernel
theorem dP_wordAt_12 : decode cP_wordAt 12 = .ok (.iload_n 2, 1) := by decide +kernel
theorem dP_wordAt_13 : decode cP_wordAt 13 = .ok (.aload_n 0, 1) := by decide +kernel
theorem dP_wordAt_14 : decode cP_wordAt 14 = .ok (.getfield 11, 3) := by decide +kernel
theorem dP_wordAt_17 : decode cP_wordAt 17 = .ok (.iload_n 3, 1) := by decide +kernel
theorem dP_wordAt_18 : decode cP_wordAt 18 = .ok (.aaload, 1) := by decide +kernel
theorem dP_wordAt_19 : decode cP_wordAt 19 = .ok (.invokevirtual 28, 3) := by decide +kernel
theorem dP_wordAt_22 : decode cP_wordAt 22 = .ok (.iadd, 1) := by decide +kernel
theorem dP_wordAt_23 : decode cP_wordAt 23 = .ok (.istore 4, 2) := by decide +kernel
theorem dP_wordAt_25 : decode cP_wordAt 25 = .ok (.iload_n 1, 1) := by decide +kernel
theorem dP_wordAt_26 : decode cP_wordAt 26 = .ok (.iload 4, 2) := by decide +kernel
theorem dP_wordAt_28 : decode cP_wordAt 28 = .ok (.if_icmp .ge 16, 3) := by decide +kernel
theorem dP_wordAt_31 : decode cP_wordAt 31 = .ok (.aload_n 0, 1) := by decide +kernel
theorem dP_wordAt_32 : decode cP_wordAt 32 = .ok (.getfield 11, 3) := by decide +kernel
theorem dP_wordAt_35 : decode cP_wordAt 35 = .ok (.iload_n 3, 1) := by decide +kernel
theorem dP_wordAt_36 : decode cP_wordAt 36 = .ok (.aaload, 1) := by decide +kernel
theorem dP_wordAt_37 : decode cP_wordAt 37 = .ok (.iload_n 1, 1) := by decide +kernel
theorem dP_wordAt_38 : decode cP_wordAt 38 = .ok (.iload_n 2, 1) := by decide +kernel
theorem dP_wordAt_39 : decode cP_wordAt 39 = .ok (.isub, 1) := by decide +kernel
theorem dP_wordAt_40 : decode cP_wordAt 40 = .ok (.invokevirtual 50, 3) := by decide +kernel
theorem dP_wordAt_43 : decode cP_wordAt 43 = .ok (.ireturn, 1) := by decide +kernel
theorem dP_wordAt_44 : decode cP_wordAt 44 = .ok (.iload 4, 2) := by decide +kernel
theorem dP_wordAt_46 : decode cP_wordAt 46 = .ok (.istore_n 2, 1) := by decide +kernel
theorem dP_wordAt_47 : decode cP_wordAt 47 = .ok (.iinc 3 1, 3) := by decide +kernel
theorem dP_wordAt_50 : decode cP_wordAt 50 = .ok (.goto (-46), 3) := by decide +kernel
theorem dP_wordAt_53 : decode cP_wordAt 53 = .ok (.iconst 0, 1) := by decide +kernel
theorem dP_wordAt_54 : decode cP_wordAt 54 = .ok (.ireturn, 1) := by decide +kernel
