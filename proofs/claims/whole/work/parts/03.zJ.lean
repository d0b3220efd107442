theorem dJ_copyOf_0 : decode cJ_copyOf 0 = .ok (.iload_n 1, 1) := by decide +kernel
theorem dJ_copyOf_1 : decode cJ_copyOf 1 = .ok (.aload_n 0, 1) := by decide +kernel
theorem dJ_copyOf_2 : decode cJ_copyOf 2 = .ok (.arraylength, 1) := by decide +kernel
theorem dJ_copyOf_3 : decode cJ_copyOf 3 = .ok (.if_icmp .ne 11, 3) := by decide +kernel
theorem dJ_copyOf_6 : decode cJ_copyOf 6 = .ok (.aload_n 0, 1) := by decide +kernel
theorem dJ_copyOf_7 : decode cJ_copyOf 7 = .ok (.invokevirtual 316, 3) := by decide +kernel
theorem dJ_copyOf_10 : decode cJ_copyOf 10 = .ok (.checkcast 317, 3) := by decide +kernel
theorem dJ_copyOf_13 : decode cJ_copyOf 13 = .ok (.areturn, 1) := by decide +kernel
theorem dJ_copyOf_14 : decode cJ_copyOf 14 = .ok (.iload_n 1, 1) := by decide +kernel
theorem dJ_copyOf_15 : decode cJ_copyOf 15 = .ok (.newarray .int, 2) := by decide +kernel
theorem dJ_copyOf_17 : decode cJ_copyOf 17 = .ok (.astore_n 2, 1) := by decide +kernel
theorem dJ_copyOf_18 : decode cJ_copyOf 18 = .ok (.aload_n 0, 1) := by decide +kernel
theorem dJ_copyOf_19 : decode cJ_copyOf 19 = .ok (.iconst 0, 1) := by decide +kernel
theorem dJ_copyOf_20 : decode cJ_copyOf 20 = .ok (.aload_n 2, 1) := by decide +kernel
theorem dJ_copyOf_21 : decode cJ_copyOf 21 = .ok (.iconst 0, 1) := by decide +kernel
theorem dJ_copyOf_22 : decode cJ_copyOf 22 = .ok (.aload_n 0, 1) := by decide +kernel
theorem dJ_copyOf_23 : decode cJ_copyOf 23 = .ok (.arraylength, 1) := by decide +kernel
theorem dJ_copyOf_24 : decode cJ_copyOf 24 = .ok (.iload_n 1, 1) := by decide +kernel
theorem dJ_copyOf_25 : decode cJ_copyOf 25 = .ok (.invokestatic 304, 3) := by decide +kernel
theorem dJ_copyOf_28 : decode cJ_copyOf 28 = .ok (.invokestatic 150, 3) := by decide +kernel
theorem dJ_copyOf_31 : decode cJ_copyOf 31 = .ok (.aload_n 2, 1) := by decide +kernel
theorem dJ_copyOf_32 : decode cJ_copyOf 32 = .ok (.areturn, 1) := by decide +kernel
theorem dJ_min_0 : decode cJ_min 0 = .ok (.iload_n 0, 1) := by decide +kernel
theorem dJ_min_1 : decode cJ_min 1 = .ok (.iload_n 1, 1) := by decide +kernel
theorem dJ_min_2 : decode cJ_min 2 = .ok (.if_icmp .gt 7, 3) := by decide +kernel
theorem dJ_min_5 : decode cJ_min 5 = .ok (.iload_n 0, 1) := by decide +kernel
theorem dJ_min_6 : decode cJ_min 6 = .ok (.goto 4, 3) := by decide +kernel
theorem dJ_min_9 : decode cJ_min 9 = .ok (.iload_n 1, 1) := by decide +kernel
theorem dJ_min_10 : decode cJ_min 10 = .ok (.ireturn, 1) := by decide +kernel
theorem dJ_fill_0 : decode cJ_fill 0 = .ok (.iconst 0, 1) := by decide +kernel
theorem dJ_fill_1 : decode cJ_fill 1 = .ok (.istore_n 2, 1) := by decide +kernel
theorem dJ_fill_2 : decode cJ_fill 2 = .ok (.aload_n 0, 1) := by decide +kernel
theorem dJ_fill_3 : decode cJ_fill 3 = .ok (.arraylength, 1) := by decide +kernel
theorem dJ_fill_4 : decode cJ_fill 4 = .ok (.istore_n 3, 1) := by decide +kernel
theorem dJ_fill_5 : decode cJ_fill 5 = .ok (.iload_n 2, 1) := by decide +kernel
theorem dJ_fill_6 : decode cJ_fill 6 = .ok (.iload_n 3, 1) := by decide +kernel
theorem dJ_fill_7 : decode cJ_fill 7 = .ok (.if_icmp .ge 13, 3) := by decide +kernel
theorem dJ_fill_10 : decode cJ_fill 10 = .ok (.aload_n 0, 1) := by decide +kernel
theorem dJ_fill_11 : decode cJ_fill 11 = .ok (.iload_n 2, 1) := by decide +kernel
theorem dJ_fill_12 : decode cJ_fill 12 = .ok (.iload_n 1, 1) := by decide +kernel
theorem dJ_fill_13 : decode cJ_fill 13 = .ok (.iastore, 1) := by decide +kernel
theorem dJ_fill_14 : decode cJ_fill 14 = .ok (.iinc 2 1, 3) := by decide +kernel
theorem dJ_fill_17 : decode cJ_fill 17 = .ok (.goto (-12), 3) := by decide +kernel
theorem dJ_fill_20 : decode cJ_fill 20 = .ok (.return_, 1) := by decide +kernel
