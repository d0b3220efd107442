theorem dG_init_0 : decode cG_init 0 = .ok (.aload_n 0, 1) := by decide +kernel
theorem dG_init_1 : decode cG_init 1 = .ok (.invokespecial 3, 3) := by decide +kernel
theorem dG_init_4 : decode cG_init 4 = .ok (.aload_n 0, 1) := by decide +kernel
theorem dG_init_5 : decode cG_init 5 = .ok (.bipush 32, 2) := by decide +kernel
theorem dG_init_7 : decode cG_init 7 = .ok (.invokestatic 9, 3) := by decide +kernel
theorem dG_init_10 : decode cG_init 10 = .ok (.putfield 13, 3) := by decide +kernel
theorem dG_init_13 : decode cG_init 13 = .ok (.aload_n 0, 1) := by decide +kernel
theorem dG_init_14 : decode cG_init 14 = .ok (.new 19, 3) := by decide +kernel
theorem dG_init_17 : decode cG_init 17 = .ok (.dup, 1) := by decide +kernel
theorem dG_init_18 : decode cG_init 18 = .ok (.invokespecial 21, 3) := by decide +kernel
theorem dG_init_21 : decode cG_init 21 = .ok (.putfield 22, 3) := by decide +kernel
theorem dG_init_24 : decode cG_init 24 = .ok (.aload_n 0, 1) := by decide +kernel
theorem dG_init_25 : decode cG_init 25 = .ok (.new 26, 3) := by decide +kernel
theorem dG_init_28 : decode cG_init 28 = .ok (.dup, 1) := by decide +kernel
theorem dG_init_29 : decode cG_init 29 = .ok (.invokespecial 28, 3) := by decide +kernel
theorem dG_init_32 : decode cG_init 32 = .ok (.putfield 29, 3) := by decide +kernel
theorem dG_init_35 : decode cG_init 35 = .ok (.aload_n 0, 1) := by decide +kernel
theorem dG_init_36 : decode cG_init 36 = .ok (.iconst 0, 1) := by decide +kernel
theorem dG_init_37 : decode cG_init 37 = .ok (.putfield 33, 3) := by decide +kernel
theorem dG_init_40 : decode cG_init 40 = .ok (.return_, 1) := by decide +kernel
theorem dG_fullSegments_0 : decode cG_fullSegments 0 = .ok (.aload_n 0, 1) := by decide +kernel
theorem dG_fullSegments_1 : decode cG_fullSegments 1 = .ok (.getfield 33, 3) := by decide +kernel
theorem dG_fullSegments_4 : decode cG_fullSegments 4 = .ok (.iconst 4, 1) := by decide +kernel
theorem dG_fullSegments_5 : decode cG_fullSegments 5 = .ok (.idiv, 1) := by decide +kernel
theorem dG_fullSegments_6 : decode cG_fullSegments 6 = .ok (.ireturn, 1) := by decide +kernel
theorem dG_hasRoomFor_0 : decode cG_hasRoomFor 0 = .ok (.aload_n 0, 1) := by decide +kernel
theorem dG_hasRoomFor_1 : decode cG_hasRoomFor 1 = .ok (.getfield 29, 3) := by decide +kernel
theorem dG_hasRoomFor_4 : decode cG_hasRoomFor 4 = .ok (.aload_n 1, 1) := by decide +kernel
theorem dG_hasRoomFor_5 : decode cG_hasRoomFor 5 = .ok (.invokevirtual 37, 3) := by decide +kernel
theorem dG_hasRoomFor_8 : decode cG_hasRoomFor 8 = .ok (.invokevirtual 43, 3) := by decide +kernel
theorem dG_hasRoomFor_11 : decode cG_hasRoomFor 11 = .ok (.ireturn, 1) := by decide +kernel
theorem dG_isBeforeWrittenSegment_0 : decode cG_isBeforeWrittenSegment 0 = .ok (.aload_n 0, 1) := by decide +kernel
theorem dG_isBeforeWrittenSegment_1 : decode cG_isBeforeWrittenSegment 1 = .ok (.getfield 33, 3) := by decide +kernel
theorem dG_isBeforeWrittenSegment_4 : decode cG_isBeforeWrittenSegment 4 = .ok (.bipush 32, 2) := by decide +kernel
theorem dG_isBeforeWrittenSegment_6 : decode cG_isBeforeWrittenSegment 6 = .ok (.if_icmp .lt 16, 3) := by decide +kernel
theorem dG_isBeforeWrittenSegment_9 : decode cG_isBeforeWrittenSegment 9 = .ok (.aload_n 0, 1) := by decide +kernel
theorem dG_isBeforeWrittenSegment_10 : decode cG_isBeforeWrittenSegment 10 = .ok (.getfield 33, 3) := by decide +kernel
theorem dG_isBeforeWrittenSegment_13 : decode cG_isBeforeWrittenSegment 13 = .ok (.iconst 4, 1) := by decide +kernel
theorem dG_isBeforeWrittenSegment_14 : decode cG_isBeforeWrittenSegment 14 = .ok (.irem, 1) := by decide +kernel
theorem dG_isBeforeWrittenSegment_15 : decode cG_isBeforeWrittenSegment 15 = .ok (.ifCond .ne 7, 3) := by decide +kernel
theorem dG_isBeforeWrittenSegment_18 : decode cG_isBeforeWrittenSegment 18 = .ok (.iconst 1, 1) := by decide +kernel
theorem dG_isBeforeWrittenSegment_19 : decode cG_isBeforeWrittenSegment 19 = .ok (.goto 4, 3) := by decide +kernel
theorem dG_isBeforeWrittenSegment_22 : decode cG_isBeforeWrittenSegment 22 = .ok (.iconst 0, 1) := by decide +kernel
theorem dG_isBeforeWrittenSegment_23 : decode cG_isBeforeWrittenSegment 23 = .ok (.ireturn, 1) := by decide +kernel
theorem dG_oldestSegmentEnd_0 : decode cG_oldestSegmentEnd 0 = .ok (.aload_n 0, 1) := by decide +kernel
theorem dG_oldestSegmentEnd_1 : decode cG_oldestSegmentEnd 1 = .ok (.getfield 33, 3) := by decide +kernel
theorem dG_oldestSegmentEnd_4 : decode cG_oldestSegmentEnd 4 = .ok (.bipush 32, 2) := by decide +kernel
theorem dG_oldestSegmentEnd_6 : decode cG_oldestSegmentEnd 6 = .ok (.isub, 1) := by decide +kernel
theorem dG_oldestSegmentEnd_7 : decode cG_oldestSegmentEnd 7 = .ok (.iconst 4, 1) := by decide +kernel
theorem dG_oldestSegmentEnd_8 : decode cG_oldestSegmentEnd 8 = .ok (.iadd, 1) := by decide +kernel
theorem dG_oldestSegmentEnd_9 : decode cG_oldestSegmentEnd 9 = .ok (.ireturn, 1) := by decide +kernel
theorem dG_writeOut_0 : decode cG_writeOut 0 = .ok (.aload_n 0, 1) := by decide +kernel
theorem dG_writeOut_1 : decode cG_writeOut 1 = .ok (.getfield 33, 3) := by decide +kernel
theorem dG_writeOut_4 : decode cG_writeOut 4 = .ok (.bipush 31, 2) := by decide +kernel
theorem dG_writeOut_6 : decode cG_writeOut 6 = .ok (.iand, 1) := by decide +kernel
theorem dG_writeOut_7 : decode cG_writeOut 7 = .ok (.istore_n 1, 1) := by decide +kernel
theorem dG_writeOut_8 : decode cG_writeOut 8 = .ok (.aload_n 0, 1) := by decide +kernel
theorem dG_writeOut_9 : decode cG_writeOut 9 = .ok (.getfield 13, 3) := by decide +kernel
theorem dG_writeOut_12 : decode cG_writeOut 12 = .ok (.iload_n 1, 1) := by decide +kernel
theorem dG_writeOut_13 : decode cG_writeOut 13 = .ok (.aaload, 1) := by decide +kernel
theorem dG_writeOut_14 : decode cG_writeOut 14 = .ok (.astore_n 2, 1) := by decide +kernel
theorem dG_writeOut_15 : decode cG_writeOut 15 = .ok (.aload_n 0, 1) := by decide +kernel
theorem dG_writeOut_16 : decode cG_writeOut 16 = .ok (.getfield 13, 3) := by decide +kernel
theorem dG_writeOut_19 : decode cG_writeOut 19 = .ok (.iload_n 1, 1) := by decide +kernel
theorem dG_writeOut_20 : decode cG_writeOut 20 = .ok (.aload_n 0, 1) := by decide +kernel
theorem dG_writeOut_21 : decode cG_writeOut 21 = .ok (.getfield 29, 3) := by decide +kernel
theorem dG_writeOut_24 : decode cG_writeOut 24 = .ok (.aastore, 1) := by decide +kernel
theorem dG_writeOut_25 : decode cG_writeOut 25 = .ok (.aload_n 2, 1) := by decide +kernel
theorem dG_writeOut_26 : decode cG_writeOut 26 = .ok (.invokevirtual 59, 3) := by decide +kernel
theorem dG_writeOut_29 : decode cG_writeOut 29 = .ok (.aload_n 0, 1) := by decide +kernel
theorem dG_writeOut_30 : decode cG_writeOut 30 = .ok (.aload_n 2, 1) := by decide +kernel
theorem dG_writeOut_31 : decode cG_writeOut 31 = .ok (.putfield 29, 3) := by decide +kernel
theorem dG_writeOut_34 : decode cG_writeOut 34 = .ok (.aload_n 0, 1) := by decide +kernel
theorem dG_writeOut_35 : decode cG_writeOut 35 = .ok (.dup, 1) := by decide +kernel
theorem dG_writeOut_36 : decode cG_writeOut 36 = .ok (.getfield 33, 3) := by decide +kernel
theorem dG_writeOut_39 : decode cG_writeOut 39 = .ok (.iconst 1, 1) := by decide +kernel
theorem dG_writeOut_40 : decode cG_writeOut 40 = .ok (.iadd, 1) := by decide +kernel
theorem dG_writeOut_41 : decode cG_writeOut 41 = .ok (.putfield 33, 3) := by decide +kernel
theorem dG_writeOut_44 : decode cG_writeOut 44 = .ok (.return_, 1) := by decide +kernel
theorem dG_append_0 : decode cG_append 0 = .ok (.aload_n 1, 1) := by decide +kernel
theorem dG_append_1 : decode cG_append 1 = .ok (.iconst 0, 1) := by decide +kernel
theorem dG_append_2 : decode cG_append 2 = .ok (.putfield 50, 3) := by decide +kernel
theorem dG_append_5 : decode cG_append 5 = .ok (.aload_n 1, 1) := by decide +kernel
theorem dG_append_6 : decode cG_append 6 = .ok (.aload_n 0, 1) := by decide +kernel
theorem dG_append_7 : decode cG_append 7 = .ok (.getfield 33, 3) := by decide +kernel
theorem dG_append_10 : decode cG_append 10 = .ok (.putfield 47, 3) := by decide +kernel
theorem dG_append_13 : decode cG_append 13 = .ok (.aload_n 0, 1) := by decide +kernel
theorem dG_append_14 : decode cG_append 14 = .ok (.getfield 29, 3) := by decide +kernel
theorem dG_append_17 : decode cG_append 17 = .ok (.aload_n 1, 1) := by decide +kernel
theorem dG_append_18 : decode cG_append 18 = .ok (.invokevirtual 54, 3) := by decide +kernel
theorem dG_append_21 : decode cG_append 21 = .ok (.aload_n 0, 1) := by decide +kernel
theorem dG_append_22 : decode cG_append 22 = .ok (.getfield 22, 3) := by decide +kernel
theorem dG_append_25 : decode cG_append 25 = .ok (.aload_n 1, 1) := by decide +kernel
theorem dG_append_26 : decode cG_append 26 = .ok (.invokevirtual 58, 3) := by decide +kernel
theorem dG_append_29 : decode cG_append 29 = .ok (.return_, 1) := by decide +kernel
theorem dG_hasInOpenPage_0 : decode cG_hasInOpenPage 0 = .ok (.aload_n 1, 1) := by decide +kernel
theorem dG_hasInOpenPage_1 : decode cG_hasInOpenPage 1 = .ok (.getfield 47, 3) := by decide +kernel
theorem dG_hasInOpenPage_4 : decode cG_hasInOpenPage 4 = .ok (.aload_n 0, 1) := by decide +kernel
theorem dG_hasInOpenPage_5 : decode cG_hasInOpenPage 5 = .ok (.getfield 33, 3) := by decide +kernel
theorem dG_hasInOpenPage_8 : decode cG_hasInOpenPage 8 = .ok (.if_icmp .ne 7, 3) := by decide +kernel
theorem dG_hasInOpenPage_11 : decode cG_hasInOpenPage 11 = .ok (.iconst 1, 1) := by decide +kernel
theorem dG_hasInOpenPage_12 : decode cG_hasInOpenPage 12 = .ok (.goto 4, 3) := by decide +kernel
theorem dG_hasInOpenPage_15 : decode cG_hasInOpenPage 15 = .ok (.iconst 0, 1) := by decide +kernel
theorem dG_hasInOpenPage_16 : decode cG_hasInOpenPage 16 = .ok (.ireturn, 1) := by decide +kernel
theorem dG_wipe_0 : decode cG_wipe 0 = .ok (.iconst 0, 1) := by decide +kernel
theorem dG_wipe_1 : decode cG_wipe 1 = .ok (.istore_n 1, 1) := by decide +kernel
theorem dG_wipe_2 : decode cG_wipe 2 = .ok (.iload_n 1, 1) := by decide +kernel
theorem dG_wipe_3 : decode cG_wipe 3 = .ok (.bipush 32, 2) := by decide +kernel
theorem dG_wipe_5 : decode cG_wipe 5 = .ok (.if_icmp .ge 18, 3) := by decide +kernel
theorem dG_wipe_8 : decode cG_wipe 8 = .ok (.aload_n 0, 1) := by decide +kernel
theorem dG_wipe_9 : decode cG_wipe 9 = .ok (.getfield 13, 3) := by decide +kernel
theorem dG_wipe_12 : decode cG_wipe 12 = .ok (.iload_n 1, 1) := by decide +kernel
theorem dG_wipe_13 : decode cG_wipe 13 = .ok (.aaload, 1) := by decide +kernel
theorem dG_wipe_14 : decode cG_wipe 14 = .ok (.invokevirtual 59, 3) := by decide +kernel
theorem dG_wipe_17 : decode cG_wipe 17 = .ok (.iinc 1 1, 3) := by decide +kernel
theorem dG_wipe_20 : decode cG_wipe 20 = .ok (.goto (-18), 3) := by decide +kernel
theorem dG_wipe_23 : decode cG_wipe 23 = .ok (.aload_n 0, 1) := by decide +kernel
theorem dG_wipe_24 : decode cG_wipe 24 = .ok (.getfield 29, 3) := by decide +kernel
theorem dG_wipe_27 : decode cG_wipe 27 = .ok (.invokevirtual 59, 3) := by decide +kernel
theorem dG_wipe_30 : decode cG_wipe 30 = .ok (.aload_n 0, 1) := by decide +kernel
theorem dG_wipe_31 : decode cG_wipe 31 = .ok (.getfield 22, 3) := by decide +kernel
theorem dG_wipe_34 : decode cG_wipe 34 = .ok (.invokevirtual 62, 3) := by decide +kernel
theorem dG_wipe_37 : decode cG_wipe 37 = .ok (.aload_n 0, 1) := by decide +kernel
theorem dG_wipe_38 : decode cG_wipe 38 = .ok (.iconst 0, 1) := by decide +kernel
theorem dG_wipe_39 : decode cG_wipe 39 = .ok (.putfield 33, 3) := by decide +kernel
theorem dG_wipe_42 : decode cG_wipe 42 = .ok (.return_, 1) := by decide +kernel
