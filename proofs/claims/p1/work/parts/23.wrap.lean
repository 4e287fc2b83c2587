theorem d_H_end_0 : decode m_H_end.2.1 0 = .ok (.iload_n 1, 1) := by decide +kernel
theorem d_H_end_1 : decode m_H_end.2.1 1 = .ok (.ifCond .lt 14, 3) := by decide +kernel
theorem d_H_end_4 : decode m_H_end.2.1 4 = .ok (.iload_n 1, 1) := by decide +kernel
theorem d_H_end_5 : decode m_H_end.2.1 5 = .ok (.aload_n 0, 1) := by decide +kernel
theorem d_H_end_6 : decode m_H_end.2.1 6 = .ok (.getfield 10, 3) := by decide +kernel
theorem d_H_end_9 : decode m_H_end.2.1 9 = .ok (.getfield 55, 3) := by decide +kernel
theorem d_H_end_12 : decode m_H_end.2.1 12 = .ok (.if_icmp .le 11, 3) := by decide +kernel
theorem d_H_end_15 : decode m_H_end.2.1 15 = .ok (.new 65, 3) := by decide +kernel
theorem d_H_end_18 : decode m_H_end.2.1 18 = .ok (.dup, 1) := by decide +kernel
theorem d_H_end_19 : decode m_H_end.2.1 19 = .ok (.invokespecial 67, 3) := by decide +kernel
theorem d_H_end_22 : decode m_H_end.2.1 22 = .ok (.athrow, 1) := by decide +kernel
theorem d_H_end_23 : decode m_H_end.2.1 23 = .ok (.aload_n 0, 1) := by decide +kernel
theorem d_H_end_24 : decode m_H_end.2.1 24 = .ok (.getfield 10, 3) := by decide +kernel
theorem d_H_end_27 : decode m_H_end.2.1 27 = .ok (.dup, 1) := by decide +kernel
theorem d_H_end_28 : decode m_H_end.2.1 28 = .ok (.getfield 55, 3) := by decide +kernel
theorem d_H_end_31 : decode m_H_end.2.1 31 = .ok (.iload_n 1, 1) := by decide +kernel
theorem d_H_end_32 : decode m_H_end.2.1 32 = .ok (.isub, 1) := by decide +kernel
theorem d_H_end_33 : decode m_H_end.2.1 33 = .ok (.putfield 55, 3) := by decide +kernel
theorem d_H_end_36 : decode m_H_end.2.1 36 = .ok (.aload_n 0, 1) := by decide +kernel
theorem d_H_end_37 : decode m_H_end.2.1 37 = .ok (.getfield 10, 3) := by decide +kernel
theorem d_H_end_40 : decode m_H_end.2.1 40 = .ok (.getfield 55, 3) := by decide +kernel
theorem d_H_end_43 : decode m_H_end.2.1 43 = .ok (.ireturn, 1) := by decide +kernel
theorem d_M_end_0 : decode m_M_end.2.1 0 = .ok (.iload_n 1, 1) := by decide +kernel
theorem d_M_end_1 : decode m_M_end.2.1 1 = .ok (.ifCond .lt 11, 3) := by decide +kernel
theorem d_M_end_4 : decode m_M_end.2.1 4 = .ok (.iload_n 1, 1) := by decide +kernel
theorem d_M_end_5 : decode m_M_end.2.1 5 = .ok (.aload_n 0, 1) := by decide +kernel
theorem d_M_end_6 : decode m_M_end.2.1 6 = .ok (.getfield 144, 3) := by decide +kernel
theorem d_M_end_9 : decode m_M_end.2.1 9 = .ok (.if_icmp .le 9, 3) := by decide +kernel
theorem d_M_end_12 : decode m_M_end.2.1 12 = .ok (.aload_n 0, 1) := by decide +kernel
theorem d_M_end_13 : decode m_M_end.2.1 13 = .ok (.iconst 1, 1) := by decide +kernel
theorem d_M_end_14 : decode m_M_end.2.1 14 = .ok (.invokevirtual 147, 3) := by decide +kernel
theorem d_M_end_17 : decode m_M_end.2.1 17 = .ok (.ireturn, 1) := by decide +kernel
theorem d_M_end_18 : decode m_M_end.2.1 18 = .ok (.aload_n 0, 1) := by decide +kernel
theorem d_M_end_19 : decode m_M_end.2.1 19 = .ok (.iconst 0, 1) := by decide +kernel
theorem d_M_end_20 : decode m_M_end.2.1 20 = .ok (.putfield 141, 3) := by decide +kernel
theorem d_M_end_23 : decode m_M_end.2.1 23 = .ok (.aload_n 0, 1) := by decide +kernel
theorem d_M_end_24 : decode m_M_end.2.1 24 = .ok (.dup, 1) := by decide +kernel
theorem d_M_end_25 : decode m_M_end.2.1 25 = .ok (.getfield 144, 3) := by decide +kernel
theorem d_M_end_28 : decode m_M_end.2.1 28 = .ok (.iload_n 1, 1) := by decide +kernel
theorem d_M_end_29 : decode m_M_end.2.1 29 = .ok (.isub, 1) := by decide +kernel
theorem d_M_end_30 : decode m_M_end.2.1 30 = .ok (.putfield 144, 3) := by decide +kernel
theorem d_M_end_33 : decode m_M_end.2.1 33 = .ok (.aload_n 0, 1) := by decide +kernel
theorem d_M_end_34 : decode m_M_end.2.1 34 = .ok (.getfield 144, 3) := by decide +kernel
theorem d_M_end_37 : decode m_M_end.2.1 37 = .ok (.ireturn, 1) := by decide +kernel
theorem d_M_thrown_0 : decode m_M_thrown.2.1 0 = .ok (.aload_n 0, 1) := by decide +kernel
theorem d_M_thrown_1 : decode m_M_thrown.2.1 1 = .ok (.getfield 141, 3) := by decide +kernel
theorem d_M_thrown_4 : decode m_M_thrown.2.1 4 = .ok (.ireturn, 1) := by decide +kernel
theorem d_H_needProgram_0 : decode m_H_needProgram.2.1 0 = .ok (.aload_n 0, 1) := by decide +kernel
theorem d_H_needProgram_1 : decode m_H_needProgram.2.1 1 = .ok (.getfield 94, 3) := by decide +kernel
theorem d_H_needProgram_4 : decode m_H_needProgram.2.1 4 = .ok (.ifCond .ne 11, 3) := by decide +kernel
theorem d_H_needProgram_7 : decode m_H_needProgram.2.1 7 = .ok (.new 91, 3) := by decide +kernel
theorem d_H_needProgram_10 : decode m_H_needProgram.2.1 10 = .ok (.dup, 1) := by decide +kernel
theorem d_H_needProgram_11 : decode m_H_needProgram.2.1 11 = .ok (.invokespecial 93, 3) := by decide +kernel
theorem d_H_needProgram_14 : decode m_H_needProgram.2.1 14 = .ok (.athrow, 1) := by decide +kernel
theorem d_H_needProgram_15 : decode m_H_needProgram.2.1 15 = .ok (.return_, 1) := by decide +kernel
theorem d_H_fails_0 : decode m_H_fails.2.1 0 = .ok (.aload_n 0, 1) := by decide +kernel
theorem d_H_fails_1 : decode m_H_fails.2.1 1 = .ok (.invokevirtual 123, 3) := by decide +kernel
theorem d_H_failsAt_0 : decode m_H_failsAt.2.1 0 = .ok (.aload_n 0, 1) := by decide +kernel
theorem d_H_failsAt_1 : decode m_H_failsAt.2.1 1 = .ok (.invokevirtual 123, 3) := by decide +kernel
theorem d_H_least_0 : decode m_H_least.2.1 0 = .ok (.aload_n 0, 1) := by decide +kernel
theorem d_H_least_1 : decode m_H_least.2.1 1 = .ok (.invokevirtual 123, 3) := by decide +kernel
theorem d_H_greatest_0 : decode m_H_greatest.2.1 0 = .ok (.aload_n 0, 1) := by decide +kernel
theorem d_H_greatest_1 : decode m_H_greatest.2.1 1 = .ok (.invokevirtual 123, 3) := by decide +kernel
theorem d_H_differ_0 : decode m_H_differ.2.1 0 = .ok (.aload_n 0, 1) := by decide +kernel
theorem d_H_differ_1 : decode m_H_differ.2.1 1 = .ok (.invokevirtual 123, 3) := by decide +kernel
theorem d_H_can_0 : decode m_H_can.2.1 0 = .ok (.aload_n 0, 1) := by decide +kernel
theorem d_H_can_1 : decode m_H_can.2.1 1 = .ok (.invokevirtual 123, 3) := by decide +kernel
theorem d_H_ends_0 : decode m_H_ends.2.1 0 = .ok (.aload_n 0, 1) := by decide +kernel
theorem d_H_ends_1 : decode m_H_ends.2.1 1 = .ok (.invokevirtual 123, 3) := by decide +kernel
theorem d_H_witness_0 : decode m_H_witness.2.1 0 = .ok (.aload_n 0, 1) := by decide +kernel
theorem d_H_witness_1 : decode m_H_witness.2.1 1 = .ok (.invokevirtual 123, 3) := by decide +kernel
theorem d_H_set_0 : decode m_H_set.2.1 0 = .ok (.aload_n 0, 1) := by decide +kernel
theorem d_H_set_1 : decode m_H_set.2.1 1 = .ok (.invokevirtual 123, 3) := by decide +kernel
theorem d_H_take_0 : decode m_H_take.2.1 0 = .ok (.aload_n 0, 1) := by decide +kernel
theorem d_H_take_1 : decode m_H_take.2.1 1 = .ok (.invokevirtual 123, 3) := by decide +kernel
theorem d_H_run_0 : decode m_H_run.2.1 0 = .ok (.aload_n 0, 1) := by decide +kernel
theorem d_H_run_1 : decode m_H_run.2.1 1 = .ok (.invokevirtual 123, 3) := by decide +kernel
theorem d_H_value_0 : decode m_H_value.2.1 0 = .ok (.aload_n 0, 1) := by decide +kernel
theorem d_H_value_1 : decode m_H_value.2.1 1 = .ok (.invokevirtual 123, 3) := by decide +kernel
theorem d_L_feed_0 : decode m_L_feed.2.1 0 = .ok (.aload 6, 2) := by decide +kernel
theorem d_L_feed_2 : decode m_L_feed.2.1 2 = .ok (.iconst 0, 1) := by decide +kernel
theorem d_L_feed_3 : decode m_L_feed.2.1 3 = .ok (.aload_n 0, 1) := by decide +kernel
theorem d_L_feed_4 : decode m_L_feed.2.1 4 = .ok (.iload_n 1, 1) := by decide +kernel
theorem d_L_feed_5 : decode m_L_feed.2.1 5 = .ok (.iload_n 2, 1) := by decide +kernel
theorem d_L_feed_6 : decode m_L_feed.2.1 6 = .ok (.iload_n 3, 1) := by decide +kernel
theorem d_L_feed_7 : decode m_L_feed.2.1 7 = .ok (.iload 4, 2) := by decide +kernel
theorem d_L_feed_9 : decode m_L_feed.2.1 9 = .ok (.iload 5, 2) := by decide +kernel
theorem d_L_feed_11 : decode m_L_feed.2.1 11 = .ok (.invokevirtual 7, 3) := by decide +kernel
theorem d_L_feed_14 : decode m_L_feed.2.1 14 = .ok (.i2l, 1) := by decide +kernel
theorem d_L_feed_15 : decode m_L_feed.2.1 15 = .ok (.lastore, 1) := by decide +kernel
theorem d_L_feed_16 : decode m_L_feed.2.1 16 = .ok (.goto 7, 3) := by decide +kernel
theorem d_L_feed_19 : decode m_L_feed.2.1 19 = .ok (.astore 7, 2) := by decide +kernel
theorem d_L_feed_21 : decode m_L_feed.2.1 21 = .ok (.iconst 1, 1) := by decide +kernel
theorem d_L_feed_22 : decode m_L_feed.2.1 22 = .ok (.ireturn, 1) := by decide +kernel
theorem d_L_feed_23 : decode m_L_feed.2.1 23 = .ok (.iconst 0, 1) := by decide +kernel
theorem d_L_feed_24 : decode m_L_feed.2.1 24 = .ok (.ireturn, 1) := by decide +kernel
theorem d_L_end_0 : decode m_L_end.2.1 0 = .ok (.aload_n 2, 1) := by decide +kernel
theorem d_L_end_1 : decode m_L_end.2.1 1 = .ok (.iconst 0, 1) := by decide +kernel
theorem d_L_end_2 : decode m_L_end.2.1 2 = .ok (.aload_n 0, 1) := by decide +kernel
theorem d_L_end_3 : decode m_L_end.2.1 3 = .ok (.iload_n 1, 1) := by decide +kernel
theorem d_L_end_4 : decode m_L_end.2.1 4 = .ok (.invokevirtual 15, 3) := by decide +kernel
theorem d_L_end_7 : decode m_L_end.2.1 7 = .ok (.i2l, 1) := by decide +kernel
theorem d_L_end_8 : decode m_L_end.2.1 8 = .ok (.lastore, 1) := by decide +kernel
theorem d_L_end_9 : decode m_L_end.2.1 9 = .ok (.goto 6, 3) := by decide +kernel
theorem d_L_end_12 : decode m_L_end.2.1 12 = .ok (.astore_n 3, 1) := by decide +kernel
theorem d_L_end_13 : decode m_L_end.2.1 13 = .ok (.iconst 1, 1) := by decide +kernel
theorem d_L_end_14 : decode m_L_end.2.1 14 = .ok (.ireturn, 1) := by decide +kernel
theorem d_L_end_15 : decode m_L_end.2.1 15 = .ok (.iconst 0, 1) := by decide +kernel
theorem d_L_end_16 : decode m_L_end.2.1 16 = .ok (.ireturn, 1) := by decide +kernel
theorem d_L_build_0 : decode m_L_build.2.1 0 = .ok (.aload_n 1, 1) := by decide +kernel
theorem d_L_build_1 : decode m_L_build.2.1 1 = .ok (.iconst 0, 1) := by decide +kernel
theorem d_L_build_2 : decode m_L_build.2.1 2 = .ok (.aload_n 0, 1) := by decide +kernel
theorem d_L_build_3 : decode m_L_build.2.1 3 = .ok (.invokevirtual 21, 3) := by decide +kernel
theorem d_L_build_6 : decode m_L_build.2.1 6 = .ok (.i2l, 1) := by decide +kernel
theorem d_L_build_7 : decode m_L_build.2.1 7 = .ok (.lastore, 1) := by decide +kernel
theorem d_L_build_8 : decode m_L_build.2.1 8 = .ok (.goto 6, 3) := by decide +kernel
theorem d_L_build_11 : decode m_L_build.2.1 11 = .ok (.astore_n 2, 1) := by decide +kernel
theorem d_L_build_12 : decode m_L_build.2.1 12 = .ok (.iconst 1, 1) := by decide +kernel
theorem d_L_build_13 : decode m_L_build.2.1 13 = .ok (.ireturn, 1) := by decide +kernel
theorem d_L_build_14 : decode m_L_build.2.1 14 = .ok (.iconst 0, 1) := by decide +kernel
theorem d_L_build_15 : decode m_L_build.2.1 15 = .ok (.ireturn, 1) := by decide +kernel
theorem d_L_fails_0 : decode m_L_fails.2.1 0 = .ok (.aload_n 1, 1) := by decide +kernel
theorem d_L_fails_1 : decode m_L_fails.2.1 1 = .ok (.iconst 0, 1) := by decide +kernel
theorem d_L_fails_2 : decode m_L_fails.2.1 2 = .ok (.aload_n 0, 1) := by decide +kernel
theorem d_L_fails_3 : decode m_L_fails.2.1 3 = .ok (.invokevirtual 27, 3) := by decide +kernel
theorem d_L_fails_6 : decode m_L_fails.2.1 6 = .ok (.i2l, 1) := by decide +kernel
theorem d_L_fails_7 : decode m_L_fails.2.1 7 = .ok (.lastore, 1) := by decide +kernel
theorem d_L_fails_8 : decode m_L_fails.2.1 8 = .ok (.goto 6, 3) := by decide +kernel
theorem d_L_fails_11 : decode m_L_fails.2.1 11 = .ok (.astore_n 2, 1) := by decide +kernel
theorem d_L_fails_12 : decode m_L_fails.2.1 12 = .ok (.iconst 1, 1) := by decide +kernel
theorem d_L_fails_13 : decode m_L_fails.2.1 13 = .ok (.ireturn, 1) := by decide +kernel
theorem d_L_fails_14 : decode m_L_fails.2.1 14 = .ok (.iconst 0, 1) := by decide +kernel
theorem d_L_fails_15 : decode m_L_fails.2.1 15 = .ok (.ireturn, 1) := by decide +kernel
theorem d_L_failsAt_0 : decode m_L_failsAt.2.1 0 = .ok (.aload_n 2, 1) := by decide +kernel
theorem d_L_failsAt_1 : decode m_L_failsAt.2.1 1 = .ok (.iconst 0, 1) := by decide +kernel
theorem d_L_failsAt_2 : decode m_L_failsAt.2.1 2 = .ok (.aload_n 0, 1) := by decide +kernel
theorem d_L_failsAt_3 : decode m_L_failsAt.2.1 3 = .ok (.iload_n 1, 1) := by decide +kernel
theorem d_L_failsAt_4 : decode m_L_failsAt.2.1 4 = .ok (.invokevirtual 30, 3) := by decide +kernel
theorem d_L_failsAt_7 : decode m_L_failsAt.2.1 7 = .ok (.i2l, 1) := by decide +kernel
theorem d_L_failsAt_8 : decode m_L_failsAt.2.1 8 = .ok (.lastore, 1) := by decide +kernel
theorem d_L_failsAt_9 : decode m_L_failsAt.2.1 9 = .ok (.goto 9, 3) := by decide +kernel
theorem d_L_failsAt_12 : decode m_L_failsAt.2.1 12 = .ok (.astore_n 3, 1) := by decide +kernel
theorem d_L_failsAt_13 : decode m_L_failsAt.2.1 13 = .ok (.iconst 1, 1) := by decide +kernel
theorem d_L_failsAt_14 : decode m_L_failsAt.2.1 14 = .ok (.ireturn, 1) := by decide +kernel
theorem d_L_failsAt_15 : decode m_L_failsAt.2.1 15 = .ok (.astore_n 3, 1) := by decide +kernel
theorem d_L_failsAt_16 : decode m_L_failsAt.2.1 16 = .ok (.iconst 2, 1) := by decide +kernel
theorem d_L_failsAt_17 : decode m_L_failsAt.2.1 17 = .ok (.ireturn, 1) := by decide +kernel
theorem d_L_failsAt_18 : decode m_L_failsAt.2.1 18 = .ok (.iconst 0, 1) := by decide +kernel
theorem d_L_failsAt_19 : decode m_L_failsAt.2.1 19 = .ok (.ireturn, 1) := by decide +kernel
theorem d_L_least_0 : decode m_L_least.2.1 0 = .ok (.aload_n 2, 1) := by decide +kernel
theorem d_L_least_1 : decode m_L_least.2.1 1 = .ok (.iconst 0, 1) := by decide +kernel
theorem d_L_least_2 : decode m_L_least.2.1 2 = .ok (.aload_n 0, 1) := by decide +kernel
theorem d_L_least_3 : decode m_L_least.2.1 3 = .ok (.iload_n 1, 1) := by decide +kernel
theorem d_L_least_4 : decode m_L_least.2.1 4 = .ok (.invokevirtual 35, 3) := by decide +kernel
theorem d_L_least_7 : decode m_L_least.2.1 7 = .ok (.i2l, 1) := by decide +kernel
theorem d_L_least_8 : decode m_L_least.2.1 8 = .ok (.lastore, 1) := by decide +kernel
theorem d_L_least_9 : decode m_L_least.2.1 9 = .ok (.goto 9, 3) := by decide +kernel
theorem d_L_least_12 : decode m_L_least.2.1 12 = .ok (.astore_n 3, 1) := by decide +kernel
theorem d_L_least_13 : decode m_L_least.2.1 13 = .ok (.iconst 1, 1) := by decide +kernel
theorem d_L_least_14 : decode m_L_least.2.1 14 = .ok (.ireturn, 1) := by decide +kernel
theorem d_L_least_15 : decode m_L_least.2.1 15 = .ok (.astore_n 3, 1) := by decide +kernel
theorem d_L_least_16 : decode m_L_least.2.1 16 = .ok (.iconst 2, 1) := by decide +kernel
theorem d_L_least_17 : decode m_L_least.2.1 17 = .ok (.ireturn, 1) := by decide +kernel
theorem d_L_least_18 : decode m_L_least.2.1 18 = .ok (.iconst 0, 1) := by decide +kernel
theorem d_L_least_19 : decode m_L_least.2.1 19 = .ok (.ireturn, 1) := by decide +kernel
theorem d_L_greatest_0 : decode m_L_greatest.2.1 0 = .ok (.aload_n 2, 1) := by decide +kernel
theorem d_L_greatest_1 : decode m_L_greatest.2.1 1 = .ok (.iconst 0, 1) := by decide +kernel
theorem d_L_greatest_2 : decode m_L_greatest.2.1 2 = .ok (.aload_n 0, 1) := by decide +kernel
theorem d_L_greatest_3 : decode m_L_greatest.2.1 3 = .ok (.iload_n 1, 1) := by decide +kernel
theorem d_L_greatest_4 : decode m_L_greatest.2.1 4 = .ok (.invokevirtual 38, 3) := by decide +kernel
theorem d_L_greatest_7 : decode m_L_greatest.2.1 7 = .ok (.i2l, 1) := by decide +kernel
theorem d_L_greatest_8 : decode m_L_greatest.2.1 8 = .ok (.lastore, 1) := by decide +kernel
theorem d_L_greatest_9 : decode m_L_greatest.2.1 9 = .ok (.goto 9, 3) := by decide +kernel
theorem d_L_greatest_12 : decode m_L_greatest.2.1 12 = .ok (.astore_n 3, 1) := by decide +kernel
theorem d_L_greatest_13 : decode m_L_greatest.2.1 13 = .ok (.iconst 1, 1) := by decide +kernel
theorem d_L_greatest_14 : decode m_L_greatest.2.1 14 = .ok (.ireturn, 1) := by decide +kernel
theorem d_L_greatest_15 : decode m_L_greatest.2.1 15 = .ok (.astore_n 3, 1) := by decide +kernel
theorem d_L_greatest_16 : decode m_L_greatest.2.1 16 = .ok (.iconst 2, 1) := by decide +kernel
theorem d_L_greatest_17 : decode m_L_greatest.2.1 17 = .ok (.ireturn, 1) := by decide +kernel
theorem d_L_greatest_18 : decode m_L_greatest.2.1 18 = .ok (.iconst 0, 1) := by decide +kernel
theorem d_L_greatest_19 : decode m_L_greatest.2.1 19 = .ok (.ireturn, 1) := by decide +kernel
theorem d_L_differ_0 : decode m_L_differ.2.1 0 = .ok (.aload_n 3, 1) := by decide +kernel
theorem d_L_differ_1 : decode m_L_differ.2.1 1 = .ok (.iconst 0, 1) := by decide +kernel
theorem d_L_differ_2 : decode m_L_differ.2.1 2 = .ok (.aload_n 0, 1) := by decide +kernel
theorem d_L_differ_3 : decode m_L_differ.2.1 3 = .ok (.iload_n 1, 1) := by decide +kernel
theorem d_L_differ_4 : decode m_L_differ.2.1 4 = .ok (.iload_n 2, 1) := by decide +kernel
theorem d_L_differ_5 : decode m_L_differ.2.1 5 = .ok (.invokevirtual 41, 3) := by decide +kernel
theorem d_L_differ_8 : decode m_L_differ.2.1 8 = .ok (.i2l, 1) := by decide +kernel
theorem d_L_differ_9 : decode m_L_differ.2.1 9 = .ok (.lastore, 1) := by decide +kernel
theorem d_L_differ_10 : decode m_L_differ.2.1 10 = .ok (.goto 11, 3) := by decide +kernel
theorem d_L_differ_13 : decode m_L_differ.2.1 13 = .ok (.astore 4, 2) := by decide +kernel
theorem d_L_differ_15 : decode m_L_differ.2.1 15 = .ok (.iconst 1, 1) := by decide +kernel
theorem d_L_differ_16 : decode m_L_differ.2.1 16 = .ok (.ireturn, 1) := by decide +kernel
theorem d_L_differ_17 : decode m_L_differ.2.1 17 = .ok (.astore 4, 2) := by decide +kernel
theorem d_L_differ_19 : decode m_L_differ.2.1 19 = .ok (.iconst 2, 1) := by decide +kernel
theorem d_L_differ_20 : decode m_L_differ.2.1 20 = .ok (.ireturn, 1) := by decide +kernel
theorem d_L_differ_21 : decode m_L_differ.2.1 21 = .ok (.iconst 0, 1) := by decide +kernel
theorem d_L_differ_22 : decode m_L_differ.2.1 22 = .ok (.ireturn, 1) := by decide +kernel
theorem d_L_can_0 : decode m_L_can.2.1 0 = .ok (.aload_n 3, 1) := by decide +kernel
theorem d_L_can_1 : decode m_L_can.2.1 1 = .ok (.iconst 0, 1) := by decide +kernel
theorem d_L_can_2 : decode m_L_can.2.1 2 = .ok (.aload_n 0, 1) := by decide +kernel
theorem d_L_can_3 : decode m_L_can.2.1 3 = .ok (.iload_n 1, 1) := by decide +kernel
theorem d_L_can_4 : decode m_L_can.2.1 4 = .ok (.iload_n 2, 1) := by decide +kernel
theorem d_L_can_5 : decode m_L_can.2.1 5 = .ok (.invokevirtual 45, 3) := by decide +kernel
theorem d_L_can_8 : decode m_L_can.2.1 8 = .ok (.i2l, 1) := by decide +kernel
theorem d_L_can_9 : decode m_L_can.2.1 9 = .ok (.lastore, 1) := by decide +kernel
theorem d_L_can_10 : decode m_L_can.2.1 10 = .ok (.goto 11, 3) := by decide +kernel
theorem d_L_can_13 : decode m_L_can.2.1 13 = .ok (.astore 4, 2) := by decide +kernel
theorem d_L_can_15 : decode m_L_can.2.1 15 = .ok (.iconst 1, 1) := by decide +kernel
theorem d_L_can_16 : decode m_L_can.2.1 16 = .ok (.ireturn, 1) := by decide +kernel
theorem d_L_can_17 : decode m_L_can.2.1 17 = .ok (.astore 4, 2) := by decide +kernel
theorem d_L_can_19 : decode m_L_can.2.1 19 = .ok (.iconst 2, 1) := by decide +kernel
theorem d_L_can_20 : decode m_L_can.2.1 20 = .ok (.ireturn, 1) := by decide +kernel
theorem d_L_can_21 : decode m_L_can.2.1 21 = .ok (.iconst 0, 1) := by decide +kernel
theorem d_L_can_22 : decode m_L_can.2.1 22 = .ok (.ireturn, 1) := by decide +kernel
theorem d_L_ends_0 : decode m_L_ends.2.1 0 = .ok (.aload_n 1, 1) := by decide +kernel
theorem d_L_ends_1 : decode m_L_ends.2.1 1 = .ok (.iconst 0, 1) := by decide +kernel
theorem d_L_ends_2 : decode m_L_ends.2.1 2 = .ok (.aload_n 0, 1) := by decide +kernel
theorem d_L_ends_3 : decode m_L_ends.2.1 3 = .ok (.invokevirtual 48, 3) := by decide +kernel
theorem d_L_ends_6 : decode m_L_ends.2.1 6 = .ok (.i2l, 1) := by decide +kernel
theorem d_L_ends_7 : decode m_L_ends.2.1 7 = .ok (.lastore, 1) := by decide +kernel
theorem d_L_ends_8 : decode m_L_ends.2.1 8 = .ok (.goto 6, 3) := by decide +kernel
theorem d_L_ends_11 : decode m_L_ends.2.1 11 = .ok (.astore_n 2, 1) := by decide +kernel
theorem d_L_ends_12 : decode m_L_ends.2.1 12 = .ok (.iconst 1, 1) := by decide +kernel
theorem d_L_ends_13 : decode m_L_ends.2.1 13 = .ok (.ireturn, 1) := by decide +kernel
theorem d_L_ends_14 : decode m_L_ends.2.1 14 = .ok (.iconst 0, 1) := by decide +kernel
theorem d_L_ends_15 : decode m_L_ends.2.1 15 = .ok (.ireturn, 1) := by decide +kernel
theorem d_L_witness_0 : decode m_L_witness.2.1 0 = .ok (.aload_n 2, 1) := by decide +kernel
theorem d_L_witness_1 : decode m_L_witness.2.1 1 = .ok (.iconst 0, 1) := by decide +kernel
theorem d_L_witness_2 : decode m_L_witness.2.1 2 = .ok (.aload_n 0, 1) := by decide +kernel
theorem d_L_witness_3 : decode m_L_witness.2.1 3 = .ok (.iload_n 1, 1) := by decide +kernel
theorem d_L_witness_4 : decode m_L_witness.2.1 4 = .ok (.invokevirtual 51, 3) := by decide +kernel
theorem d_L_witness_7 : decode m_L_witness.2.1 7 = .ok (.i2l, 1) := by decide +kernel
theorem d_L_witness_8 : decode m_L_witness.2.1 8 = .ok (.lastore, 1) := by decide +kernel
theorem d_L_witness_9 : decode m_L_witness.2.1 9 = .ok (.goto 9, 3) := by decide +kernel
theorem d_L_witness_12 : decode m_L_witness.2.1 12 = .ok (.astore_n 3, 1) := by decide +kernel
theorem d_L_witness_13 : decode m_L_witness.2.1 13 = .ok (.iconst 1, 1) := by decide +kernel
theorem d_L_witness_14 : decode m_L_witness.2.1 14 = .ok (.ireturn, 1) := by decide +kernel
theorem d_L_witness_15 : decode m_L_witness.2.1 15 = .ok (.astore_n 3, 1) := by decide +kernel
theorem d_L_witness_16 : decode m_L_witness.2.1 16 = .ok (.iconst 2, 1) := by decide +kernel
theorem d_L_witness_17 : decode m_L_witness.2.1 17 = .ok (.ireturn, 1) := by decide +kernel
theorem d_L_witness_18 : decode m_L_witness.2.1 18 = .ok (.iconst 0, 1) := by decide +kernel
theorem d_L_witness_19 : decode m_L_witness.2.1 19 = .ok (.ireturn, 1) := by decide +kernel
theorem d_L_set_0 : decode m_L_set.2.1 0 = .ok (.aload_n 0, 1) := by decide +kernel
theorem d_L_set_1 : decode m_L_set.2.1 1 = .ok (.iload_n 1, 1) := by decide +kernel
theorem d_L_set_2 : decode m_L_set.2.1 2 = .ok (.iload_n 2, 1) := by decide +kernel
theorem d_L_set_3 : decode m_L_set.2.1 3 = .ok (.invokevirtual 54, 3) := by decide +kernel
theorem d_L_set_6 : decode m_L_set.2.1 6 = .ok (.goto 9, 3) := by decide +kernel
theorem d_L_set_9 : decode m_L_set.2.1 9 = .ok (.astore_n 3, 1) := by decide +kernel
theorem d_L_set_10 : decode m_L_set.2.1 10 = .ok (.iconst 1, 1) := by decide +kernel
theorem d_L_set_11 : decode m_L_set.2.1 11 = .ok (.ireturn, 1) := by decide +kernel
theorem d_L_set_12 : decode m_L_set.2.1 12 = .ok (.astore_n 3, 1) := by decide +kernel
theorem d_L_set_13 : decode m_L_set.2.1 13 = .ok (.iconst 2, 1) := by decide +kernel
theorem d_L_set_14 : decode m_L_set.2.1 14 = .ok (.ireturn, 1) := by decide +kernel
theorem d_L_set_15 : decode m_L_set.2.1 15 = .ok (.iconst 0, 1) := by decide +kernel
theorem d_L_set_16 : decode m_L_set.2.1 16 = .ok (.ireturn, 1) := by decide +kernel
theorem d_L_take_0 : decode m_L_take.2.1 0 = .ok (.aload_n 0, 1) := by decide +kernel
theorem d_L_take_1 : decode m_L_take.2.1 1 = .ok (.invokevirtual 58, 3) := by decide +kernel
theorem d_L_take_4 : decode m_L_take.2.1 4 = .ok (.goto 9, 3) := by decide +kernel
theorem d_L_take_7 : decode m_L_take.2.1 7 = .ok (.astore_n 1, 1) := by decide +kernel
theorem d_L_take_8 : decode m_L_take.2.1 8 = .ok (.iconst 1, 1) := by decide +kernel
theorem d_L_take_9 : decode m_L_take.2.1 9 = .ok (.ireturn, 1) := by decide +kernel
theorem d_L_take_10 : decode m_L_take.2.1 10 = .ok (.astore_n 1, 1) := by decide +kernel
theorem d_L_take_11 : decode m_L_take.2.1 11 = .ok (.iconst 2, 1) := by decide +kernel
theorem d_L_take_12 : decode m_L_take.2.1 12 = .ok (.ireturn, 1) := by decide +kernel
theorem d_L_take_13 : decode m_L_take.2.1 13 = .ok (.iconst 0, 1) := by decide +kernel
theorem d_L_take_14 : decode m_L_take.2.1 14 = .ok (.ireturn, 1) := by decide +kernel
theorem d_L_run_0 : decode m_L_run.2.1 0 = .ok (.aload_n 1, 1) := by decide +kernel
theorem d_L_run_1 : decode m_L_run.2.1 1 = .ok (.iconst 0, 1) := by decide +kernel
theorem d_L_run_2 : decode m_L_run.2.1 2 = .ok (.aload_n 0, 1) := by decide +kernel
theorem d_L_run_3 : decode m_L_run.2.1 3 = .ok (.invokevirtual 61, 3) := by decide +kernel
theorem d_L_run_6 : decode m_L_run.2.1 6 = .ok (.i2l, 1) := by decide +kernel
theorem d_L_run_7 : decode m_L_run.2.1 7 = .ok (.lastore, 1) := by decide +kernel
theorem d_L_run_8 : decode m_L_run.2.1 8 = .ok (.goto 6, 3) := by decide +kernel
theorem d_L_run_11 : decode m_L_run.2.1 11 = .ok (.astore_n 2, 1) := by decide +kernel
theorem d_L_run_12 : decode m_L_run.2.1 12 = .ok (.iconst 1, 1) := by decide +kernel
theorem d_L_run_13 : decode m_L_run.2.1 13 = .ok (.ireturn, 1) := by decide +kernel
theorem d_L_run_14 : decode m_L_run.2.1 14 = .ok (.iconst 0, 1) := by decide +kernel
theorem d_L_run_15 : decode m_L_run.2.1 15 = .ok (.ireturn, 1) := by decide +kernel
theorem d_L_value_0 : decode m_L_value.2.1 0 = .ok (.aload_n 2, 1) := by decide +kernel
theorem d_L_value_1 : decode m_L_value.2.1 1 = .ok (.iconst 0, 1) := by decide +kernel
theorem d_L_value_2 : decode m_L_value.2.1 2 = .ok (.aload_n 0, 1) := by decide +kernel
theorem d_L_value_3 : decode m_L_value.2.1 3 = .ok (.iload_n 1, 1) := by decide +kernel
theorem d_L_value_4 : decode m_L_value.2.1 4 = .ok (.invokevirtual 64, 3) := by decide +kernel
theorem d_L_value_7 : decode m_L_value.2.1 7 = .ok (.i2l, 1) := by decide +kernel
theorem d_L_value_8 : decode m_L_value.2.1 8 = .ok (.lastore, 1) := by decide +kernel
theorem d_L_value_9 : decode m_L_value.2.1 9 = .ok (.goto 9, 3) := by decide +kernel
theorem d_L_value_12 : decode m_L_value.2.1 12 = .ok (.astore_n 3, 1) := by decide +kernel
theorem d_L_value_13 : decode m_L_value.2.1 13 = .ok (.iconst 1, 1) := by decide +kernel
theorem d_L_value_14 : decode m_L_value.2.1 14 = .ok (.ireturn, 1) := by decide +kernel
theorem d_L_value_15 : decode m_L_value.2.1 15 = .ok (.astore_n 3, 1) := by decide +kernel
theorem d_L_value_16 : decode m_L_value.2.1 16 = .ok (.iconst 2, 1) := by decide +kernel
theorem d_L_value_17 : decode m_L_value.2.1 17 = .ok (.ireturn, 1) := by decide +kernel
theorem d_L_value_18 : decode m_L_value.2.1 18 = .ok (.iconst 0, 1) := by decide +kernel
theorem d_L_value_19 : decode m_L_value.2.1 19 = .ok (.ireturn, 1) := by decide +kernel
theorem g_H_55 (nm : String) : q_G "ProofHall" 55 1 2 "I" nm := ⟨_, _, _, rfl, by decide, rfl, List.mem_of_getElem? (i := 106) (by decide +kernel), Or.inl rfl⟩
theorem x_H_67 : q_X "ProofHall" 67 "java/lang/IllegalArgumentException" := ⟨by decide +kernel, by decide +kernel⟩
theorem f_M_141 : q_F "ProofHallModel" 141 12 0 "I" := ⟨_, _, _, rfl, by decide, rfl, Or.inl (List.mem_of_getElem? (i := 1532) (by decide +kernel))⟩
theorem f_H_94 : q_F "ProofHall" 94 0 4 "Z" := ⟨_, _, _, rfl, by decide, rfl, Or.inl (List.mem_of_getElem? (i := 623) (by decide +kernel))⟩
theorem x_H_93 : q_X "ProofHall" 93 "java/lang/IllegalStateException" := ⟨by decide +kernel, by decide +kernel⟩
theorem cd_H_needProgram : q_cd m_H_needProgram := ⟨by decide +kernel, List.mem_of_getElem? (i := 1) (by decide +kernel), Or.inl ⟨rfl, List.mem_of_getElem? (i := 1174) (by decide +kernel)⟩⟩
theorem cV_H_123 : q_CV "ProofHall" 123 0 m_H_needProgram 0 := ⟨⟨cd_H_needProgram, by decide, by decide, by decide, by decide +kernel⟩, Or.inl (List.mem_of_getElem? (i := 1171) (by decide +kernel)), List.mem_of_getElem? (i := 1173) (by decide +kernel), _, _, _, rfl, by decide +kernel⟩
theorem cd_H_feed : q_cd m_H_feed := ⟨by decide +kernel, List.mem_of_getElem? (i := 1) (by decide +kernel), Or.inl ⟨rfl, List.mem_of_getElem? (i := 673) (by decide +kernel)⟩⟩
theorem cV_L_7 : q_CV "ProofHallLaw" 7 0 m_H_feed 5 := ⟨⟨cd_H_feed, by decide, by decide, by decide, by decide +kernel⟩, Or.inl (List.mem_of_getElem? (i := 670) (by decide +kernel)), List.mem_of_getElem? (i := 671) (by decide +kernel), _, _, _, rfl, List.mem_append_right _ (List.mem_of_getElem? (i := 672) (by decide +kernel))⟩
theorem cd_H_end : q_cd m_H_end := ⟨by decide +kernel, List.mem_of_getElem? (i := 1) (by decide +kernel), Or.inl ⟨rfl, List.mem_of_getElem? (i := 750) (by decide +kernel)⟩⟩
theorem cV_L_15 : q_CV "ProofHallLaw" 15 0 m_H_end 1 := ⟨⟨cd_H_end, by decide, by decide, by decide, by decide +kernel⟩, Or.inl (List.mem_of_getElem? (i := 747) (by decide +kernel)), List.mem_of_getElem? (i := 748) (by decide +kernel), _, _, _, rfl, List.mem_append_right _ (List.mem_of_getElem? (i := 749) (by decide +kernel))⟩
theorem cd_H_build : q_cd m_H_build := ⟨by decide +kernel, List.mem_of_getElem? (i := 1) (by decide +kernel), Or.inl ⟨rfl, List.mem_of_getElem? (i := 773) (by decide +kernel)⟩⟩
theorem cV_L_21 : q_CV "ProofHallLaw" 21 0 m_H_build 0 := ⟨⟨cd_H_build, by decide, by decide, by decide, by decide +kernel⟩, Or.inl (List.mem_of_getElem? (i := 770) (by decide +kernel)), List.mem_of_getElem? (i := 771) (by decide +kernel), _, _, _, rfl, List.mem_append_right _ (List.mem_of_getElem? (i := 772) (by decide +kernel))⟩
theorem cd_H_fails : q_cd m_H_fails := ⟨by decide +kernel, List.mem_of_getElem? (i := 1) (by decide +kernel), Or.inl ⟨rfl, List.mem_of_getElem? (i := 1170) (by decide +kernel)⟩⟩
theorem cV_L_27 : q_CV "ProofHallLaw" 27 0 m_H_fails 0 := ⟨⟨cd_H_fails, by decide, by decide, by decide, by decide +kernel⟩, Or.inl (List.mem_of_getElem? (i := 1167) (by decide +kernel)), List.mem_of_getElem? (i := 1168) (by decide +kernel), _, _, _, rfl, List.mem_append_right _ (List.mem_of_getElem? (i := 1169) (by decide +kernel))⟩
theorem cd_H_failsAt : q_cd m_H_failsAt := ⟨by decide +kernel, List.mem_of_getElem? (i := 1) (by decide +kernel), Or.inl ⟨rfl, List.mem_of_getElem? (i := 1386) (by decide +kernel)⟩⟩
theorem cV_L_30 : q_CV "ProofHallLaw" 30 0 m_H_failsAt 1 := ⟨⟨cd_H_failsAt, by decide, by decide, by decide, by decide +kernel⟩, Or.inl (List.mem_of_getElem? (i := 1383) (by decide +kernel)), List.mem_of_getElem? (i := 1384) (by decide +kernel), _, _, _, rfl, List.mem_append_right _ (List.mem_of_getElem? (i := 1385) (by decide +kernel))⟩
theorem cd_H_least : q_cd m_H_least := ⟨by decide +kernel, List.mem_of_getElem? (i := 1) (by decide +kernel), Or.inl ⟨rfl, List.mem_of_getElem? (i := 1408) (by decide +kernel)⟩⟩
theorem cV_L_35 : q_CV "ProofHallLaw" 35 0 m_H_least 1 := ⟨⟨cd_H_least, by decide, by decide, by decide, by decide +kernel⟩, Or.inl (List.mem_of_getElem? (i := 1405) (by decide +kernel)), List.mem_of_getElem? (i := 1406) (by decide +kernel), _, _, _, rfl, List.mem_append_right _ (List.mem_of_getElem? (i := 1407) (by decide +kernel))⟩
theorem cd_H_greatest : q_cd m_H_greatest := ⟨by decide +kernel, List.mem_of_getElem? (i := 1) (by decide +kernel), Or.inl ⟨rfl, List.mem_of_getElem? (i := 1433) (by decide +kernel)⟩⟩
theorem cV_L_38 : q_CV "ProofHallLaw" 38 0 m_H_greatest 1 := ⟨⟨cd_H_greatest, by decide, by decide, by decide, by decide +kernel⟩, Or.inl (List.mem_of_getElem? (i := 1430) (by decide +kernel)), List.mem_of_getElem? (i := 1431) (by decide +kernel), _, _, _, rfl, List.mem_append_right _ (List.mem_of_getElem? (i := 1432) (by decide +kernel))⟩
theorem cd_H_differ : q_cd m_H_differ := ⟨by decide +kernel, List.mem_of_getElem? (i := 1) (by decide +kernel), Or.inl ⟨rfl, List.mem_of_getElem? (i := 1440) (by decide +kernel)⟩⟩
theorem cV_L_41 : q_CV "ProofHallLaw" 41 0 m_H_differ 2 := ⟨⟨cd_H_differ, by decide, by decide, by decide, by decide +kernel⟩, Or.inl (List.mem_of_getElem? (i := 1437) (by decide +kernel)), List.mem_of_getElem? (i := 1438) (by decide +kernel), _, _, _, rfl, List.mem_append_right _ (List.mem_of_getElem? (i := 1439) (by decide +kernel))⟩
theorem cd_H_can : q_cd m_H_can := ⟨by decide +kernel, List.mem_of_getElem? (i := 1) (by decide +kernel), Or.inl ⟨rfl, List.mem_of_getElem? (i := 1452) (by decide +kernel)⟩⟩
theorem cV_L_45 : q_CV "ProofHallLaw" 45 0 m_H_can 2 := ⟨⟨cd_H_can, by decide, by decide, by decide, by decide +kernel⟩, Or.inl (List.mem_of_getElem? (i := 1449) (by decide +kernel)), List.mem_of_getElem? (i := 1450) (by decide +kernel), _, _, _, rfl, List.mem_append_right _ (List.mem_of_getElem? (i := 1451) (by decide +kernel))⟩
theorem cd_H_ends : q_cd m_H_ends := ⟨by decide +kernel, List.mem_of_getElem? (i := 1) (by decide +kernel), Or.inl ⟨rfl, List.mem_of_getElem? (i := 1463) (by decide +kernel)⟩⟩
theorem cV_L_48 : q_CV "ProofHallLaw" 48 0 m_H_ends 0 := ⟨⟨cd_H_ends, by decide, by decide, by decide, by decide +kernel⟩, Or.inl (List.mem_of_getElem? (i := 1460) (by decide +kernel)), List.mem_of_getElem? (i := 1461) (by decide +kernel), _, _, _, rfl, List.mem_append_right _ (List.mem_of_getElem? (i := 1462) (by decide +kernel))⟩
theorem cd_H_witness : q_cd m_H_witness := ⟨by decide +kernel, List.mem_of_getElem? (i := 1) (by decide +kernel), Or.inl ⟨rfl, List.mem_of_getElem? (i := 1478) (by decide +kernel)⟩⟩
theorem cV_L_51 : q_CV "ProofHallLaw" 51 0 m_H_witness 1 := ⟨⟨cd_H_witness, by decide, by decide, by decide, by decide +kernel⟩, Or.inl (List.mem_of_getElem? (i := 1475) (by decide +kernel)), List.mem_of_getElem? (i := 1476) (by decide +kernel), _, _, _, rfl, List.mem_append_right _ (List.mem_of_getElem? (i := 1477) (by decide +kernel))⟩
theorem cd_H_set : q_cd m_H_set := ⟨by decide +kernel, List.mem_of_getElem? (i := 1) (by decide +kernel), Or.inl ⟨rfl, List.mem_of_getElem? (i := 1485) (by decide +kernel)⟩⟩
theorem cV_L_54 : q_CV "ProofHallLaw" 54 0 m_H_set 2 := ⟨⟨cd_H_set, by decide, by decide, by decide, by decide +kernel⟩, Or.inl (List.mem_of_getElem? (i := 1482) (by decide +kernel)), List.mem_of_getElem? (i := 1483) (by decide +kernel), _, _, _, rfl, List.mem_append_right _ (List.mem_of_getElem? (i := 1484) (by decide +kernel))⟩
theorem cd_H_take : q_cd m_H_take := ⟨by decide +kernel, List.mem_of_getElem? (i := 1) (by decide +kernel), Or.inl ⟨rfl, List.mem_of_getElem? (i := 1493) (by decide +kernel)⟩⟩
theorem cV_L_58 : q_CV "ProofHallLaw" 58 0 m_H_take 0 := ⟨⟨cd_H_take, by decide, by decide, by decide, by decide +kernel⟩, Or.inl (List.mem_of_getElem? (i := 1490) (by decide +kernel)), List.mem_of_getElem? (i := 1491) (by decide +kernel), _, _, _, rfl, List.mem_append_right _ (List.mem_of_getElem? (i := 1492) (by decide +kernel))⟩
theorem cd_H_run : q_cd m_H_run := ⟨by decide +kernel, List.mem_of_getElem? (i := 1) (by decide +kernel), Or.inl ⟨rfl, List.mem_of_getElem? (i := 1501) (by decide +kernel)⟩⟩
theorem cV_L_61 : q_CV "ProofHallLaw" 61 0 m_H_run 0 := ⟨⟨cd_H_run, by decide, by decide, by decide, by decide +kernel⟩, Or.inl (List.mem_of_getElem? (i := 1498) (by decide +kernel)), List.mem_of_getElem? (i := 1499) (by decide +kernel), _, _, _, rfl, List.mem_append_right _ (List.mem_of_getElem? (i := 1500) (by decide +kernel))⟩
theorem cd_H_value : q_cd m_H_value := ⟨by decide +kernel, List.mem_of_getElem? (i := 1) (by decide +kernel), Or.inl ⟨rfl, List.mem_of_getElem? (i := 1509) (by decide +kernel)⟩⟩
theorem cV_L_64 : q_CV "ProofHallLaw" 64 0 m_H_value 1 := ⟨⟨cd_H_value, by decide, by decide, by decide, by decide +kernel⟩, Or.inl (List.mem_of_getElem? (i := 1506) (by decide +kernel)), List.mem_of_getElem? (i := 1507) (by decide +kernel), _, _, _, rfl, List.mem_append_right _ (List.mem_of_getElem? (i := 1508) (by decide +kernel))⟩
theorem c_H_end {ω : q_W} {σ : q_H} (hE : q_E σ) {l k : Nat} (hl : q_i σ 2 2 = nI l) (hl2 : l ≤ 4096) (hk : k ≤ l) : J ω m_H_end 6 1 6 0 0 0 [(0, .ref 1), (1, .int (nI k))] [] σ (fun r τ => r = .inl (some (.int (nI (l - k)))) ∧ τ = q_seti σ 2 2 (nI (l - k))) := by
  refine j_iload_n d_H_end_0 1 rfl ?_
  refine j_if_lt 15 d_H_end_1 (by decide) (fun h => absurd h (nI_pos (by omega))) (fun _ => ?_)
  refine j_iload_n d_H_end_4 1 rfl ?_
  refine j_aload_n d_H_end_5 0 rfl ?_
  refine j_getR 2 f_H_10 d_H_end_6 (tg_1 hE) (q_okE hE (by decide)) (rf_1_0 hE) (by decide) ?_
  refine k_getI ((nI l)) f_H_55 d_H_end_9 (tg_2 hE) (q_okE hE (by decide)) (hl) ?_
  refine j_icmp_le 23 d_H_end_12 (by decide) (fun _ => ?_) (fun h => absurd (nI_le (by omega) (by omega)) h)
  refine j_aload_n d_H_end_23 0 rfl ?_
  refine j_getR 2 f_H_10 d_H_end_24 (tg_1 hE) (q_okE hE (by decide)) (rf_1_0 hE) (by decide) ?_
  refine j_dup d_H_end_27 rfl ?_
  refine k_getI ((nI l)) f_H_55 d_H_end_28 (tg_2 hE) (q_okE hE (by decide)) (hl) ?_
  refine j_iload_n d_H_end_31 1 rfl ?_
  refine j_isub d_H_end_32 ?_
  refine j_topE (v := nI (l - k)) (pk_sub (by omega)) ?_
  refine j_putI (g_H_55 _) d_H_end_33 (tg_2 hE) (q_okE hE (by decide)) ?_
  refine j_aload_n d_H_end_36 0 rfl ?_
  refine j_getR 2 f_H_10 d_H_end_37 (tg_1 hE) (q_okE hE (by decide)) (rf_1_0 hE) (by decide) ?_
  refine k_getI ((nI (l - k))) f_H_55 d_H_end_40 (tg_2 hE) (q_okE hE (by decide)) (rfl) ?_
  exact j_iret d_H_end_43 rfl (by decide) (by decide) ⟨rfl, rfl⟩
theorem x_H_end {ω : q_W} {σ : q_H} (hE : q_E σ) (hn : q_n σ < 900000) {l : Nat} {n : Int32} (hl : q_i σ 2 2 = nI l) (hbad : ¬ (¬ n < 0 ∧ n ≤ nI l)) : J ω m_H_end 6 1 6 0 0 0 [(0, .ref 1), (1, .int n)] [] σ (fun r τ => r = .inr (q_n σ + 1) ∧ τ = q_add σ (5, 1)) := by
  have K : J ω m_H_end 6 1 6 0 0 15 [(0, .ref 1), (1, .int n)] [] σ (fun r τ => r = .inr (q_n σ + 1) ∧ τ = q_add σ (5, 1)) := by
    refine j_newEx (k := 1) rfl x_H_67 (List.mem_of_getElem? (i := 751) (by decide +kernel)) d_H_end_15 d_H_end_18 d_H_end_19 (by decide) (by decide) (by omega) (by decide) (by decide) ?_
    exact j_athrow d_H_end_22 (jt_out rfl (by decide) (by decide) ⟨rfl, rfl⟩)
  refine j_iload_n d_H_end_0 1 rfl ?_
  refine j_if_lt 15 d_H_end_1 (by decide) (fun _ => K) (fun h0 => ?_)
  refine j_iload_n d_H_end_4 1 rfl ?_
  refine j_aload_n d_H_end_5 0 rfl ?_
  refine j_getR 2 f_H_10 d_H_end_6 (tg_1 hE) (q_okE hE (by decide)) (rf_1_0 hE) (by decide) ?_
  refine k_getI ((nI l)) f_H_55 d_H_end_9 (tg_2 hE) (q_okE hE (by decide)) (hl) ?_
  refine j_icmp_le 23 d_H_end_12 (by decide) (fun h1 => ?_) (fun _ => K)
  exact absurd ⟨h0, h1⟩ hbad
theorem c_M_end {ω : q_W} {σ : q_H} (hE : q_E σ) {l k : Nat} (hl : q_i σ 94 2 = nI l) (hl2 : l ≤ 4096) (hk : k ≤ l) : J ω m_M_end 1 0 0 0 0 0 [(0, .ref 94), (1, .int (nI k))] [] σ (fun r τ => r = .inl (some (.int (nI (l - k)))) ∧ τ = q_seti (q_seti σ 94 0 0) 94 2 (nI (l - k))) := by
  refine j_iload_n d_M_end_0 1 rfl ?_
  refine j_if_lt 12 d_M_end_1 (by decide) (fun h => absurd h (nI_pos (by omega))) (fun _ => ?_)
  refine j_iload_n d_M_end_4 1 rfl ?_
  refine j_aload_n d_M_end_5 0 rfl ?_
  refine k_getI ((nI l)) f_M_144 d_M_end_6 (tg_94 hE) (q_okE hE (by decide)) (hl) ?_
  refine j_icmp_le 18 d_M_end_9 (by decide) (fun _ => ?_) (fun h => absurd (nI_le (by omega) (by omega)) h)
  refine j_aload_n d_M_end_18 0 rfl ?_
  refine j_iconst (v := 0) d_M_end_19 (by decide) ?_
  refine j_putI (g_M_141 _) d_M_end_20 (tg_94 hE) (q_okE hE (by decide)) ?_
  refine j_aload_n d_M_end_23 0 rfl ?_
  refine j_dup d_M_end_24 rfl ?_
  refine k_getI ((nI l)) f_M_144 d_M_end_25 (tg_94 hE) (q_okE hE (by decide)) (hl) ?_
  refine j_iload_n d_M_end_28 1 rfl ?_
  refine j_isub d_M_end_29 ?_
  refine j_topE (v := nI (l - k)) (pk_sub (by omega)) ?_
  refine j_putI (g_M_144 _) d_M_end_30 (tg_94 hE) (q_okE hE (by decide)) ?_
  refine j_aload_n d_M_end_33 0 rfl ?_
  refine k_getI ((nI (l - k))) f_M_144 d_M_end_34 (tg_94 hE) (q_okE hE (by decide)) (rfl) ?_
  exact j_iret d_M_end_37 rfl (by decide) (by decide) ⟨rfl, rfl⟩
theorem x_M_end {ω : q_W} {σ : q_H} (hE : q_E σ) {l : Nat} {n : Int32} (hl : q_i σ 94 2 = nI l) (hbad : ¬ (¬ n < 0 ∧ n ≤ nI l)) : J ω m_M_end 1 0 0 0 0 0 [(0, .ref 94), (1, .int n)] [] σ (fun r τ => r = .inl (some (.int 0)) ∧ τ = q_seti σ 94 0 1) := by
  have K : J ω m_M_end 1 0 0 0 0 12 [(0, .ref 94), (1, .int n)] [] σ (fun r τ => r = .inl (some (.int 0)) ∧ τ = q_seti σ 94 0 1) := by
    refine j_aload_n d_M_end_12 0 rfl ?_
    refine j_iconst (v := 1) d_M_end_13 (by decide) ?_
    refine j_callV m_M_no [.int 1] [] 0 0 0 cV_M_147 d_M_end_14 rfl rfl (tg_94 hE) (q_okE hE (by decide)) (Nat.le_of_ble_eq_true rfl) (Nat.le_of_ble_eq_true rfl) (Nat.le_of_ble_eq_true rfl) (Nat.le_of_ble_eq_true rfl) (Nat.le_of_ble_eq_true rfl) (c_M_no (σ := σ) hE 1) (fun v τ h => ?_) (fun x τ h => absurd h.1 (by simp))
    obtain ⟨h1, rfl⟩ := h
    cases h1
    exact j_iret d_M_end_17 rfl (by decide) (by decide) ⟨rfl, rfl⟩
  refine j_iload_n d_M_end_0 1 rfl ?_
  refine j_if_lt 12 d_M_end_1 (by decide) (fun _ => K) (fun h0 => ?_)
  refine j_iload_n d_M_end_4 1 rfl ?_
  refine j_aload_n d_M_end_5 0 rfl ?_
  refine k_getI ((nI l)) f_M_144 d_M_end_6 (tg_94 hE) (q_okE hE (by decide)) (hl) ?_
  refine j_icmp_le 18 d_M_end_9 (by decide) (fun h1 => ?_) (fun _ => K)
  exact absurd ⟨h0, h1⟩ hbad
theorem c_M_thrown {ω : q_W} {σ : q_H} (hE : q_E σ) {n : Int32} (hn : q_i σ 94 0 = n) : J ω m_M_thrown 0 0 0 0 0 0 [(0, .ref 94)] [] σ (fun r τ => r = .inl (some (.int n)) ∧ τ = σ) := by
  refine j_aload_n d_M_thrown_0 0 rfl ?_
  refine k_getI (n) f_M_141 d_M_thrown_1 (tg_94 hE) (q_okE hE (by decide)) (hn) ?_
  exact j_iret d_M_thrown_4 rfl (by decide) (by decide) ⟨rfl, rfl⟩
theorem c_H_need {ω : q_W} {σ : q_H} (hE : q_E σ) (hb : q_i σ 1 4 = 1) : J ω m_H_needProgram 6 1 6 0 0 0 [(0, .ref 1)] [] σ (fun r τ => r = .inl none ∧ τ = σ) := by
  refine j_aload_n d_H_needProgram_0 0 rfl ?_
  refine k_getZ (1) f_H_94 d_H_needProgram_1 (tg_1 hE) (q_okE hE (by decide)) (hb) ?_
  refine j_if_ne 15 d_H_needProgram_4 (by decide) (fun _ => ?_) (fun h => absurd h (by decide))
  exact j_vret d_H_needProgram_15 rfl (by decide) (by decide) ⟨rfl, rfl⟩
theorem x_H_need {ω : q_W} {σ : q_H} (hE : q_E σ) (hn : q_n σ < 900000) (hb : q_i σ 1 4 = 0) : J ω m_H_needProgram 6 1 6 0 0 0 [(0, .ref 1)] [] σ (fun r τ => r = .inr (q_n σ + 1) ∧ τ = q_add σ (5, 2)) := by
  refine j_aload_n d_H_needProgram_0 0 rfl ?_
  refine k_getZ (0) f_H_94 d_H_needProgram_1 (tg_1 hE) (q_okE hE (by decide)) (hb) ?_
  refine j_if_ne 15 d_H_needProgram_4 (by decide) (fun h => absurd h (by decide)) (fun _ => ?_)
  refine j_newEx (k := 2) rfl x_H_93 (List.mem_of_getElem? (i := 976) (by decide +kernel)) d_H_needProgram_7 d_H_needProgram_10 d_H_needProgram_11 (by decide) (by decide) (by omega) (by decide) (by decide) ?_
  exact j_athrow d_H_needProgram_14 (jt_out rfl (by decide) (by decide) ⟨rfl, rfl⟩)
theorem n_H_fails {ω : q_W} {σ : q_H} (hE : q_E σ) (hn : q_n σ < 900000) (hb : q_i σ 1 4 = 0) : J ω m_H_fails 9 1 6 0 0 0 [(0, .ref 1)] [] σ (fun r τ => r = .inr (q_n σ + 1) ∧ τ = q_add σ (5, 2)) := by
  refine j_aload_n d_H_fails_0 0 rfl ?_
  refine j_callV m_H_needProgram [] [] 6 1 6 cV_H_123 d_H_fails_1 rfl rfl (tg_1 hE) (q_okE hE (by decide)) (Nat.le_of_ble_eq_true rfl) (Nat.le_of_ble_eq_true rfl) (Nat.le_of_ble_eq_true rfl) (Nat.le_of_ble_eq_true rfl) (Nat.le_of_ble_eq_true rfl) (x_H_need hE hn hb) (fun v τ h => absurd h.1 (by simp)) (fun x τ h => ?_)
  obtain ⟨h1, rfl⟩ := h
  cases h1
  exact jt_out rfl (by decide) (by decide) ⟨rfl, rfl⟩
theorem n_H_failsAt {ω : q_W} {σ : q_H} (hE : q_E σ) (hn : q_n σ < 900000) (hb : q_i σ 1 4 = 0) (a : Int32) : J ω m_H_failsAt 9 1 6 0 0 0 [(0, .ref 1), (1, .int a)] [] σ (fun r τ => r = .inr (q_n σ + 1) ∧ τ = q_add σ (5, 2)) := by
  refine j_aload_n d_H_failsAt_0 0 rfl ?_
  refine j_callV m_H_needProgram [] [] 6 1 6 cV_H_123 d_H_failsAt_1 rfl rfl (tg_1 hE) (q_okE hE (by decide)) (Nat.le_of_ble_eq_true rfl) (Nat.le_of_ble_eq_true rfl) (Nat.le_of_ble_eq_true rfl) (Nat.le_of_ble_eq_true rfl) (Nat.le_of_ble_eq_true rfl) (x_H_need hE hn hb) (fun v τ h => absurd h.1 (by simp)) (fun x τ h => ?_)
  obtain ⟨h1, rfl⟩ := h
  cases h1
  exact jt_out rfl (by decide) (by decide) ⟨rfl, rfl⟩
theorem n_H_least {ω : q_W} {σ : q_H} (hE : q_E σ) (hn : q_n σ < 900000) (hb : q_i σ 1 4 = 0) (a : Int32) : J ω m_H_least 9 1 6 0 0 0 [(0, .ref 1), (1, .int a)] [] σ (fun r τ => r = .inr (q_n σ + 1) ∧ τ = q_add σ (5, 2)) := by
  refine j_aload_n d_H_least_0 0 rfl ?_
  refine j_callV m_H_needProgram [] [] 6 1 6 cV_H_123 d_H_least_1 rfl rfl (tg_1 hE) (q_okE hE (by decide)) (Nat.le_of_ble_eq_true rfl) (Nat.le_of_ble_eq_true rfl) (Nat.le_of_ble_eq_true rfl) (Nat.le_of_ble_eq_true rfl) (Nat.le_of_ble_eq_true rfl) (x_H_need hE hn hb) (fun v τ h => absurd h.1 (by simp)) (fun x τ h => ?_)
  obtain ⟨h1, rfl⟩ := h
  cases h1
  exact jt_out rfl (by decide) (by decide) ⟨rfl, rfl⟩
theorem n_H_greatest {ω : q_W} {σ : q_H} (hE : q_E σ) (hn : q_n σ < 900000) (hb : q_i σ 1 4 = 0) (a : Int32) : J ω m_H_greatest 9 1 6 0 0 0 [(0, .ref 1), (1, .int a)] [] σ (fun r τ => r = .inr (q_n σ + 1) ∧ τ = q_add σ (5, 2)) := by
  refine j_aload_n d_H_greatest_0 0 rfl ?_
  refine j_callV m_H_needProgram [] [] 6 1 6 cV_H_123 d_H_greatest_1 rfl rfl (tg_1 hE) (q_okE hE (by decide)) (Nat.le_of_ble_eq_true rfl) (Nat.le_of_ble_eq_true rfl) (Nat.le_of_ble_eq_true rfl) (Nat.le_of_ble_eq_true rfl) (Nat.le_of_ble_eq_true rfl) (x_H_need hE hn hb) (fun v τ h => absurd h.1 (by simp)) (fun x τ h => ?_)
  obtain ⟨h1, rfl⟩ := h
  cases h1
  exact jt_out rfl (by decide) (by decide) ⟨rfl, rfl⟩
theorem n_H_differ {ω : q_W} {σ : q_H} (hE : q_E σ) (hn : q_n σ < 900000) (hb : q_i σ 1 4 = 0) (a b : Int32) : J ω m_H_differ 9 1 6 0 0 0 [(0, .ref 1), (1, .int a), (2, .int b)] [] σ (fun r τ => r = .inr (q_n σ + 1) ∧ τ = q_add σ (5, 2)) := by
  refine j_aload_n d_H_differ_0 0 rfl ?_
  refine j_callV m_H_needProgram [] [] 6 1 6 cV_H_123 d_H_differ_1 rfl rfl (tg_1 hE) (q_okE hE (by decide)) (Nat.le_of_ble_eq_true rfl) (Nat.le_of_ble_eq_true rfl) (Nat.le_of_ble_eq_true rfl) (Nat.le_of_ble_eq_true rfl) (Nat.le_of_ble_eq_true rfl) (x_H_need hE hn hb) (fun v τ h => absurd h.1 (by simp)) (fun x τ h => ?_)
  obtain ⟨h1, rfl⟩ := h
  cases h1
  exact jt_out rfl (by decide) (by decide) ⟨rfl, rfl⟩
theorem n_H_can {ω : q_W} {σ : q_H} (hE : q_E σ) (hn : q_n σ < 900000) (hb : q_i σ 1 4 = 0) (a b : Int32) : J ω m_H_can 9 1 6 0 0 0 [(0, .ref 1), (1, .int a), (2, .int b)] [] σ (fun r τ => r = .inr (q_n σ + 1) ∧ τ = q_add σ (5, 2)) := by
  refine j_aload_n d_H_can_0 0 rfl ?_
  refine j_callV m_H_needProgram [] [] 6 1 6 cV_H_123 d_H_can_1 rfl rfl (tg_1 hE) (q_okE hE (by decide)) (Nat.le_of_ble_eq_true rfl) (Nat.le_of_ble_eq_true rfl) (Nat.le_of_ble_eq_true rfl) (Nat.le_of_ble_eq_true rfl) (Nat.le_of_ble_eq_true rfl) (x_H_need hE hn hb) (fun v τ h => absurd h.1 (by simp)) (fun x τ h => ?_)
  obtain ⟨h1, rfl⟩ := h
  cases h1
  exact jt_out rfl (by decide) (by decide) ⟨rfl, rfl⟩
theorem n_H_ends {ω : q_W} {σ : q_H} (hE : q_E σ) (hn : q_n σ < 900000) (hb : q_i σ 1 4 = 0) : J ω m_H_ends 9 1 6 0 0 0 [(0, .ref 1)] [] σ (fun r τ => r = .inr (q_n σ + 1) ∧ τ = q_add σ (5, 2)) := by
  refine j_aload_n d_H_ends_0 0 rfl ?_
  refine j_callV m_H_needProgram [] [] 6 1 6 cV_H_123 d_H_ends_1 rfl rfl (tg_1 hE) (q_okE hE (by decide)) (Nat.le_of_ble_eq_true rfl) (Nat.le_of_ble_eq_true rfl) (Nat.le_of_ble_eq_true rfl) (Nat.le_of_ble_eq_true rfl) (Nat.le_of_ble_eq_true rfl) (x_H_need hE hn hb) (fun v τ h => absurd h.1 (by simp)) (fun x τ h => ?_)
  obtain ⟨h1, rfl⟩ := h
  cases h1
  exact jt_out rfl (by decide) (by decide) ⟨rfl, rfl⟩
theorem n_H_witness {ω : q_W} {σ : q_H} (hE : q_E σ) (hn : q_n σ < 900000) (hb : q_i σ 1 4 = 0) (a : Int32) : J ω m_H_witness 9 1 6 0 0 0 [(0, .ref 1), (1, .int a)] [] σ (fun r τ => r = .inr (q_n σ + 1) ∧ τ = q_add σ (5, 2)) := by
  refine j_aload_n d_H_witness_0 0 rfl ?_
  refine j_callV m_H_needProgram [] [] 6 1 6 cV_H_123 d_H_witness_1 rfl rfl (tg_1 hE) (q_okE hE (by decide)) (Nat.le_of_ble_eq_true rfl) (Nat.le_of_ble_eq_true rfl) (Nat.le_of_ble_eq_true rfl) (Nat.le_of_ble_eq_true rfl) (Nat.le_of_ble_eq_true rfl) (x_H_need hE hn hb) (fun v τ h => absurd h.1 (by simp)) (fun x τ h => ?_)
  obtain ⟨h1, rfl⟩ := h
  cases h1
  exact jt_out rfl (by decide) (by decide) ⟨rfl, rfl⟩
theorem n_H_set {ω : q_W} {σ : q_H} (hE : q_E σ) (hn : q_n σ < 900000) (hb : q_i σ 1 4 = 0) (a b : Int32) : J ω m_H_set 9 1 6 0 0 0 [(0, .ref 1), (1, .int a), (2, .int b)] [] σ (fun r τ => r = .inr (q_n σ + 1) ∧ τ = q_add σ (5, 2)) := by
  refine j_aload_n d_H_set_0 0 rfl ?_
  refine j_callV m_H_needProgram [] [] 6 1 6 cV_H_123 d_H_set_1 rfl rfl (tg_1 hE) (q_okE hE (by decide)) (Nat.le_of_ble_eq_true rfl) (Nat.le_of_ble_eq_true rfl) (Nat.le_of_ble_eq_true rfl) (Nat.le_of_ble_eq_true rfl) (Nat.le_of_ble_eq_true rfl) (x_H_need hE hn hb) (fun v τ h => absurd h.1 (by simp)) (fun x τ h => ?_)
  obtain ⟨h1, rfl⟩ := h
  cases h1
  exact jt_out rfl (by decide) (by decide) ⟨rfl, rfl⟩
theorem n_H_take {ω : q_W} {σ : q_H} (hE : q_E σ) (hn : q_n σ < 900000) (hb : q_i σ 1 4 = 0) : J ω m_H_take 9 1 6 0 0 0 [(0, .ref 1)] [] σ (fun r τ => r = .inr (q_n σ + 1) ∧ τ = q_add σ (5, 2)) := by
  refine j_aload_n d_H_take_0 0 rfl ?_
  refine j_callV m_H_needProgram [] [] 6 1 6 cV_H_123 d_H_take_1 rfl rfl (tg_1 hE) (q_okE hE (by decide)) (Nat.le_of_ble_eq_true rfl) (Nat.le_of_ble_eq_true rfl) (Nat.le_of_ble_eq_true rfl) (Nat.le_of_ble_eq_true rfl) (Nat.le_of_ble_eq_true rfl) (x_H_need hE hn hb) (fun v τ h => absurd h.1 (by simp)) (fun x τ h => ?_)
  obtain ⟨h1, rfl⟩ := h
  cases h1
  exact jt_out rfl (by decide) (by decide) ⟨rfl, rfl⟩
theorem n_H_run {ω : q_W} {σ : q_H} (hE : q_E σ) (hn : q_n σ < 900000) (hb : q_i σ 1 4 = 0) : J ω m_H_run 9 1 6 0 0 0 [(0, .ref 1)] [] σ (fun r τ => r = .inr (q_n σ + 1) ∧ τ = q_add σ (5, 2)) := by
  refine j_aload_n d_H_run_0 0 rfl ?_
  refine j_callV m_H_needProgram [] [] 6 1 6 cV_H_123 d_H_run_1 rfl rfl (tg_1 hE) (q_okE hE (by decide)) (Nat.le_of_ble_eq_true rfl) (Nat.le_of_ble_eq_true rfl) (Nat.le_of_ble_eq_true rfl) (Nat.le_of_ble_eq_true rfl) (Nat.le_of_ble_eq_true rfl) (x_H_need hE hn hb) (fun v τ h => absurd h.1 (by simp)) (fun x τ h => ?_)
  obtain ⟨h1, rfl⟩ := h
  cases h1
  exact jt_out rfl (by decide) (by decide) ⟨rfl, rfl⟩
theorem n_H_value {ω : q_W} {σ : q_H} (hE : q_E σ) (hn : q_n σ < 900000) (hb : q_i σ 1 4 = 0) (a : Int32) : J ω m_H_value 9 1 6 0 0 0 [(0, .ref 1), (1, .int a)] [] σ (fun r τ => r = .inr (q_n σ + 1) ∧ τ = q_add σ (5, 2)) := by
  refine j_aload_n d_H_value_0 0 rfl ?_
  refine j_callV m_H_needProgram [] [] 6 1 6 cV_H_123 d_H_value_1 rfl rfl (tg_1 hE) (q_okE hE (by decide)) (Nat.le_of_ble_eq_true rfl) (Nat.le_of_ble_eq_true rfl) (Nat.le_of_ble_eq_true rfl) (Nat.le_of_ble_eq_true rfl) (Nat.le_of_ble_eq_true rfl) (x_H_need hE hn hb) (fun v τ h => absurd h.1 (by simp)) (fun x τ h => ?_)
  obtain ⟨h1, rfl⟩ := h
  cases h1
  exact jt_out rfl (by decide) (by decide) ⟨rfl, rfl⟩
theorem q_pass_NS {ω : q_W} {own : String} {pc : Nat} {h : Nat × Nat × Nat × Nat} (hct : h.2.2.2 ≠ 0) (hl : Cond.classLink own h.2.2.2 "java/lang/IllegalStateException" ∈ tables_1) : q_pass ω own pc 3 h :=
  Or.inr ⟨hct, "java/lang/IllegalStateException", "java/util/NoSuchElementException", rfl, hl, fun args s hts htab => ⟨_, htab.2.2.2.2.2.1 2 _ rfl, htab.2.2.2.2.2.2.1⟩⟩
/-- what a wrapper makes of how the method ended -/
def q_wr (ks : List (Nat × Int32)) (Q : q_R → q_H → Prop) (r : q_R) (τ : q_H) : Prop := q_E τ ∧ match r with
  | .inl (some (.int n)) => Q (.inl (some (.int 0))) (q_setl τ 132 0 n.toInt64)
  | .inr x => (0 < x ∧ x ≤ q_n τ) ∧ ∃ k ∈ ks, q_t τ x = (5, k.1) ∧ Q (.inl (some (.int k.2))) τ
  | _ => False
def q_wv (ks : List (Nat × Int32)) (Q : q_R → q_H → Prop) (r : q_R) (τ : q_H) : Prop := q_E τ ∧ match r with
  | .inl none => Q (.inl (some (.int 0))) τ
  | .inr x => (0 < x ∧ x ≤ q_n τ) ∧ ∃ k ∈ ks, q_t τ x = (5, k.1) ∧ Q (.inl (some (.int k.2))) τ
  | _ => False
set_option maxHeartbeats 1000000 in
theorem c_L_feed {ω : q_W} {σ : q_H} (hE : q_E σ) {d mc ms : Nat} {Q : q_R → q_H → Prop} {a b c e f : Int32} (hJ : J ω m_H_feed d mc ms 0 0 0 [(0, .ref 1), (1, .int a), (2, .int b), (3, .int c), (4, .int e), (5, .int f)] [] σ (q_wr [(0, 1)] Q)) : J ω m_L_feed (d + 1) mc ms 0 0 0 [(0, .ref 1), (1, .int a), (2, .int b), (3, .int c), (4, .int e), (5, .int f), (6, .ref 132)] [] σ Q := by
  refine j_aload d_L_feed_0 6 rfl ?_
  refine j_iconst (v := 0) d_L_feed_2 (by decide) ?_
  refine j_aload_n d_L_feed_3 0 rfl ?_
  refine j_iload_n d_L_feed_4 1 rfl ?_
  refine j_iload_n d_L_feed_5 2 rfl ?_
  refine j_iload_n d_L_feed_6 3 rfl ?_
  refine j_iload d_L_feed_7 4 rfl ?_
  refine j_iload d_L_feed_9 5 rfl ?_
  refine j_callV m_H_feed [.int a, .int b, .int c, .int e, .int f] [.int 0, .ref 132] d mc ms cV_L_7 d_L_feed_11 rfl rfl (tg_1 hE) (q_okE hE (by decide)) (Nat.le_of_ble_eq_true rfl) (Nat.le_refl _) (Nat.le_of_ble_eq_true rfl) (by omega) (by omega) hJ (fun v τ h => ?_) (fun x τ h => ?_)
  · obtain ⟨hE1, h⟩ := h
    match v, h with
    | some (.int n), h =>
    refine j_i2l d_L_feed_14 ?_
    refine j_last 0 d_L_feed_15 (tg_132 hE1) (q_okE hE1 (by decide)) rfl (by decide) (by decide) ?_
    refine j_goto 23 d_L_feed_16 (by decide) ?_
    refine j_iconst (v := 0) d_L_feed_23 (by decide) ?_
    exact j_iret d_L_feed_24 rfl (by omega) (by omega) h
  · obtain ⟨hE1, hx, k, hk, ht, h⟩ := h
    simp only [List.mem_cons, List.not_mem_nil, or_false] at hk
    rcases hk with rfl
    · refine jt_catch (X := "java/lang/IndexOutOfBoundsException") [] (0, 16, 19, 13) [] rfl rfl ht hx (fun y hy => by cases hy) ⟨⟨by decide, by decide⟩, by decide, "java/lang/IndexOutOfBoundsException", "java/lang/IndexOutOfBoundsException", rfl, List.mem_of_getElem? (i := 669) (by decide +kernel), List.mem_of_getElem? (i := 676) (by decide +kernel)⟩ ?_
      refine j_astore (L' := [(7, .ref x), (0, .ref 1), (1, .int a), (2, .int b), (3, .int c), (4, .int e), (5, .int f), (6, .ref 132)]) d_L_feed_19 (by decide) rfl ?_
      refine j_iconst (v := 1) d_L_feed_21 (by decide) ?_
      exact j_iret d_L_feed_22 rfl (by omega) (by omega) h
set_option maxHeartbeats 1000000 in
theorem c_L_end {ω : q_W} {σ : q_H} (hE : q_E σ) {d mc ms : Nat} {Q : q_R → q_H → Prop} {a : Int32} (hJ : J ω m_H_end d mc ms 0 0 0 [(0, .ref 1), (1, .int a)] [] σ (q_wr [(1, 1)] Q)) : J ω m_L_end (d + 1) mc ms 0 0 0 [(0, .ref 1), (1, .int a), (2, .ref 132)] [] σ Q := by
  refine j_aload_n d_L_end_0 2 rfl ?_
  refine j_iconst (v := 0) d_L_end_1 (by decide) ?_
  refine j_aload_n d_L_end_2 0 rfl ?_
  refine j_iload_n d_L_end_3 1 rfl ?_
  refine j_callV m_H_end [.int a] [.int 0, .ref 132] d mc ms cV_L_15 d_L_end_4 rfl rfl (tg_1 hE) (q_okE hE (by decide)) (Nat.le_of_ble_eq_true rfl) (Nat.le_refl _) (Nat.le_of_ble_eq_true rfl) (by omega) (by omega) hJ (fun v τ h => ?_) (fun x τ h => ?_)
  · obtain ⟨hE1, h⟩ := h
    match v, h with
    | some (.int n), h =>
    refine j_i2l d_L_end_7 ?_
    refine j_last 0 d_L_end_8 (tg_132 hE1) (q_okE hE1 (by decide)) rfl (by decide) (by decide) ?_
    refine j_goto 15 d_L_end_9 (by decide) ?_
    refine j_iconst (v := 0) d_L_end_15 (by decide) ?_
    exact j_iret d_L_end_16 rfl (by omega) (by omega) h
  · obtain ⟨hE1, hx, k, hk, ht, h⟩ := h
    simp only [List.mem_cons, List.not_mem_nil, or_false] at hk
    rcases hk with rfl
    · refine jt_catch (X := "java/lang/IllegalArgumentException") [] (0, 9, 12, 19) [] rfl rfl ht hx (fun y hy => by cases hy) ⟨⟨by decide, by decide⟩, by decide, "java/lang/IllegalArgumentException", "java/lang/IllegalArgumentException", rfl, List.mem_of_getElem? (i := 746) (by decide +kernel), List.mem_of_getElem? (i := 753) (by decide +kernel)⟩ ?_
      refine j_astore_n (L' := [(3, .ref x), (0, .ref 1), (1, .int a), (2, .ref 132)]) d_L_end_12 (by decide) rfl ?_
      refine j_iconst (v := 1) d_L_end_13 (by decide) ?_
      exact j_iret d_L_end_14 rfl (by omega) (by omega) h
set_option maxHeartbeats 1000000 in
theorem c_L_build {ω : q_W} {σ : q_H} (hE : q_E σ) {d mc ms : Nat} {Q : q_R → q_H → Prop} (hJ : J ω m_H_build d mc ms 0 0 0 [(0, .ref 1)] [] σ (q_wr [(2, 1)] Q)) : J ω m_L_build (d + 1) mc ms 0 0 0 [(0, .ref 1), (1, .ref 132)] [] σ Q := by
  refine j_aload_n d_L_build_0 1 rfl ?_
  refine j_iconst (v := 0) d_L_build_1 (by decide) ?_
  refine j_aload_n d_L_build_2 0 rfl ?_
  refine j_callV m_H_build [] [.int 0, .ref 132] d mc ms cV_L_21 d_L_build_3 rfl rfl (tg_1 hE) (q_okE hE (by decide)) (Nat.le_of_ble_eq_true rfl) (Nat.le_refl _) (Nat.le_of_ble_eq_true rfl) (by omega) (by omega) hJ (fun v τ h => ?_) (fun x τ h => ?_)
  · obtain ⟨hE1, h⟩ := h
    match v, h with
    | some (.int n), h =>
    refine j_i2l d_L_build_6 ?_
    refine j_last 0 d_L_build_7 (tg_132 hE1) (q_okE hE1 (by decide)) rfl (by decide) (by decide) ?_
    refine j_goto 14 d_L_build_8 (by decide) ?_
    refine j_iconst (v := 0) d_L_build_14 (by decide) ?_
    exact j_iret d_L_build_15 rfl (by omega) (by omega) h
  · obtain ⟨hE1, hx, k, hk, ht, h⟩ := h
    simp only [List.mem_cons, List.not_mem_nil, or_false] at hk
    rcases hk with rfl
    · refine jt_catch (X := "java/lang/IllegalStateException") [] (0, 8, 11, 25) [] rfl rfl ht hx (fun y hy => by cases hy) ⟨⟨by decide, by decide⟩, by decide, "java/lang/IllegalStateException", "java/lang/IllegalStateException", rfl, List.mem_of_getElem? (i := 769) (by decide +kernel), List.mem_of_getElem? (i := 978) (by decide +kernel)⟩ ?_
      refine j_astore_n (L' := [(2, .ref x), (0, .ref 1), (1, .ref 132)]) d_L_build_11 (by decide) rfl ?_
      refine j_iconst (v := 1) d_L_build_12 (by decide) ?_
      exact j_iret d_L_build_13 rfl (by omega) (by omega) h
set_option maxHeartbeats 1000000 in
theorem c_L_fails {ω : q_W} {σ : q_H} (hE : q_E σ) {d mc ms : Nat} {Q : q_R → q_H → Prop} (hJ : J ω m_H_fails d mc ms 0 0 0 [(0, .ref 1)] [] σ (q_wr [(2, 1)] Q)) : J ω m_L_fails (d + 1) mc ms 0 0 0 [(0, .ref 1), (1, .ref 132)] [] σ Q := by
  refine j_aload_n d_L_fails_0 1 rfl ?_
  refine j_iconst (v := 0) d_L_fails_1 (by decide) ?_
  refine j_aload_n d_L_fails_2 0 rfl ?_
  refine j_callV m_H_fails [] [.int 0, .ref 132] d mc ms cV_L_27 d_L_fails_3 rfl rfl (tg_1 hE) (q_okE hE (by decide)) (Nat.le_of_ble_eq_true rfl) (Nat.le_refl _) (Nat.le_of_ble_eq_true rfl) (by omega) (by omega) hJ (fun v τ h => ?_) (fun x τ h => ?_)
  · obtain ⟨hE1, h⟩ := h
    match v, h with
    | some (.int n), h =>
    refine j_i2l d_L_fails_6 ?_
    refine j_last 0 d_L_fails_7 (tg_132 hE1) (q_okE hE1 (by decide)) rfl (by decide) (by decide) ?_
    refine j_goto 14 d_L_fails_8 (by decide) ?_
    refine j_iconst (v := 0) d_L_fails_14 (by decide) ?_
    exact j_iret d_L_fails_15 rfl (by omega) (by omega) h
  · obtain ⟨hE1, hx, k, hk, ht, h⟩ := h
    simp only [List.mem_cons, List.not_mem_nil, or_false] at hk
    rcases hk with rfl
    · refine jt_catch (X := "java/lang/IllegalStateException") [] (0, 8, 11, 25) [] rfl rfl ht hx (fun y hy => by cases hy) ⟨⟨by decide, by decide⟩, by decide, "java/lang/IllegalStateException", "java/lang/IllegalStateException", rfl, List.mem_of_getElem? (i := 769) (by decide +kernel), List.mem_of_getElem? (i := 978) (by decide +kernel)⟩ ?_
      refine j_astore_n (L' := [(2, .ref x), (0, .ref 1), (1, .ref 132)]) d_L_fails_11 (by decide) rfl ?_
      refine j_iconst (v := 1) d_L_fails_12 (by decide) ?_
      exact j_iret d_L_fails_13 rfl (by omega) (by omega) h
set_option maxHeartbeats 1000000 in
theorem c_L_failsAt {ω : q_W} {σ : q_H} (hE : q_E σ) {d mc ms : Nat} {Q : q_R → q_H → Prop} {a : Int32} (hJ : J ω m_H_failsAt d mc ms 0 0 0 [(0, .ref 1), (1, .int a)] [] σ (q_wr [(2, 1), (3, 2)] Q)) : J ω m_L_failsAt (d + 1) mc ms 0 0 0 [(0, .ref 1), (1, .int a), (2, .ref 132)] [] σ Q := by
  refine j_aload_n d_L_failsAt_0 2 rfl ?_
  refine j_iconst (v := 0) d_L_failsAt_1 (by decide) ?_
  refine j_aload_n d_L_failsAt_2 0 rfl ?_
  refine j_iload_n d_L_failsAt_3 1 rfl ?_
  refine j_callV m_H_failsAt [.int a] [.int 0, .ref 132] d mc ms cV_L_30 d_L_failsAt_4 rfl rfl (tg_1 hE) (q_okE hE (by decide)) (Nat.le_of_ble_eq_true rfl) (Nat.le_refl _) (Nat.le_of_ble_eq_true rfl) (by omega) (by omega) hJ (fun v τ h => ?_) (fun x τ h => ?_)
  · obtain ⟨hE1, h⟩ := h
    match v, h with
    | some (.int n), h =>
    refine j_i2l d_L_failsAt_7 ?_
    refine j_last 0 d_L_failsAt_8 (tg_132 hE1) (q_okE hE1 (by decide)) rfl (by decide) (by decide) ?_
    refine j_goto 18 d_L_failsAt_9 (by decide) ?_
    refine j_iconst (v := 0) d_L_failsAt_18 (by decide) ?_
    exact j_iret d_L_failsAt_19 rfl (by omega) (by omega) h
  · obtain ⟨hE1, hx, k, hk, ht, h⟩ := h
    simp only [List.mem_cons, List.not_mem_nil, or_false] at hk
    rcases hk with rfl | rfl
    · refine jt_catch (X := "java/lang/IllegalStateException") [] (0, 9, 12, 25) [(0, 9, 15, 33)] rfl rfl ht hx (fun y hy => by cases hy) ⟨⟨by decide, by decide⟩, by decide, "java/lang/IllegalStateException", "java/lang/IllegalStateException", rfl, List.mem_of_getElem? (i := 769) (by decide +kernel), List.mem_of_getElem? (i := 978) (by decide +kernel)⟩ ?_
      refine j_astore_n (L' := [(3, .ref x), (0, .ref 1), (1, .int a), (2, .ref 132)]) d_L_failsAt_12 (by decide) rfl ?_
      refine j_iconst (v := 1) d_L_failsAt_13 (by decide) ?_
      exact j_iret d_L_failsAt_14 rfl (by omega) (by omega) h
    · refine jt_catch (X := "java/util/NoSuchElementException") [(0, 9, 12, 25)] (0, 9, 15, 33) [] rfl rfl ht hx (fun y hy => by rw [List.mem_singleton.mp hy]; exact q_pass_NS (by decide) (List.mem_of_getElem? (i := 769) (by decide +kernel))) ⟨⟨by decide, by decide⟩, by decide, "java/util/NoSuchElementException", "java/util/NoSuchElementException", rfl, List.mem_of_getElem? (i := 1382) (by decide +kernel), List.mem_of_getElem? (i := 1389) (by decide +kernel)⟩ ?_
      refine j_astore_n (L' := [(3, .ref x), (0, .ref 1), (1, .int a), (2, .ref 132)]) d_L_failsAt_15 (by decide) rfl ?_
      refine j_iconst (v := 2) d_L_failsAt_16 (by decide) ?_
      exact j_iret d_L_failsAt_17 rfl (by omega) (by omega) h
set_option maxHeartbeats 1000000 in
theorem c_L_least {ω : q_W} {σ : q_H} (hE : q_E σ) {d mc ms : Nat} {Q : q_R → q_H → Prop} {a : Int32} (hJ : J ω m_H_least d mc ms 0 0 0 [(0, .ref 1), (1, .int a)] [] σ (q_wr [(2, 1), (3, 2)] Q)) : J ω m_L_least (d + 1) mc ms 0 0 0 [(0, .ref 1), (1, .int a), (2, .ref 132)] [] σ Q := by
  refine j_aload_n d_L_least_0 2 rfl ?_
  refine j_iconst (v := 0) d_L_least_1 (by decide) ?_
  refine j_aload_n d_L_least_2 0 rfl ?_
  refine j_iload_n d_L_least_3 1 rfl ?_
  refine j_callV m_H_least [.int a] [.int 0, .ref 132] d mc ms cV_L_35 d_L_least_4 rfl rfl (tg_1 hE) (q_okE hE (by decide)) (Nat.le_of_ble_eq_true rfl) (Nat.le_refl _) (Nat.le_of_ble_eq_true rfl) (by omega) (by omega) hJ (fun v τ h => ?_) (fun x τ h => ?_)
  · obtain ⟨hE1, h⟩ := h
    match v, h with
    | some (.int n), h =>
    refine j_i2l d_L_least_7 ?_
    refine j_last 0 d_L_least_8 (tg_132 hE1) (q_okE hE1 (by decide)) rfl (by decide) (by decide) ?_
    refine j_goto 18 d_L_least_9 (by decide) ?_
    refine j_iconst (v := 0) d_L_least_18 (by decide) ?_
    exact j_iret d_L_least_19 rfl (by omega) (by omega) h
  · obtain ⟨hE1, hx, k, hk, ht, h⟩ := h
    simp only [List.mem_cons, List.not_mem_nil, or_false] at hk
    rcases hk with rfl | rfl
    · refine jt_catch (X := "java/lang/IllegalStateException") [] (0, 9, 12, 25) [(0, 9, 15, 33)] rfl rfl ht hx (fun y hy => by cases hy) ⟨⟨by decide, by decide⟩, by decide, "java/lang/IllegalStateException", "java/lang/IllegalStateException", rfl, List.mem_of_getElem? (i := 769) (by decide +kernel), List.mem_of_getElem? (i := 978) (by decide +kernel)⟩ ?_
      refine j_astore_n (L' := [(3, .ref x), (0, .ref 1), (1, .int a), (2, .ref 132)]) d_L_least_12 (by decide) rfl ?_
      refine j_iconst (v := 1) d_L_least_13 (by decide) ?_
      exact j_iret d_L_least_14 rfl (by omega) (by omega) h
    · refine jt_catch (X := "java/util/NoSuchElementException") [(0, 9, 12, 25)] (0, 9, 15, 33) [] rfl rfl ht hx (fun y hy => by rw [List.mem_singleton.mp hy]; exact q_pass_NS (by decide) (List.mem_of_getElem? (i := 769) (by decide +kernel))) ⟨⟨by decide, by decide⟩, by decide, "java/util/NoSuchElementException", "java/util/NoSuchElementException", rfl, List.mem_of_getElem? (i := 1382) (by decide +kernel), List.mem_of_getElem? (i := 1389) (by decide +kernel)⟩ ?_
      refine j_astore_n (L' := [(3, .ref x), (0, .ref 1), (1, .int a), (2, .ref 132)]) d_L_least_15 (by decide) rfl ?_
      refine j_iconst (v := 2) d_L_least_16 (by decide) ?_
      exact j_iret d_L_least_17 rfl (by omega) (by omega) h
set_option maxHeartbeats 1000000 in
theorem c_L_greatest {ω : q_W} {σ : q_H} (hE : q_E σ) {d mc ms : Nat} {Q : q_R → q_H → Prop} {a : Int32} (hJ : J ω m_H_greatest d mc ms 0 0 0 [(0, .ref 1), (1, .int a)] [] σ (q_wr [(2, 1), (3, 2)] Q)) : J ω m_L_greatest (d + 1) mc ms 0 0 0 [(0, .ref 1), (1, .int a), (2, .ref 132)] [] σ Q := by
  refine j_aload_n d_L_greatest_0 2 rfl ?_
  refine j_iconst (v := 0) d_L_greatest_1 (by decide) ?_
  refine j_aload_n d_L_greatest_2 0 rfl ?_
  refine j_iload_n d_L_greatest_3 1 rfl ?_
  refine j_callV m_H_greatest [.int a] [.int 0, .ref 132] d mc ms cV_L_38 d_L_greatest_4 rfl rfl (tg_1 hE) (q_okE hE (by decide)) (Nat.le_of_ble_eq_true rfl) (Nat.le_refl _) (Nat.le_of_ble_eq_true rfl) (by omega) (by omega) hJ (fun v τ h => ?_) (fun x τ h => ?_)
  · obtain ⟨hE1, h⟩ := h
    match v, h with
    | some (.int n), h =>
    refine j_i2l d_L_greatest_7 ?_
    refine j_last 0 d_L_greatest_8 (tg_132 hE1) (q_okE hE1 (by decide)) rfl (by decide) (by decide) ?_
    refine j_goto 18 d_L_greatest_9 (by decide) ?_
    refine j_iconst (v := 0) d_L_greatest_18 (by decide) ?_
    exact j_iret d_L_greatest_19 rfl (by omega) (by omega) h
  · obtain ⟨hE1, hx, k, hk, ht, h⟩ := h
    simp only [List.mem_cons, List.not_mem_nil, or_false] at hk
    rcases hk with rfl | rfl
    · refine jt_catch (X := "java/lang/IllegalStateException") [] (0, 9, 12, 25) [(0, 9, 15, 33)] rfl rfl ht hx (fun y hy => by cases hy) ⟨⟨by decide, by decide⟩, by decide, "java/lang/IllegalStateException", "java/lang/IllegalStateException", rfl, List.mem_of_getElem? (i := 769) (by decide +kernel), List.mem_of_getElem? (i := 978) (by decide +kernel)⟩ ?_
      refine j_astore_n (L' := [(3, .ref x), (0, .ref 1), (1, .int a), (2, .ref 132)]) d_L_greatest_12 (by decide) rfl ?_
      refine j_iconst (v := 1) d_L_greatest_13 (by decide) ?_
      exact j_iret d_L_greatest_14 rfl (by omega) (by omega) h
    · refine jt_catch (X := "java/util/NoSuchElementException") [(0, 9, 12, 25)] (0, 9, 15, 33) [] rfl rfl ht hx (fun y hy => by rw [List.mem_singleton.mp hy]; exact q_pass_NS (by decide) (List.mem_of_getElem? (i := 769) (by decide +kernel))) ⟨⟨by decide, by decide⟩, by decide, "java/util/NoSuchElementException", "java/util/NoSuchElementException", rfl, List.mem_of_getElem? (i := 1382) (by decide +kernel), List.mem_of_getElem? (i := 1389) (by decide +kernel)⟩ ?_
      refine j_astore_n (L' := [(3, .ref x), (0, .ref 1), (1, .int a), (2, .ref 132)]) d_L_greatest_15 (by decide) rfl ?_
      refine j_iconst (v := 2) d_L_greatest_16 (by decide) ?_
      exact j_iret d_L_greatest_17 rfl (by omega) (by omega) h
set_option maxHeartbeats 1000000 in
theorem c_L_differ {ω : q_W} {σ : q_H} (hE : q_E σ) {d mc ms : Nat} {Q : q_R → q_H → Prop} {a b : Int32} (hJ : J ω m_H_differ d mc ms 0 0 0 [(0, .ref 1), (1, .int a), (2, .int b)] [] σ (q_wr [(2, 1), (3, 2)] Q)) : J ω m_L_differ (d + 1) mc ms 0 0 0 [(0, .ref 1), (1, .int a), (2, .int b), (3, .ref 132)] [] σ Q := by
  refine j_aload_n d_L_differ_0 3 rfl ?_
  refine j_iconst (v := 0) d_L_differ_1 (by decide) ?_
  refine j_aload_n d_L_differ_2 0 rfl ?_
  refine j_iload_n d_L_differ_3 1 rfl ?_
  refine j_iload_n d_L_differ_4 2 rfl ?_
  refine j_callV m_H_differ [.int a, .int b] [.int 0, .ref 132] d mc ms cV_L_41 d_L_differ_5 rfl rfl (tg_1 hE) (q_okE hE (by decide)) (Nat.le_of_ble_eq_true rfl) (Nat.le_refl _) (Nat.le_of_ble_eq_true rfl) (by omega) (by omega) hJ (fun v τ h => ?_) (fun x τ h => ?_)
  · obtain ⟨hE1, h⟩ := h
    match v, h with
    | some (.int n), h =>
    refine j_i2l d_L_differ_8 ?_
    refine j_last 0 d_L_differ_9 (tg_132 hE1) (q_okE hE1 (by decide)) rfl (by decide) (by decide) ?_
    refine j_goto 21 d_L_differ_10 (by decide) ?_
    refine j_iconst (v := 0) d_L_differ_21 (by decide) ?_
    exact j_iret d_L_differ_22 rfl (by omega) (by omega) h
  · obtain ⟨hE1, hx, k, hk, ht, h⟩ := h
    simp only [List.mem_cons, List.not_mem_nil, or_false] at hk
    rcases hk with rfl | rfl
    · refine jt_catch (X := "java/lang/IllegalStateException") [] (0, 10, 13, 25) [(0, 10, 17, 33)] rfl rfl ht hx (fun y hy => by cases hy) ⟨⟨by decide, by decide⟩, by decide, "java/lang/IllegalStateException", "java/lang/IllegalStateException", rfl, List.mem_of_getElem? (i := 769) (by decide +kernel), List.mem_of_getElem? (i := 978) (by decide +kernel)⟩ ?_
      refine j_astore (L' := [(4, .ref x), (0, .ref 1), (1, .int a), (2, .int b), (3, .ref 132)]) d_L_differ_13 (by decide) rfl ?_
      refine j_iconst (v := 1) d_L_differ_15 (by decide) ?_
      exact j_iret d_L_differ_16 rfl (by omega) (by omega) h
    · refine jt_catch (X := "java/util/NoSuchElementException") [(0, 10, 13, 25)] (0, 10, 17, 33) [] rfl rfl ht hx (fun y hy => by rw [List.mem_singleton.mp hy]; exact q_pass_NS (by decide) (List.mem_of_getElem? (i := 769) (by decide +kernel))) ⟨⟨by decide, by decide⟩, by decide, "java/util/NoSuchElementException", "java/util/NoSuchElementException", rfl, List.mem_of_getElem? (i := 1382) (by decide +kernel), List.mem_of_getElem? (i := 1389) (by decide +kernel)⟩ ?_
      refine j_astore (L' := [(4, .ref x), (0, .ref 1), (1, .int a), (2, .int b), (3, .ref 132)]) d_L_differ_17 (by decide) rfl ?_
      refine j_iconst (v := 2) d_L_differ_19 (by decide) ?_
      exact j_iret d_L_differ_20 rfl (by omega) (by omega) h
set_option maxHeartbeats 1000000 in
theorem c_L_can {ω : q_W} {σ : q_H} (hE : q_E σ) {d mc ms : Nat} {Q : q_R → q_H → Prop} {a b : Int32} (hJ : J ω m_H_can d mc ms 0 0 0 [(0, .ref 1), (1, .int a), (2, .int b)] [] σ (q_wr [(2, 1), (3, 2)] Q)) : J ω m_L_can (d + 1) mc ms 0 0 0 [(0, .ref 1), (1, .int a), (2, .int b), (3, .ref 132)] [] σ Q := by
  refine j_aload_n d_L_can_0 3 rfl ?_
  refine j_iconst (v := 0) d_L_can_1 (by decide) ?_
  refine j_aload_n d_L_can_2 0 rfl ?_
  refine j_iload_n d_L_can_3 1 rfl ?_
  refine j_iload_n d_L_can_4 2 rfl ?_
  refine j_callV m_H_can [.int a, .int b] [.int 0, .ref 132] d mc ms cV_L_45 d_L_can_5 rfl rfl (tg_1 hE) (q_okE hE (by decide)) (Nat.le_of_ble_eq_true rfl) (Nat.le_refl _) (Nat.le_of_ble_eq_true rfl) (by omega) (by omega) hJ (fun v τ h => ?_) (fun x τ h => ?_)
  · obtain ⟨hE1, h⟩ := h
    match v, h with
    | some (.int n), h =>
    refine j_i2l d_L_can_8 ?_
    refine j_last 0 d_L_can_9 (tg_132 hE1) (q_okE hE1 (by decide)) rfl (by decide) (by decide) ?_
    refine j_goto 21 d_L_can_10 (by decide) ?_
    refine j_iconst (v := 0) d_L_can_21 (by decide) ?_
    exact j_iret d_L_can_22 rfl (by omega) (by omega) h
  · obtain ⟨hE1, hx, k, hk, ht, h⟩ := h
    simp only [List.mem_cons, List.not_mem_nil, or_false] at hk
    rcases hk with rfl | rfl
    · refine jt_catch (X := "java/lang/IllegalStateException") [] (0, 10, 13, 25) [(0, 10, 17, 33)] rfl rfl ht hx (fun y hy => by cases hy) ⟨⟨by decide, by decide⟩, by decide, "java/lang/IllegalStateException", "java/lang/IllegalStateException", rfl, List.mem_of_getElem? (i := 769) (by decide +kernel), List.mem_of_getElem? (i := 978) (by decide +kernel)⟩ ?_
      refine j_astore (L' := [(4, .ref x), (0, .ref 1), (1, .int a), (2, .int b), (3, .ref 132)]) d_L_can_13 (by decide) rfl ?_
      refine j_iconst (v := 1) d_L_can_15 (by decide) ?_
      exact j_iret d_L_can_16 rfl (by omega) (by omega) h
    · refine jt_catch (X := "java/util/NoSuchElementException") [(0, 10, 13, 25)] (0, 10, 17, 33) [] rfl rfl ht hx (fun y hy => by rw [List.mem_singleton.mp hy]; exact q_pass_NS (by decide) (List.mem_of_getElem? (i := 769) (by decide +kernel))) ⟨⟨by decide, by decide⟩, by decide, "java/util/NoSuchElementException", "java/util/NoSuchElementException", rfl, List.mem_of_getElem? (i := 1382) (by decide +kernel), List.mem_of_getElem? (i := 1389) (by decide +kernel)⟩ ?_
      refine j_astore (L' := [(4, .ref x), (0, .ref 1), (1, .int a), (2, .int b), (3, .ref 132)]) d_L_can_17 (by decide) rfl ?_
      refine j_iconst (v := 2) d_L_can_19 (by decide) ?_
      exact j_iret d_L_can_20 rfl (by omega) (by omega) h
set_option maxHeartbeats 1000000 in
theorem c_L_ends {ω : q_W} {σ : q_H} (hE : q_E σ) {d mc ms : Nat} {Q : q_R → q_H → Prop} (hJ : J ω m_H_ends d mc ms 0 0 0 [(0, .ref 1)] [] σ (q_wr [(2, 1)] Q)) : J ω m_L_ends (d + 1) mc ms 0 0 0 [(0, .ref 1), (1, .ref 132)] [] σ Q := by
  refine j_aload_n d_L_ends_0 1 rfl ?_
  refine j_iconst (v := 0) d_L_ends_1 (by decide) ?_
  refine j_aload_n d_L_ends_2 0 rfl ?_
  refine j_callV m_H_ends [] [.int 0, .ref 132] d mc ms cV_L_48 d_L_ends_3 rfl rfl (tg_1 hE) (q_okE hE (by decide)) (Nat.le_of_ble_eq_true rfl) (Nat.le_refl _) (Nat.le_of_ble_eq_true rfl) (by omega) (by omega) hJ (fun v τ h => ?_) (fun x τ h => ?_)
  · obtain ⟨hE1, h⟩ := h
    match v, h with
    | some (.int n), h =>
    refine j_i2l d_L_ends_6 ?_
    refine j_last 0 d_L_ends_7 (tg_132 hE1) (q_okE hE1 (by decide)) rfl (by decide) (by decide) ?_
    refine j_goto 14 d_L_ends_8 (by decide) ?_
    refine j_iconst (v := 0) d_L_ends_14 (by decide) ?_
    exact j_iret d_L_ends_15 rfl (by omega) (by omega) h
  · obtain ⟨hE1, hx, k, hk, ht, h⟩ := h
    simp only [List.mem_cons, List.not_mem_nil, or_false] at hk
    rcases hk with rfl
    · refine jt_catch (X := "java/lang/IllegalStateException") [] (0, 8, 11, 25) [] rfl rfl ht hx (fun y hy => by cases hy) ⟨⟨by decide, by decide⟩, by decide, "java/lang/IllegalStateException", "java/lang/IllegalStateException", rfl, List.mem_of_getElem? (i := 769) (by decide +kernel), List.mem_of_getElem? (i := 978) (by decide +kernel)⟩ ?_
      refine j_astore_n (L' := [(2, .ref x), (0, .ref 1), (1, .ref 132)]) d_L_ends_11 (by decide) rfl ?_
      refine j_iconst (v := 1) d_L_ends_12 (by decide) ?_
      exact j_iret d_L_ends_13 rfl (by omega) (by omega) h
set_option maxHeartbeats 1000000 in
theorem c_L_witness {ω : q_W} {σ : q_H} (hE : q_E σ) {d mc ms : Nat} {Q : q_R → q_H → Prop} {a : Int32} (hJ : J ω m_H_witness d mc ms 0 0 0 [(0, .ref 1), (1, .int a)] [] σ (q_wr [(2, 1), (3, 2)] Q)) : J ω m_L_witness (d + 1) mc ms 0 0 0 [(0, .ref 1), (1, .int a), (2, .ref 132)] [] σ Q := by
  refine j_aload_n d_L_witness_0 2 rfl ?_
  refine j_iconst (v := 0) d_L_witness_1 (by decide) ?_
  refine j_aload_n d_L_witness_2 0 rfl ?_
  refine j_iload_n d_L_witness_3 1 rfl ?_
  refine j_callV m_H_witness [.int a] [.int 0, .ref 132] d mc ms cV_L_51 d_L_witness_4 rfl rfl (tg_1 hE) (q_okE hE (by decide)) (Nat.le_of_ble_eq_true rfl) (Nat.le_refl _) (Nat.le_of_ble_eq_true rfl) (by omega) (by omega) hJ (fun v τ h => ?_) (fun x τ h => ?_)
  · obtain ⟨hE1, h⟩ := h
    match v, h with
    | some (.int n), h =>
    refine j_i2l d_L_witness_7 ?_
    refine j_last 0 d_L_witness_8 (tg_132 hE1) (q_okE hE1 (by decide)) rfl (by decide) (by decide) ?_
    refine j_goto 18 d_L_witness_9 (by decide) ?_
    refine j_iconst (v := 0) d_L_witness_18 (by decide) ?_
    exact j_iret d_L_witness_19 rfl (by omega) (by omega) h
  · obtain ⟨hE1, hx, k, hk, ht, h⟩ := h
    simp only [List.mem_cons, List.not_mem_nil, or_false] at hk
    rcases hk with rfl | rfl
    · refine jt_catch (X := "java/lang/IllegalStateException") [] (0, 9, 12, 25) [(0, 9, 15, 33)] rfl rfl ht hx (fun y hy => by cases hy) ⟨⟨by decide, by decide⟩, by decide, "java/lang/IllegalStateException", "java/lang/IllegalStateException", rfl, List.mem_of_getElem? (i := 769) (by decide +kernel), List.mem_of_getElem? (i := 978) (by decide +kernel)⟩ ?_
      refine j_astore_n (L' := [(3, .ref x), (0, .ref 1), (1, .int a), (2, .ref 132)]) d_L_witness_12 (by decide) rfl ?_
      refine j_iconst (v := 1) d_L_witness_13 (by decide) ?_
      exact j_iret d_L_witness_14 rfl (by omega) (by omega) h
    · refine jt_catch (X := "java/util/NoSuchElementException") [(0, 9, 12, 25)] (0, 9, 15, 33) [] rfl rfl ht hx (fun y hy => by rw [List.mem_singleton.mp hy]; exact q_pass_NS (by decide) (List.mem_of_getElem? (i := 769) (by decide +kernel))) ⟨⟨by decide, by decide⟩, by decide, "java/util/NoSuchElementException", "java/util/NoSuchElementException", rfl, List.mem_of_getElem? (i := 1382) (by decide +kernel), List.mem_of_getElem? (i := 1389) (by decide +kernel)⟩ ?_
      refine j_astore_n (L' := [(3, .ref x), (0, .ref 1), (1, .int a), (2, .ref 132)]) d_L_witness_15 (by decide) rfl ?_
      refine j_iconst (v := 2) d_L_witness_16 (by decide) ?_
      exact j_iret d_L_witness_17 rfl (by omega) (by omega) h
set_option maxHeartbeats 1000000 in
theorem c_L_set {ω : q_W} {σ : q_H} (hE : q_E σ) {d mc ms : Nat} {Q : q_R → q_H → Prop} {a b : Int32} (hJ : J ω m_H_set d mc ms 0 0 0 [(0, .ref 1), (1, .int a), (2, .int b)] [] σ (q_wv [(2, 1), (3, 2)] Q)) : J ω m_L_set (d + 1) mc ms 0 0 0 [(0, .ref 1), (1, .int a), (2, .int b)] [] σ Q := by
  refine j_aload_n d_L_set_0 0 rfl ?_
  refine j_iload_n d_L_set_1 1 rfl ?_
  refine j_iload_n d_L_set_2 2 rfl ?_
  refine j_callV m_H_set [.int a, .int b] [] d mc ms cV_L_54 d_L_set_3 rfl rfl (tg_1 hE) (q_okE hE (by decide)) (Nat.le_of_ble_eq_true rfl) (Nat.le_refl _) (Nat.le_of_ble_eq_true rfl) (by omega) (by omega) hJ (fun v τ h => ?_) (fun x τ h => ?_)
  · obtain ⟨hE1, h⟩ := h
    match v, h with
    | none, h =>
    refine j_goto 15 d_L_set_6 (by decide) ?_
    refine j_iconst (v := 0) d_L_set_15 (by decide) ?_
    exact j_iret d_L_set_16 rfl (by omega) (by omega) h
  · obtain ⟨hE1, hx, k, hk, ht, h⟩ := h
    simp only [List.mem_cons, List.not_mem_nil, or_false] at hk
    rcases hk with rfl | rfl
    · refine jt_catch (X := "java/lang/IllegalStateException") [] (0, 6, 9, 25) [(0, 6, 12, 33)] rfl rfl ht hx (fun y hy => by cases hy) ⟨⟨by decide, by decide⟩, by decide, "java/lang/IllegalStateException", "java/lang/IllegalStateException", rfl, List.mem_of_getElem? (i := 769) (by decide +kernel), List.mem_of_getElem? (i := 978) (by decide +kernel)⟩ ?_
      refine j_astore_n (L' := [(3, .ref x), (0, .ref 1), (1, .int a), (2, .int b)]) d_L_set_9 (by decide) rfl ?_
      refine j_iconst (v := 1) d_L_set_10 (by decide) ?_
      exact j_iret d_L_set_11 rfl (by omega) (by omega) h
    · refine jt_catch (X := "java/util/NoSuchElementException") [(0, 6, 9, 25)] (0, 6, 12, 33) [] rfl rfl ht hx (fun y hy => by rw [List.mem_singleton.mp hy]; exact q_pass_NS (by decide) (List.mem_of_getElem? (i := 769) (by decide +kernel))) ⟨⟨by decide, by decide⟩, by decide, "java/util/NoSuchElementException", "java/util/NoSuchElementException", rfl, List.mem_of_getElem? (i := 1382) (by decide +kernel), List.mem_of_getElem? (i := 1389) (by decide +kernel)⟩ ?_
      refine j_astore_n (L' := [(3, .ref x), (0, .ref 1), (1, .int a), (2, .int b)]) d_L_set_12 (by decide) rfl ?_
      refine j_iconst (v := 2) d_L_set_13 (by decide) ?_
      exact j_iret d_L_set_14 rfl (by omega) (by omega) h
set_option maxHeartbeats 1000000 in
theorem c_L_take {ω : q_W} {σ : q_H} (hE : q_E σ) {d mc ms : Nat} {Q : q_R → q_H → Prop} (hJ : J ω m_H_take d mc ms 0 0 0 [(0, .ref 1)] [] σ (q_wv [(2, 1), (3, 2)] Q)) : J ω m_L_take (d + 1) mc ms 0 0 0 [(0, .ref 1)] [] σ Q := by
  refine j_aload_n d_L_take_0 0 rfl ?_
  refine j_callV m_H_take [] [] d mc ms cV_L_58 d_L_take_1 rfl rfl (tg_1 hE) (q_okE hE (by decide)) (Nat.le_of_ble_eq_true rfl) (Nat.le_refl _) (Nat.le_of_ble_eq_true rfl) (by omega) (by omega) hJ (fun v τ h => ?_) (fun x τ h => ?_)
  · obtain ⟨hE1, h⟩ := h
    match v, h with
    | none, h =>
    refine j_goto 13 d_L_take_4 (by decide) ?_
    refine j_iconst (v := 0) d_L_take_13 (by decide) ?_
    exact j_iret d_L_take_14 rfl (by omega) (by omega) h
  · obtain ⟨hE1, hx, k, hk, ht, h⟩ := h
    simp only [List.mem_cons, List.not_mem_nil, or_false] at hk
    rcases hk with rfl | rfl
    · refine jt_catch (X := "java/lang/IllegalStateException") [] (0, 4, 7, 25) [(0, 4, 10, 33)] rfl rfl ht hx (fun y hy => by cases hy) ⟨⟨by decide, by decide⟩, by decide, "java/lang/IllegalStateException", "java/lang/IllegalStateException", rfl, List.mem_of_getElem? (i := 769) (by decide +kernel), List.mem_of_getElem? (i := 978) (by decide +kernel)⟩ ?_
      refine j_astore_n (L' := [(1, .ref x), (0, .ref 1)]) d_L_take_7 (by decide) rfl ?_
      refine j_iconst (v := 1) d_L_take_8 (by decide) ?_
      exact j_iret d_L_take_9 rfl (by omega) (by omega) h
    · refine jt_catch (X := "java/util/NoSuchElementException") [(0, 4, 7, 25)] (0, 4, 10, 33) [] rfl rfl ht hx (fun y hy => by rw [List.mem_singleton.mp hy]; exact q_pass_NS (by decide) (List.mem_of_getElem? (i := 769) (by decide +kernel))) ⟨⟨by decide, by decide⟩, by decide, "java/util/NoSuchElementException", "java/util/NoSuchElementException", rfl, List.mem_of_getElem? (i := 1382) (by decide +kernel), List.mem_of_getElem? (i := 1389) (by decide +kernel)⟩ ?_
      refine j_astore_n (L' := [(1, .ref x), (0, .ref 1)]) d_L_take_10 (by decide) rfl ?_
      refine j_iconst (v := 2) d_L_take_11 (by decide) ?_
      exact j_iret d_L_take_12 rfl (by omega) (by omega) h
set_option maxHeartbeats 1000000 in
theorem c_L_run {ω : q_W} {σ : q_H} (hE : q_E σ) {d mc ms : Nat} {Q : q_R → q_H → Prop} (hJ : J ω m_H_run d mc ms 0 0 0 [(0, .ref 1)] [] σ (q_wr [(2, 1)] Q)) : J ω m_L_run (d + 1) mc ms 0 0 0 [(0, .ref 1), (1, .ref 132)] [] σ Q := by
  refine j_aload_n d_L_run_0 1 rfl ?_
  refine j_iconst (v := 0) d_L_run_1 (by decide) ?_
  refine j_aload_n d_L_run_2 0 rfl ?_
  refine j_callV m_H_run [] [.int 0, .ref 132] d mc ms cV_L_61 d_L_run_3 rfl rfl (tg_1 hE) (q_okE hE (by decide)) (Nat.le_of_ble_eq_true rfl) (Nat.le_refl _) (Nat.le_of_ble_eq_true rfl) (by omega) (by omega) hJ (fun v τ h => ?_) (fun x τ h => ?_)
  · obtain ⟨hE1, h⟩ := h
    match v, h with
    | some (.int n), h =>
    refine j_i2l d_L_run_6 ?_
    refine j_last 0 d_L_run_7 (tg_132 hE1) (q_okE hE1 (by decide)) rfl (by decide) (by decide) ?_
    refine j_goto 14 d_L_run_8 (by decide) ?_
    refine j_iconst (v := 0) d_L_run_14 (by decide) ?_
    exact j_iret d_L_run_15 rfl (by omega) (by omega) h
  · obtain ⟨hE1, hx, k, hk, ht, h⟩ := h
    simp only [List.mem_cons, List.not_mem_nil, or_false] at hk
    rcases hk with rfl
    · refine jt_catch (X := "java/lang/IllegalStateException") [] (0, 8, 11, 25) [] rfl rfl ht hx (fun y hy => by cases hy) ⟨⟨by decide, by decide⟩, by decide, "java/lang/IllegalStateException", "java/lang/IllegalStateException", rfl, List.mem_of_getElem? (i := 769) (by decide +kernel), List.mem_of_getElem? (i := 978) (by decide +kernel)⟩ ?_
      refine j_astore_n (L' := [(2, .ref x), (0, .ref 1), (1, .ref 132)]) d_L_run_11 (by decide) rfl ?_
      refine j_iconst (v := 1) d_L_run_12 (by decide) ?_
      exact j_iret d_L_run_13 rfl (by omega) (by omega) h
set_option maxHeartbeats 1000000 in
theorem c_L_value {ω : q_W} {σ : q_H} (hE : q_E σ) {d mc ms : Nat} {Q : q_R → q_H → Prop} {a : Int32} (hJ : J ω m_H_value d mc ms 0 0 0 [(0, .ref 1), (1, .int a)] [] σ (q_wr [(2, 1), (3, 2)] Q)) : J ω m_L_value (d + 1) mc ms 0 0 0 [(0, .ref 1), (1, .int a), (2, .ref 132)] [] σ Q := by
  refine j_aload_n d_L_value_0 2 rfl ?_
  refine j_iconst (v := 0) d_L_value_1 (by decide) ?_
  refine j_aload_n d_L_value_2 0 rfl ?_
  refine j_iload_n d_L_value_3 1 rfl ?_
  refine j_callV m_H_value [.int a] [.int 0, .ref 132] d mc ms cV_L_64 d_L_value_4 rfl rfl (tg_1 hE) (q_okE hE (by decide)) (Nat.le_of_ble_eq_true rfl) (Nat.le_refl _) (Nat.le_of_ble_eq_true rfl) (by omega) (by omega) hJ (fun v τ h => ?_) (fun x τ h => ?_)
  · obtain ⟨hE1, h⟩ := h
    match v, h with
    | some (.int n), h =>
    refine j_i2l d_L_value_7 ?_
    refine j_last 0 d_L_value_8 (tg_132 hE1) (q_okE hE1 (by decide)) rfl (by decide) (by decide) ?_
    refine j_goto 18 d_L_value_9 (by decide) ?_
    refine j_iconst (v := 0) d_L_value_18 (by decide) ?_
    exact j_iret d_L_value_19 rfl (by omega) (by omega) h
  · obtain ⟨hE1, hx, k, hk, ht, h⟩ := h
    simp only [List.mem_cons, List.not_mem_nil, or_false] at hk
    rcases hk with rfl | rfl
    · refine jt_catch (X := "java/lang/IllegalStateException") [] (0, 9, 12, 25) [(0, 9, 15, 33)] rfl rfl ht hx (fun y hy => by cases hy) ⟨⟨by decide, by decide⟩, by decide, "java/lang/IllegalStateException", "java/lang/IllegalStateException", rfl, List.mem_of_getElem? (i := 769) (by decide +kernel), List.mem_of_getElem? (i := 978) (by decide +kernel)⟩ ?_
      refine j_astore_n (L' := [(3, .ref x), (0, .ref 1), (1, .int a), (2, .ref 132)]) d_L_value_12 (by decide) rfl ?_
      refine j_iconst (v := 1) d_L_value_13 (by decide) ?_
      exact j_iret d_L_value_14 rfl (by omega) (by omega) h
    · refine jt_catch (X := "java/util/NoSuchElementException") [(0, 9, 12, 25)] (0, 9, 15, 33) [] rfl rfl ht hx (fun y hy => by rw [List.mem_singleton.mp hy]; exact q_pass_NS (by decide) (List.mem_of_getElem? (i := 769) (by decide +kernel))) ⟨⟨by decide, by decide⟩, by decide, "java/util/NoSuchElementException", "java/util/NoSuchElementException", rfl, List.mem_of_getElem? (i := 1382) (by decide +kernel), List.mem_of_getElem? (i := 1389) (by decide +kernel)⟩ ?_
      refine j_astore_n (L' := [(3, .ref x), (0, .ref 1), (1, .int a), (2, .ref 132)]) d_L_value_15 (by decide) rfl ?_
      refine j_iconst (v := 2) d_L_value_16 (by decide) ?_
      exact j_iret d_L_value_17 rfl (by omega) (by omega) h
