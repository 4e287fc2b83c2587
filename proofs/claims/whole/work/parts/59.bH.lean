/-! stretches of bytecode as conditions: H -/
theorem d_H_build_50 : decode m_H_build.2.1 50 = .ok (.iconst 0, 1) := by decide +kernel
theorem d_H_build_72 : decode m_H_build.2.1 72 = .ok (.aload_n 0, 1) := by decide +kernel
theorem d_H_build_73 : decode m_H_build.2.1 73 = .ok (.aload_n 0, 1) := by decide +kernel
theorem d_H_build_74 : decode m_H_build.2.1 74 = .ok (.getfield 30, 3) := by decide +kernel
theorem d_H_build_77 : decode m_H_build.2.1 77 = .ok (.getfield 86, 3) := by decide +kernel
theorem d_H_build_80 : decode m_H_build.2.1 80 = .ok (.putfield 89, 3) := by decide +kernel
theorem d_H_build_83 : decode m_H_build.2.1 83 = .ok (.aload_n 0, 1) := by decide +kernel
theorem d_H_build_84 : decode m_H_build.2.1 84 = .ok (.aload_n 0, 1) := by decide +kernel
theorem d_H_build_85 : decode m_H_build.2.1 85 = .ok (.getfield 30, 3) := by decide +kernel
theorem d_H_build_88 : decode m_H_build.2.1 88 = .ok (.getfield 90, 3) := by decide +kernel
theorem d_H_build_91 : decode m_H_build.2.1 91 = .ok (.putfield 33, 3) := by decide +kernel
theorem d_H_build_94 : decode m_H_build.2.1 94 = .ok (.new 91, 3) := by decide +kernel
theorem d_H_build_97 : decode m_H_build.2.1 97 = .ok (.dup, 1) := by decide +kernel
theorem d_H_build_98 : decode m_H_build.2.1 98 = .ok (.invokespecial 93, 3) := by decide +kernel
theorem d_H_build_101 : decode m_H_build.2.1 101 = .ok (.athrow, 1) := by decide +kernel
theorem d_H_fails_4 : decode m_H_fails.2.1 4 = .ok (.aload_n 0, 1) := by decide +kernel
theorem d_H_fails_5 : decode m_H_fails.2.1 5 = .ok (.getfield 51, 3) := by decide +kernel
theorem d_H_fails_8 : decode m_H_fails.2.1 8 = .ok (.invokevirtual 126, 3) := by decide +kernel
theorem d_H_fails_11 : decode m_H_fails.2.1 11 = .ok (.aload_n 0, 1) := by decide +kernel
theorem d_H_fails_12 : decode m_H_fails.2.1 12 = .ok (.getfield 51, 3) := by decide +kernel
theorem d_H_fails_15 : decode m_H_fails.2.1 15 = .ok (.aload_n 0, 1) := by decide +kernel
theorem d_H_fails_16 : decode m_H_fails.2.1 16 = .ok (.getfield 51, 3) := by decide +kernel
theorem d_H_fails_19 : decode m_H_fails.2.1 19 = .ok (.getfield 111, 3) := by decide +kernel
theorem d_H_fails_22 : decode m_H_fails.2.1 22 = .ok (.getfield 129, 3) := by decide +kernel
theorem d_H_fails_25 : decode m_H_fails.2.1 25 = .ok (.invokevirtual 132, 3) := by decide +kernel
theorem d_H_fails_28 : decode m_H_fails.2.1 28 = .ok (.aload_n 0, 1) := by decide +kernel
theorem d_H_fails_29 : decode m_H_fails.2.1 29 = .ok (.getfield 51, 3) := by decide +kernel
theorem d_H_fails_32 : decode m_H_fails.2.1 32 = .ok (.invokevirtual 135, 3) := by decide +kernel
theorem d_H_fails_35 : decode m_H_fails.2.1 35 = .ok (.aload_n 0, 1) := by decide +kernel
theorem d_H_fails_36 : decode m_H_fails.2.1 36 = .ok (.getfield 51, 3) := by decide +kernel
theorem d_H_fails_39 : decode m_H_fails.2.1 39 = .ok (.invokevirtual 138, 3) := by decide +kernel
theorem d_H_fails_42 : decode m_H_fails.2.1 42 = .ok (.aload_n 0, 1) := by decide +kernel
theorem d_H_fails_43 : decode m_H_fails.2.1 43 = .ok (.getfield 51, 3) := by decide +kernel
theorem d_H_fails_46 : decode m_H_fails.2.1 46 = .ok (.aload_n 0, 1) := by decide +kernel
theorem d_H_fails_47 : decode m_H_fails.2.1 47 = .ok (.getfield 51, 3) := by decide +kernel
theorem d_H_fails_50 : decode m_H_fails.2.1 50 = .ok (.getfield 141, 3) := by decide +kernel
theorem d_H_fails_53 : decode m_H_fails.2.1 53 = .ok (.getfield 144, 3) := by decide +kernel
theorem d_H_fails_56 : decode m_H_fails.2.1 56 = .ok (.iconst 1, 1) := by decide +kernel
theorem d_H_fails_57 : decode m_H_fails.2.1 57 = .ok (.if_icmp .ne 7, 3) := by decide +kernel
theorem d_H_fails_60 : decode m_H_fails.2.1 60 = .ok (.iconst 1, 1) := by decide +kernel
theorem d_H_fails_61 : decode m_H_fails.2.1 61 = .ok (.goto 4, 3) := by decide +kernel
theorem d_H_fails_64 : decode m_H_fails.2.1 64 = .ok (.iconst 0, 1) := by decide +kernel
theorem d_H_fails_65 : decode m_H_fails.2.1 65 = .ok (.invokevirtual 147, 3) := by decide +kernel
theorem d_H_fails_68 : decode m_H_fails.2.1 68 = .ok (.ireturn, 1) := by decide +kernel
theorem d_H_wipe_0 : decode m_H_wipe.2.1 0 = .ok (.iconst 0, 1) := by decide +kernel
theorem d_H_wipe_1 : decode m_H_wipe.2.1 1 = .ok (.istore_n 2, 1) := by decide +kernel
theorem d_H_wipe_2 : decode m_H_wipe.2.1 2 = .ok (.iload_n 2, 1) := by decide +kernel
theorem d_H_wipe_3 : decode m_H_wipe.2.1 3 = .ok (.iload_n 1, 1) := by decide +kernel
theorem d_H_wipe_4 : decode m_H_wipe.2.1 4 = .ok (.if_icmp .ge 19, 3) := by decide +kernel
theorem d_H_wipe_7 : decode m_H_wipe.2.1 7 = .ok (.iload_n 2, 1) := by decide +kernel
theorem d_H_wipe_8 : decode m_H_wipe.2.1 8 = .ok (.aload_n 0, 1) := by decide +kernel
theorem d_H_wipe_9 : decode m_H_wipe.2.1 9 = .ok (.arraylength, 1) := by decide +kernel
theorem d_H_wipe_10 : decode m_H_wipe.2.1 10 = .ok (.if_icmp .ge 13, 3) := by decide +kernel
theorem d_H_wipe_13 : decode m_H_wipe.2.1 13 = .ok (.aload_n 0, 1) := by decide +kernel
theorem d_H_wipe_14 : decode m_H_wipe.2.1 14 = .ok (.iload_n 2, 1) := by decide +kernel
theorem d_H_wipe_15 : decode m_H_wipe.2.1 15 = .ok (.iconst 0, 1) := by decide +kernel
theorem d_H_wipe_16 : decode m_H_wipe.2.1 16 = .ok (.iastore, 1) := by decide +kernel
theorem d_H_wipe_17 : decode m_H_wipe.2.1 17 = .ok (.iinc 2 1, 3) := by decide +kernel
theorem d_H_wipe_20 : decode m_H_wipe.2.1 20 = .ok (.goto (-18), 3) := by decide +kernel
theorem d_H_wipe_23 : decode m_H_wipe.2.1 23 = .ok (.return_, 1) := by decide +kernel
theorem d_H_failsAt_4 : decode m_H_failsAt.2.1 4 = .ok (.iload_n 1, 1) := by decide +kernel
theorem d_H_failsAt_5 : decode m_H_failsAt.2.1 5 = .ok (.ifCond .lt 14, 3) := by decide +kernel
theorem d_H_failsAt_8 : decode m_H_failsAt.2.1 8 = .ok (.iload_n 1, 1) := by decide +kernel
theorem d_H_failsAt_9 : decode m_H_failsAt.2.1 9 = .ok (.aload_n 0, 1) := by decide +kernel
theorem d_H_failsAt_10 : decode m_H_failsAt.2.1 10 = .ok (.getfield 26, 3) := by decide +kernel
theorem d_H_failsAt_13 : decode m_H_failsAt.2.1 13 = .ok (.getfield 120, 3) := by decide +kernel
theorem d_H_failsAt_16 : decode m_H_failsAt.2.1 16 = .ok (.if_icmp .lt 11, 3) := by decide +kernel
theorem d_H_failsAt_19 : decode m_H_failsAt.2.1 19 = .ok (.new 151, 3) := by decide +kernel
theorem d_H_failsAt_22 : decode m_H_failsAt.2.1 22 = .ok (.dup, 1) := by decide +kernel
theorem d_H_failsAt_23 : decode m_H_failsAt.2.1 23 = .ok (.invokespecial 153, 3) := by decide +kernel
theorem d_H_failsAt_26 : decode m_H_failsAt.2.1 26 = .ok (.athrow, 1) := by decide +kernel
theorem d_H_failsAt_27 : decode m_H_failsAt.2.1 27 = .ok (.aload_n 0, 1) := by decide +kernel
theorem d_H_failsAt_28 : decode m_H_failsAt.2.1 28 = .ok (.getfield 51, 3) := by decide +kernel
theorem d_H_failsAt_31 : decode m_H_failsAt.2.1 31 = .ok (.invokevirtual 126, 3) := by decide +kernel
theorem d_H_failsAt_34 : decode m_H_failsAt.2.1 34 = .ok (.aload_n 0, 1) := by decide +kernel
theorem d_H_failsAt_35 : decode m_H_failsAt.2.1 35 = .ok (.getfield 51, 3) := by decide +kernel
theorem d_H_failsAt_38 : decode m_H_failsAt.2.1 38 = .ok (.aload_n 0, 1) := by decide +kernel
theorem d_H_failsAt_39 : decode m_H_failsAt.2.1 39 = .ok (.getfield 51, 3) := by decide +kernel
theorem d_H_failsAt_42 : decode m_H_failsAt.2.1 42 = .ok (.getfield 111, 3) := by decide +kernel
theorem d_H_failsAt_45 : decode m_H_failsAt.2.1 45 = .ok (.getfield 154, 3) := by decide +kernel
theorem d_H_failsAt_48 : decode m_H_failsAt.2.1 48 = .ok (.iload_n 1, 1) := by decide +kernel
theorem d_H_failsAt_49 : decode m_H_failsAt.2.1 49 = .ok (.iaload, 1) := by decide +kernel
theorem d_H_failsAt_50 : decode m_H_failsAt.2.1 50 = .ok (.invokevirtual 132, 3) := by decide +kernel
theorem d_H_failsAt_53 : decode m_H_failsAt.2.1 53 = .ok (.aload_n 0, 1) := by decide +kernel
theorem d_H_failsAt_54 : decode m_H_failsAt.2.1 54 = .ok (.getfield 51, 3) := by decide +kernel
theorem d_H_failsAt_57 : decode m_H_failsAt.2.1 57 = .ok (.invokevirtual 135, 3) := by decide +kernel
theorem d_H_failsAt_60 : decode m_H_failsAt.2.1 60 = .ok (.aload_n 0, 1) := by decide +kernel
theorem d_H_failsAt_61 : decode m_H_failsAt.2.1 61 = .ok (.getfield 51, 3) := by decide +kernel
theorem d_H_failsAt_64 : decode m_H_failsAt.2.1 64 = .ok (.invokevirtual 138, 3) := by decide +kernel
theorem d_H_failsAt_67 : decode m_H_failsAt.2.1 67 = .ok (.aload_n 0, 1) := by decide +kernel
theorem d_H_failsAt_68 : decode m_H_failsAt.2.1 68 = .ok (.getfield 51, 3) := by decide +kernel
theorem d_H_failsAt_71 : decode m_H_failsAt.2.1 71 = .ok (.aload_n 0, 1) := by decide +kernel
theorem d_H_failsAt_72 : decode m_H_failsAt.2.1 72 = .ok (.getfield 51, 3) := by decide +kernel
theorem d_H_failsAt_75 : decode m_H_failsAt.2.1 75 = .ok (.getfield 141, 3) := by decide +kernel
theorem d_H_failsAt_78 : decode m_H_failsAt.2.1 78 = .ok (.getfield 144, 3) := by decide +kernel
theorem d_H_failsAt_81 : decode m_H_failsAt.2.1 81 = .ok (.iconst 1, 1) := by decide +kernel
theorem d_H_failsAt_82 : decode m_H_failsAt.2.1 82 = .ok (.if_icmp .ne 21, 3) := by decide +kernel
theorem d_H_failsAt_85 : decode m_H_failsAt.2.1 85 = .ok (.aload_n 0, 1) := by decide +kernel
theorem d_H_failsAt_86 : decode m_H_failsAt.2.1 86 = .ok (.getfield 51, 3) := by decide +kernel
theorem d_H_failsAt_89 : decode m_H_failsAt.2.1 89 = .ok (.getfield 141, 3) := by decide +kernel
theorem d_H_failsAt_92 : decode m_H_failsAt.2.1 92 = .ok (.getfield 157, 3) := by decide +kernel
theorem d_H_failsAt_95 : decode m_H_failsAt.2.1 95 = .ok (.iload_n 1, 1) := by decide +kernel
theorem d_H_failsAt_96 : decode m_H_failsAt.2.1 96 = .ok (.if_icmp .ne 7, 3) := by decide +kernel
theorem d_H_failsAt_99 : decode m_H_failsAt.2.1 99 = .ok (.iconst 1, 1) := by decide +kernel
theorem d_H_failsAt_100 : decode m_H_failsAt.2.1 100 = .ok (.goto 4, 3) := by decide +kernel
theorem d_H_failsAt_103 : decode m_H_failsAt.2.1 103 = .ok (.iconst 0, 1) := by decide +kernel
theorem d_H_failsAt_104 : decode m_H_failsAt.2.1 104 = .ok (.invokevirtual 147, 3) := by decide +kernel
theorem d_H_failsAt_107 : decode m_H_failsAt.2.1 107 = .ok (.ireturn, 1) := by decide +kernel
theorem d_H_least_4 : decode m_H_least.2.1 4 = .ok (.aload_n 0, 1) := by decide +kernel
theorem d_H_least_5 : decode m_H_least.2.1 5 = .ok (.iload_n 1, 1) := by decide +kernel
theorem d_H_least_6 : decode m_H_least.2.1 6 = .ok (.invokevirtual 160, 3) := by decide +kernel
theorem d_H_least_9 : decode m_H_least.2.1 9 = .ok (.aload_n 0, 1) := by decide +kernel
theorem d_H_least_10 : decode m_H_least.2.1 10 = .ok (.getfield 51, 3) := by decide +kernel
theorem d_H_least_13 : decode m_H_least.2.1 13 = .ok (.iload_n 1, 1) := by decide +kernel
theorem d_H_least_14 : decode m_H_least.2.1 14 = .ok (.iconst 0, 1) := by decide +kernel
theorem d_H_least_15 : decode m_H_least.2.1 15 = .ok (.invokevirtual 163, 3) := by decide +kernel
theorem d_H_least_18 : decode m_H_least.2.1 18 = .ok (.ireturn, 1) := by decide +kernel
theorem d_H_needVariable_0 : decode m_H_needVariable.2.1 0 = .ok (.iload_n 1, 1) := by decide +kernel
theorem d_H_needVariable_1 : decode m_H_needVariable.2.1 1 = .ok (.ifCond .lt 14, 3) := by decide +kernel
theorem d_H_needVariable_4 : decode m_H_needVariable.2.1 4 = .ok (.iload_n 1, 1) := by decide +kernel
theorem d_H_needVariable_5 : decode m_H_needVariable.2.1 5 = .ok (.aload_n 0, 1) := by decide +kernel
theorem d_H_needVariable_6 : decode m_H_needVariable.2.1 6 = .ok (.getfield 26, 3) := by decide +kernel
theorem d_H_needVariable_9 : decode m_H_needVariable.2.1 9 = .ok (.getfield 209, 3) := by decide +kernel
theorem d_H_needVariable_12 : decode m_H_needVariable.2.1 12 = .ok (.if_icmp .lt 11, 3) := by decide +kernel
theorem d_H_needVariable_15 : decode m_H_needVariable.2.1 15 = .ok (.new 151, 3) := by decide +kernel
theorem d_H_needVariable_18 : decode m_H_needVariable.2.1 18 = .ok (.dup, 1) := by decide +kernel
theorem d_H_needVariable_19 : decode m_H_needVariable.2.1 19 = .ok (.invokespecial 153, 3) := by decide +kernel
theorem d_H_needVariable_22 : decode m_H_needVariable.2.1 22 = .ok (.athrow, 1) := by decide +kernel
theorem d_H_needVariable_23 : decode m_H_needVariable.2.1 23 = .ok (.return_, 1) := by decide +kernel
theorem d_H_greatest_4 : decode m_H_greatest.2.1 4 = .ok (.aload_n 0, 1) := by decide +kernel
theorem d_H_greatest_5 : decode m_H_greatest.2.1 5 = .ok (.iload_n 1, 1) := by decide +kernel
theorem d_H_greatest_6 : decode m_H_greatest.2.1 6 = .ok (.invokevirtual 160, 3) := by decide +kernel
theorem d_H_greatest_9 : decode m_H_greatest.2.1 9 = .ok (.aload_n 0, 1) := by decide +kernel
theorem d_H_greatest_10 : decode m_H_greatest.2.1 10 = .ok (.getfield 51, 3) := by decide +kernel
theorem d_H_greatest_13 : decode m_H_greatest.2.1 13 = .ok (.iload_n 1, 1) := by decide +kernel
theorem d_H_greatest_14 : decode m_H_greatest.2.1 14 = .ok (.iconst 1, 1) := by decide +kernel
theorem d_H_greatest_15 : decode m_H_greatest.2.1 15 = .ok (.invokevirtual 163, 3) := by decide +kernel
theorem d_H_greatest_18 : decode m_H_greatest.2.1 18 = .ok (.ireturn, 1) := by decide +kernel
theorem d_H_differ_4 : decode m_H_differ.2.1 4 = .ok (.aload_n 0, 1) := by decide +kernel
theorem d_H_differ_5 : decode m_H_differ.2.1 5 = .ok (.iload_n 1, 1) := by decide +kernel
theorem d_H_differ_6 : decode m_H_differ.2.1 6 = .ok (.invokevirtual 160, 3) := by decide +kernel
theorem d_H_differ_9 : decode m_H_differ.2.1 9 = .ok (.aload_n 0, 1) := by decide +kernel
theorem d_H_differ_10 : decode m_H_differ.2.1 10 = .ok (.iload_n 2, 1) := by decide +kernel
theorem d_H_differ_11 : decode m_H_differ.2.1 11 = .ok (.invokevirtual 160, 3) := by decide +kernel
theorem d_H_differ_14 : decode m_H_differ.2.1 14 = .ok (.aload_n 0, 1) := by decide +kernel
theorem d_H_differ_15 : decode m_H_differ.2.1 15 = .ok (.getfield 51, 3) := by decide +kernel
theorem d_H_differ_18 : decode m_H_differ.2.1 18 = .ok (.invokevirtual 126, 3) := by decide +kernel
theorem d_H_differ_21 : decode m_H_differ.2.1 21 = .ok (.aload_n 0, 1) := by decide +kernel
theorem d_H_differ_22 : decode m_H_differ.2.1 22 = .ok (.getfield 51, 3) := by decide +kernel
theorem d_H_differ_25 : decode m_H_differ.2.1 25 = .ok (.aload_n 0, 1) := by decide +kernel
theorem d_H_differ_26 : decode m_H_differ.2.1 26 = .ok (.getfield 51, 3) := by decide +kernel
theorem d_H_differ_29 : decode m_H_differ.2.1 29 = .ok (.getfield 111, 3) := by decide +kernel
theorem d_H_differ_32 : decode m_H_differ.2.1 32 = .ok (.getfield 167, 3) := by decide +kernel
theorem d_H_differ_35 : decode m_H_differ.2.1 35 = .ok (.invokevirtual 132, 3) := by decide +kernel
theorem d_H_differ_38 : decode m_H_differ.2.1 38 = .ok (.aload_n 0, 1) := by decide +kernel
theorem d_H_differ_39 : decode m_H_differ.2.1 39 = .ok (.getfield 51, 3) := by decide +kernel
theorem d_H_differ_42 : decode m_H_differ.2.1 42 = .ok (.aload_n 0, 1) := by decide +kernel
theorem d_H_differ_43 : decode m_H_differ.2.1 43 = .ok (.getfield 51, 3) := by decide +kernel
theorem d_H_differ_46 : decode m_H_differ.2.1 46 = .ok (.getfield 111, 3) := by decide +kernel
theorem d_H_differ_49 : decode m_H_differ.2.1 49 = .ok (.iload_n 1, 1) := by decide +kernel
theorem d_H_differ_50 : decode m_H_differ.2.1 50 = .ok (.iload_n 2, 1) := by decide +kernel
theorem d_H_differ_51 : decode m_H_differ.2.1 51 = .ok (.invokevirtual 170, 3) := by decide +kernel
theorem d_H_differ_54 : decode m_H_differ.2.1 54 = .ok (.invokevirtual 132, 3) := by decide +kernel
theorem d_H_differ_57 : decode m_H_differ.2.1 57 = .ok (.aload_n 0, 1) := by decide +kernel
theorem d_H_differ_58 : decode m_H_differ.2.1 58 = .ok (.getfield 51, 3) := by decide +kernel
theorem d_H_differ_61 : decode m_H_differ.2.1 61 = .ok (.invokevirtual 135, 3) := by decide +kernel
theorem d_H_differ_64 : decode m_H_differ.2.1 64 = .ok (.aload_n 0, 1) := by decide +kernel
theorem d_H_differ_65 : decode m_H_differ.2.1 65 = .ok (.getfield 51, 3) := by decide +kernel
theorem d_H_differ_68 : decode m_H_differ.2.1 68 = .ok (.invokevirtual 138, 3) := by decide +kernel
theorem d_H_differ_71 : decode m_H_differ.2.1 71 = .ok (.aload_n 0, 1) := by decide +kernel
theorem d_H_differ_72 : decode m_H_differ.2.1 72 = .ok (.getfield 51, 3) := by decide +kernel
theorem d_H_differ_75 : decode m_H_differ.2.1 75 = .ok (.getfield 141, 3) := by decide +kernel
theorem d_H_differ_78 : decode m_H_differ.2.1 78 = .ok (.astore_n 3, 1) := by decide +kernel
theorem d_H_differ_79 : decode m_H_differ.2.1 79 = .ok (.aload_n 0, 1) := by decide +kernel
theorem d_H_differ_80 : decode m_H_differ.2.1 80 = .ok (.getfield 51, 3) := by decide +kernel
theorem d_H_differ_83 : decode m_H_differ.2.1 83 = .ok (.aload_n 3, 1) := by decide +kernel
theorem d_H_differ_84 : decode m_H_differ.2.1 84 = .ok (.getfield 144, 3) := by decide +kernel
theorem d_H_differ_87 : decode m_H_differ.2.1 87 = .ok (.ifCond .ne 22, 3) := by decide +kernel
theorem d_H_differ_90 : decode m_H_differ.2.1 90 = .ok (.aload_n 3, 1) := by decide +kernel
theorem d_H_differ_91 : decode m_H_differ.2.1 91 = .ok (.getfield 173, 3) := by decide +kernel
theorem d_H_differ_94 : decode m_H_differ.2.1 94 = .ok (.iload_n 1, 1) := by decide +kernel
theorem d_H_differ_95 : decode m_H_differ.2.1 95 = .ok (.iaload, 1) := by decide +kernel
theorem d_H_differ_96 : decode m_H_differ.2.1 96 = .ok (.aload_n 3, 1) := by decide +kernel
theorem d_H_differ_97 : decode m_H_differ.2.1 97 = .ok (.getfield 173, 3) := by decide +kernel
theorem d_H_differ_100 : decode m_H_differ.2.1 100 = .ok (.iload_n 2, 1) := by decide +kernel
theorem d_H_differ_101 : decode m_H_differ.2.1 101 = .ok (.iaload, 1) := by decide +kernel
theorem d_H_differ_102 : decode m_H_differ.2.1 102 = .ok (.if_icmp .eq 7, 3) := by decide +kernel
theorem d_H_differ_105 : decode m_H_differ.2.1 105 = .ok (.iconst 1, 1) := by decide +kernel
theorem d_H_differ_106 : decode m_H_differ.2.1 106 = .ok (.goto 4, 3) := by decide +kernel
theorem d_H_differ_109 : decode m_H_differ.2.1 109 = .ok (.iconst 0, 1) := by decide +kernel
theorem d_H_differ_110 : decode m_H_differ.2.1 110 = .ok (.invokevirtual 147, 3) := by decide +kernel
theorem d_H_differ_113 : decode m_H_differ.2.1 113 = .ok (.ireturn, 1) := by decide +kernel
theorem d_H_can_4 : decode m_H_can.2.1 4 = .ok (.aload_n 0, 1) := by decide +kernel
theorem d_H_can_5 : decode m_H_can.2.1 5 = .ok (.iload_n 1, 1) := by decide +kernel
theorem d_H_can_6 : decode m_H_can.2.1 6 = .ok (.invokevirtual 160, 3) := by decide +kernel
theorem d_H_can_9 : decode m_H_can.2.1 9 = .ok (.aload_n 0, 1) := by decide +kernel
theorem d_H_can_10 : decode m_H_can.2.1 10 = .ok (.getfield 51, 3) := by decide +kernel
theorem d_H_can_13 : decode m_H_can.2.1 13 = .ok (.invokevirtual 126, 3) := by decide +kernel
theorem d_H_can_16 : decode m_H_can.2.1 16 = .ok (.aload_n 0, 1) := by decide +kernel
theorem d_H_can_17 : decode m_H_can.2.1 17 = .ok (.getfield 51, 3) := by decide +kernel
theorem d_H_can_20 : decode m_H_can.2.1 20 = .ok (.aload_n 0, 1) := by decide +kernel
theorem d_H_can_21 : decode m_H_can.2.1 21 = .ok (.getfield 51, 3) := by decide +kernel
theorem d_H_can_24 : decode m_H_can.2.1 24 = .ok (.getfield 111, 3) := by decide +kernel
theorem d_H_can_27 : decode m_H_can.2.1 27 = .ok (.getfield 167, 3) := by decide +kernel
theorem d_H_can_30 : decode m_H_can.2.1 30 = .ok (.invokevirtual 132, 3) := by decide +kernel
theorem d_H_can_33 : decode m_H_can.2.1 33 = .ok (.aload_n 0, 1) := by decide +kernel
theorem d_H_can_34 : decode m_H_can.2.1 34 = .ok (.getfield 51, 3) := by decide +kernel
theorem d_H_can_37 : decode m_H_can.2.1 37 = .ok (.iload_n 1, 1) := by decide +kernel
theorem d_H_can_38 : decode m_H_can.2.1 38 = .ok (.iload_n 2, 1) := by decide +kernel
theorem d_H_can_39 : decode m_H_can.2.1 39 = .ok (.invokevirtual 176, 3) := by decide +kernel
theorem d_H_can_42 : decode m_H_can.2.1 42 = .ok (.aload_n 0, 1) := by decide +kernel
theorem d_H_can_43 : decode m_H_can.2.1 43 = .ok (.getfield 51, 3) := by decide +kernel
theorem d_H_can_46 : decode m_H_can.2.1 46 = .ok (.invokevirtual 135, 3) := by decide +kernel
theorem d_H_can_49 : decode m_H_can.2.1 49 = .ok (.aload_n 0, 1) := by decide +kernel
theorem d_H_can_50 : decode m_H_can.2.1 50 = .ok (.getfield 51, 3) := by decide +kernel
theorem d_H_can_53 : decode m_H_can.2.1 53 = .ok (.invokevirtual 138, 3) := by decide +kernel
theorem d_H_can_56 : decode m_H_can.2.1 56 = .ok (.aload_n 0, 1) := by decide +kernel
theorem d_H_can_57 : decode m_H_can.2.1 57 = .ok (.getfield 51, 3) := by decide +kernel
theorem d_H_can_60 : decode m_H_can.2.1 60 = .ok (.aload_n 0, 1) := by decide +kernel
theorem d_H_can_61 : decode m_H_can.2.1 61 = .ok (.getfield 51, 3) := by decide +kernel
theorem d_H_can_64 : decode m_H_can.2.1 64 = .ok (.getfield 141, 3) := by decide +kernel
theorem d_H_can_67 : decode m_H_can.2.1 67 = .ok (.getfield 144, 3) := by decide +kernel
theorem d_H_can_70 : decode m_H_can.2.1 70 = .ok (.ifCond .ne 23, 3) := by decide +kernel
theorem d_H_can_73 : decode m_H_can.2.1 73 = .ok (.aload_n 0, 1) := by decide +kernel
theorem d_H_can_74 : decode m_H_can.2.1 74 = .ok (.getfield 51, 3) := by decide +kernel
theorem d_H_can_77 : decode m_H_can.2.1 77 = .ok (.getfield 141, 3) := by decide +kernel
theorem d_H_can_80 : decode m_H_can.2.1 80 = .ok (.getfield 173, 3) := by decide +kernel
theorem d_H_can_83 : decode m_H_can.2.1 83 = .ok (.iload_n 1, 1) := by decide +kernel
theorem d_H_can_84 : decode m_H_can.2.1 84 = .ok (.iaload, 1) := by decide +kernel
theorem d_H_can_85 : decode m_H_can.2.1 85 = .ok (.iload_n 2, 1) := by decide +kernel
theorem d_H_can_86 : decode m_H_can.2.1 86 = .ok (.if_icmp .ne 7, 3) := by decide +kernel
theorem d_H_can_89 : decode m_H_can.2.1 89 = .ok (.iconst 1, 1) := by decide +kernel
theorem d_H_can_90 : decode m_H_can.2.1 90 = .ok (.goto 4, 3) := by decide +kernel
theorem d_H_can_93 : decode m_H_can.2.1 93 = .ok (.iconst 0, 1) := by decide +kernel
theorem d_H_can_94 : decode m_H_can.2.1 94 = .ok (.invokevirtual 147, 3) := by decide +kernel
theorem d_H_can_97 : decode m_H_can.2.1 97 = .ok (.ireturn, 1) := by decide +kernel
theorem d_H_ends_4 : decode m_H_ends.2.1 4 = .ok (.aload_n 0, 1) := by decide +kernel
theorem d_H_ends_5 : decode m_H_ends.2.1 5 = .ok (.getfield 51, 3) := by decide +kernel
theorem d_H_ends_8 : decode m_H_ends.2.1 8 = .ok (.invokevirtual 180, 3) := by decide +kernel
theorem d_H_ends_11 : decode m_H_ends.2.1 11 = .ok (.ireturn, 1) := by decide +kernel
theorem d_H_witness_4 : decode m_H_witness.2.1 4 = .ok (.aload_n 0, 1) := by decide +kernel
theorem d_H_witness_5 : decode m_H_witness.2.1 5 = .ok (.getfield 51, 3) := by decide +kernel
theorem d_H_witness_8 : decode m_H_witness.2.1 8 = .ok (.getfield 184, 3) := by decide +kernel
theorem d_H_witness_11 : decode m_H_witness.2.1 11 = .ok (.ifCond .eq 18, 3) := by decide +kernel
theorem d_H_witness_14 : decode m_H_witness.2.1 14 = .ok (.iload_n 1, 1) := by decide +kernel
theorem d_H_witness_15 : decode m_H_witness.2.1 15 = .ok (.ifCond .lt 14, 3) := by decide +kernel
theorem d_H_witness_18 : decode m_H_witness.2.1 18 = .ok (.iload_n 1, 1) := by decide +kernel
theorem d_H_witness_19 : decode m_H_witness.2.1 19 = .ok (.aload_n 0, 1) := by decide +kernel
theorem d_H_witness_20 : decode m_H_witness.2.1 20 = .ok (.getfield 26, 3) := by decide +kernel
theorem d_H_witness_23 : decode m_H_witness.2.1 23 = .ok (.getfield 187, 3) := by decide +kernel
theorem d_H_witness_26 : decode m_H_witness.2.1 26 = .ok (.if_icmp .lt 11, 3) := by decide +kernel
theorem d_H_witness_29 : decode m_H_witness.2.1 29 = .ok (.new 151, 3) := by decide +kernel
theorem d_H_witness_32 : decode m_H_witness.2.1 32 = .ok (.dup, 1) := by decide +kernel
theorem d_H_witness_33 : decode m_H_witness.2.1 33 = .ok (.invokespecial 153, 3) := by decide +kernel
theorem d_H_witness_36 : decode m_H_witness.2.1 36 = .ok (.athrow, 1) := by decide +kernel
theorem d_H_witness_37 : decode m_H_witness.2.1 37 = .ok (.aload_n 0, 1) := by decide +kernel
theorem d_H_witness_38 : decode m_H_witness.2.1 38 = .ok (.getfield 51, 3) := by decide +kernel
theorem d_H_witness_41 : decode m_H_witness.2.1 41 = .ok (.getfield 189, 3) := by decide +kernel
theorem d_H_witness_44 : decode m_H_witness.2.1 44 = .ok (.iload_n 1, 1) := by decide +kernel
theorem d_H_witness_45 : decode m_H_witness.2.1 45 = .ok (.iaload, 1) := by decide +kernel
theorem d_H_witness_46 : decode m_H_witness.2.1 46 = .ok (.ireturn, 1) := by decide +kernel
theorem d_H_set_4 : decode m_H_set.2.1 4 = .ok (.iload_n 1, 1) := by decide +kernel
theorem d_H_set_5 : decode m_H_set.2.1 5 = .ok (.ifCond .lt 14, 3) := by decide +kernel
theorem d_H_set_8 : decode m_H_set.2.1 8 = .ok (.iload_n 1, 1) := by decide +kernel
theorem d_H_set_9 : decode m_H_set.2.1 9 = .ok (.aload_n 0, 1) := by decide +kernel
theorem d_H_set_10 : decode m_H_set.2.1 10 = .ok (.getfield 26, 3) := by decide +kernel
theorem d_H_set_13 : decode m_H_set.2.1 13 = .ok (.getfield 187, 3) := by decide +kernel
theorem d_H_set_16 : decode m_H_set.2.1 16 = .ok (.if_icmp .lt 11, 3) := by decide +kernel
theorem d_H_set_19 : decode m_H_set.2.1 19 = .ok (.new 151, 3) := by decide +kernel
theorem d_H_set_22 : decode m_H_set.2.1 22 = .ok (.dup, 1) := by decide +kernel
theorem d_H_set_23 : decode m_H_set.2.1 23 = .ok (.invokespecial 153, 3) := by decide +kernel
theorem d_H_set_26 : decode m_H_set.2.1 26 = .ok (.athrow, 1) := by decide +kernel
theorem d_H_set_27 : decode m_H_set.2.1 27 = .ok (.aload_n 0, 1) := by decide +kernel
theorem d_H_set_28 : decode m_H_set.2.1 28 = .ok (.getfield 37, 3) := by decide +kernel
theorem d_H_set_31 : decode m_H_set.2.1 31 = .ok (.iload_n 1, 1) := by decide +kernel
theorem d_H_set_32 : decode m_H_set.2.1 32 = .ok (.iload_n 2, 1) := by decide +kernel
theorem d_H_set_33 : decode m_H_set.2.1 33 = .ok (.aload_n 0, 1) := by decide +kernel
theorem d_H_set_34 : decode m_H_set.2.1 34 = .ok (.getfield 26, 3) := by decide +kernel
theorem d_H_set_37 : decode m_H_set.2.1 37 = .ok (.getfield 192, 3) := by decide +kernel
theorem d_H_set_40 : decode m_H_set.2.1 40 = .ok (.iload_n 1, 1) := by decide +kernel
theorem d_H_set_41 : decode m_H_set.2.1 41 = .ok (.iaload, 1) := by decide +kernel
theorem d_H_set_42 : decode m_H_set.2.1 42 = .ok (.invokestatic 195, 3) := by decide +kernel
theorem d_H_set_45 : decode m_H_set.2.1 45 = .ok (.iand, 1) := by decide +kernel
theorem d_H_set_46 : decode m_H_set.2.1 46 = .ok (.iastore, 1) := by decide +kernel
theorem d_H_set_47 : decode m_H_set.2.1 47 = .ok (.return_, 1) := by decide +kernel
theorem d_H_take_4 : decode m_H_take.2.1 4 = .ok (.aload_n 0, 1) := by decide +kernel
theorem d_H_take_5 : decode m_H_take.2.1 5 = .ok (.getfield 51, 3) := by decide +kernel
theorem d_H_take_8 : decode m_H_take.2.1 8 = .ok (.getfield 184, 3) := by decide +kernel
theorem d_H_take_11 : decode m_H_take.2.1 11 = .ok (.ifCond .ne 11, 3) := by decide +kernel
theorem d_H_take_14 : decode m_H_take.2.1 14 = .ok (.new 151, 3) := by decide +kernel
theorem d_H_take_17 : decode m_H_take.2.1 17 = .ok (.dup, 1) := by decide +kernel
theorem d_H_take_18 : decode m_H_take.2.1 18 = .ok (.invokespecial 153, 3) := by decide +kernel
theorem d_H_take_21 : decode m_H_take.2.1 21 = .ok (.athrow, 1) := by decide +kernel
theorem d_H_take_22 : decode m_H_take.2.1 22 = .ok (.aload_n 0, 1) := by decide +kernel
theorem d_H_take_23 : decode m_H_take.2.1 23 = .ok (.getfield 51, 3) := by decide +kernel
theorem d_H_take_26 : decode m_H_take.2.1 26 = .ok (.getfield 189, 3) := by decide +kernel
theorem d_H_take_29 : decode m_H_take.2.1 29 = .ok (.iconst 0, 1) := by decide +kernel
theorem d_H_take_30 : decode m_H_take.2.1 30 = .ok (.aload_n 0, 1) := by decide +kernel
theorem d_H_take_31 : decode m_H_take.2.1 31 = .ok (.getfield 37, 3) := by decide +kernel
theorem d_H_take_34 : decode m_H_take.2.1 34 = .ok (.iconst 0, 1) := by decide +kernel
theorem d_H_take_35 : decode m_H_take.2.1 35 = .ok (.aload_n 0, 1) := by decide +kernel
theorem d_H_take_36 : decode m_H_take.2.1 36 = .ok (.getfield 26, 3) := by decide +kernel
theorem d_H_take_39 : decode m_H_take.2.1 39 = .ok (.getfield 187, 3) := by decide +kernel
theorem d_H_take_42 : decode m_H_take.2.1 42 = .ok (.invokestatic 199, 3) := by decide +kernel
theorem d_H_take_45 : decode m_H_take.2.1 45 = .ok (.return_, 1) := by decide +kernel
theorem d_H_run_4 : decode m_H_run.2.1 4 = .ok (.aload_n 0, 1) := by decide +kernel
theorem d_H_run_5 : decode m_H_run.2.1 5 = .ok (.getfield 44, 3) := by decide +kernel
theorem d_H_run_8 : decode m_H_run.2.1 8 = .ok (.aload_n 0, 1) := by decide +kernel
theorem d_H_run_9 : decode m_H_run.2.1 9 = .ok (.getfield 26, 3) := by decide +kernel
theorem d_H_run_12 : decode m_H_run.2.1 12 = .ok (.aload_n 0, 1) := by decide +kernel
theorem d_H_run_13 : decode m_H_run.2.1 13 = .ok (.getfield 37, 3) := by decide +kernel
theorem d_H_run_16 : decode m_H_run.2.1 16 = .ok (.invokevirtual 205, 3) := by decide +kernel
theorem d_H_run_19 : decode m_H_run.2.1 19 = .ok (.aload_n 0, 1) := by decide +kernel
theorem d_H_run_20 : decode m_H_run.2.1 20 = .ok (.getfield 44, 3) := by decide +kernel
theorem d_H_run_23 : decode m_H_run.2.1 23 = .ok (.getfield 144, 3) := by decide +kernel
theorem d_H_run_26 : decode m_H_run.2.1 26 = .ok (.ireturn, 1) := by decide +kernel
theorem d_H_value_4 : decode m_H_value.2.1 4 = .ok (.aload_n 0, 1) := by decide +kernel
theorem d_H_value_5 : decode m_H_value.2.1 5 = .ok (.iload_n 1, 1) := by decide +kernel
theorem d_H_value_6 : decode m_H_value.2.1 6 = .ok (.invokevirtual 160, 3) := by decide +kernel
theorem d_H_value_9 : decode m_H_value.2.1 9 = .ok (.aload_n 0, 1) := by decide +kernel
theorem d_H_value_10 : decode m_H_value.2.1 10 = .ok (.getfield 44, 3) := by decide +kernel
theorem d_H_value_13 : decode m_H_value.2.1 13 = .ok (.getfield 173, 3) := by decide +kernel
theorem d_H_value_16 : decode m_H_value.2.1 16 = .ok (.iload_n 1, 1) := by decide +kernel
theorem d_H_value_17 : decode m_H_value.2.1 17 = .ok (.iaload, 1) := by decide +kernel
theorem d_H_value_18 : decode m_H_value.2.1 18 = .ok (.ireturn, 1) := by decide +kernel
theorem g_H_89 (nm : String) : q_G "ProofHall" 89 0 5 "I" nm := ⟨_, _, _, rfl, by decide, rfl, List.mem_of_getElem? (i := 624) (by decide +kernel), Or.inl rfl⟩
theorem f_H_90 : q_F "ProofHall" 90 2 10 "I" := ⟨_, _, _, rfl, by decide, rfl, Or.inl (List.mem_of_getElem? (i := 228) (by decide +kernel))⟩
theorem g_H_33 (nm : String) : q_G "ProofHall" 33 0 6 "I" nm := ⟨_, _, _, rfl, by decide, rfl, List.mem_of_getElem? (i := 625) (by decide +kernel), Or.inl rfl⟩
theorem cV_H_126 : q_CV "ProofHall" 126 8 m_In_open 0 := ⟨⟨cd_In_open, by decide, by decide, by decide, by decide +kernel⟩, Or.inl (List.mem_of_getElem? (i := 1175) (by decide +kernel)), List.mem_of_getElem? (i := 1176) (by decide +kernel), _, _, _, rfl, List.mem_append_right _ (List.mem_of_getElem? (i := 1177) (by decide +kernel))⟩
theorem f_H_129 : q_F "ProofHall" 129 7 6 "I" := ⟨_, _, _, rfl, by decide, rfl, Or.inl (List.mem_of_getElem? (i := 426) (by decide +kernel))⟩
theorem cV_H_132 : q_CV "ProofHall" 132 8 m_In_demand 1 := ⟨⟨cd_In_demand, by decide, by decide, by decide, by decide +kernel⟩, Or.inl (List.mem_of_getElem? (i := 1187) (by decide +kernel)), List.mem_of_getElem? (i := 1188) (by decide +kernel), _, _, _, rfl, List.mem_append_right _ (List.mem_of_getElem? (i := 1189) (by decide +kernel))⟩
theorem cV_H_135 : q_CV "ProofHall" 135 8 m_In_pose 0 := ⟨⟨cd_In_pose, by decide, by decide, by decide, by decide +kernel⟩, Or.inl (List.mem_of_getElem? (i := 1195) (by decide +kernel)), List.mem_of_getElem? (i := 1196) (by decide +kernel), _, _, _, rfl, List.mem_append_right _ (List.mem_of_getElem? (i := 1197) (by decide +kernel))⟩
theorem cV_H_138 : q_CV "ProofHall" 138 8 m_In_look 0 := ⟨⟨cd_In_look, by decide, by decide, by decide, by decide +kernel⟩, Or.inl (List.mem_of_getElem? (i := 1260) (by decide +kernel)), List.mem_of_getElem? (i := 1261) (by decide +kernel), _, _, _, rfl, List.mem_append_right _ (List.mem_of_getElem? (i := 1262) (by decide +kernel))⟩
theorem f_H_141 : q_FR "ProofHall" 141 8 3 := ⟨"LProofHall$Machine;", by decide, ⟨_, _, _, rfl, by decide, rfl, Or.inl (List.mem_of_getElem? (i := 586) (by decide +kernel))⟩⟩
theorem f_H_144 : q_F "ProofHall" 144 4 0 "I" := ⟨_, _, _, rfl, by decide, rfl, Or.inl (List.mem_of_getElem? (i := 313) (by decide +kernel))⟩
theorem cV_H_147 : q_CV "ProofHall" 147 8 m_In_verdict 1 := ⟨⟨cd_In_verdict, by decide, by decide, by decide, by decide +kernel⟩, Or.inl (List.mem_of_getElem? (i := 1375) (by decide +kernel)), List.mem_of_getElem? (i := 1376) (by decide +kernel), _, _, _, rfl, List.mem_append_right _ (List.mem_of_getElem? (i := 1377) (by decide +kernel))⟩
theorem x_H_153 : q_X "ProofHall" 153 "java/util/NoSuchElementException" := ⟨by decide +kernel, by decide +kernel⟩
theorem f_H_154 : q_FR "ProofHall" 154 7 5 := ⟨"[I", by decide, ⟨_, _, _, rfl, by decide, rfl, Or.inl (List.mem_of_getElem? (i := 424) (by decide +kernel))⟩⟩
theorem cd_H_needVariable : q_cd m_H_needVariable := ⟨by decide +kernel, List.mem_of_getElem? (i := 1) (by decide +kernel), Or.inl ⟨rfl, List.mem_of_getElem? (i := 1412) (by decide +kernel)⟩⟩
theorem cV_H_160 : q_CV "ProofHall" 160 0 m_H_needVariable 1 := ⟨⟨cd_H_needVariable, by decide, by decide, by decide, by decide +kernel⟩, Or.inl (List.mem_of_getElem? (i := 1409) (by decide +kernel)), List.mem_of_getElem? (i := 1411) (by decide +kernel), _, _, _, rfl, by decide +kernel⟩
theorem cd_In_extreme : q_cd m_In_extreme := ⟨by decide +kernel, List.mem_of_getElem? (i := 10) (by decide +kernel), Or.inl ⟨rfl, List.mem_of_getElem? (i := 1416) (by decide +kernel)⟩⟩
theorem cV_H_163 : q_CV "ProofHall" 163 8 m_In_extreme 2 := ⟨⟨cd_In_extreme, by decide, by decide, by decide, by decide +kernel⟩, Or.inl (List.mem_of_getElem? (i := 1413) (by decide +kernel)), List.mem_of_getElem? (i := 1414) (by decide +kernel), _, _, _, rfl, List.mem_append_right _ (List.mem_of_getElem? (i := 1415) (by decide +kernel))⟩
theorem f_H_167 : q_F "ProofHall" 167 7 4 "I" := ⟨_, _, _, rfl, by decide, rfl, Or.inl (List.mem_of_getElem? (i := 421) (by decide +kernel))⟩
theorem cd_En_difference : q_cd m_En_difference := ⟨by decide +kernel, List.mem_of_getElem? (i := 11) (by decide +kernel), Or.inl ⟨rfl, List.mem_of_getElem? (i := 1444) (by decide +kernel)⟩⟩
theorem cV_H_170 : q_CV "ProofHall" 170 7 m_En_difference 2 := ⟨⟨cd_En_difference, by decide, by decide, by decide, by decide +kernel⟩, Or.inl (List.mem_of_getElem? (i := 1441) (by decide +kernel)), List.mem_of_getElem? (i := 1442) (by decide +kernel), _, _, _, rfl, List.mem_append_right _ (List.mem_of_getElem? (i := 1443) (by decide +kernel))⟩
theorem f_H_173 : q_FR "ProofHall" 173 4 2 := ⟨"[I", by decide, ⟨_, _, _, rfl, by decide, rfl, Or.inl (List.mem_of_getElem? (i := 318) (by decide +kernel))⟩⟩
theorem cd_In_demandWorth : q_cd m_In_demandWorth := ⟨by decide +kernel, List.mem_of_getElem? (i := 10) (by decide +kernel), Or.inl ⟨rfl, List.mem_of_getElem? (i := 1456) (by decide +kernel)⟩⟩
theorem cV_H_176 : q_CV "ProofHall" 176 8 m_In_demandWorth 2 := ⟨⟨cd_In_demandWorth, by decide, by decide, by decide, by decide +kernel⟩, Or.inl (List.mem_of_getElem? (i := 1453) (by decide +kernel)), List.mem_of_getElem? (i := 1454) (by decide +kernel), _, _, _, rfl, List.mem_append_right _ (List.mem_of_getElem? (i := 1455) (by decide +kernel))⟩
theorem cd_In_tally : q_cd m_In_tally := ⟨by decide +kernel, List.mem_of_getElem? (i := 10) (by decide +kernel), Or.inl ⟨rfl, List.mem_of_getElem? (i := 1467) (by decide +kernel)⟩⟩
theorem cV_H_180 : q_CV "ProofHall" 180 8 m_In_tally 0 := ⟨⟨cd_In_tally, by decide, by decide, by decide, by decide +kernel⟩, Or.inl (List.mem_of_getElem? (i := 1464) (by decide +kernel)), List.mem_of_getElem? (i := 1465) (by decide +kernel), _, _, _, rfl, List.mem_append_right _ (List.mem_of_getElem? (i := 1466) (by decide +kernel))⟩
theorem f_H_189 : q_FR "ProofHall" 189 8 4 := ⟨"[I", by decide, ⟨_, _, _, rfl, by decide, rfl, Or.inl (List.mem_of_getElem? (i := 588) (by decide +kernel))⟩⟩
theorem f_H_192 : q_FR "ProofHall" 192 2 2 := ⟨"[I", by decide, ⟨_, _, _, rfl, by decide, rfl, Or.inl (List.mem_of_getElem? (i := 203) (by decide +kernel))⟩⟩
theorem cS_H_195 : q_CS "ProofHall" 195 m_H_mask 1 := ⟨⟨cd_H_mask, by decide, by decide, by decide, by decide +kernel⟩, Or.inl (List.mem_of_getElem? (i := 1486) (by decide +kernel)), List.mem_of_getElem? (i := 1359) (by decide +kernel)⟩
theorem cV_H_205 : q_CV "ProofHall" 205 4 m_Ma_execute 2 := ⟨⟨cd_Ma_execute, by decide, by decide, by decide, by decide +kernel⟩, Or.inl (List.mem_of_getElem? (i := 1502) (by decide +kernel)), List.mem_of_getElem? (i := 1339) (by decide +kernel), _, _, _, rfl, List.mem_append_right _ (List.mem_of_getElem? (i := 1340) (by decide +kernel))⟩
set_option maxHeartbeats 2000000 in
theorem b_H_build_0 {ω : q_W} {σ : q_H} {Q : q_R → q_H → Prop} {d mc ms : Nat}  {p : Nat} (hp : p = 16 ∨ p = 29) (r12 : q_r σ 1 2 = p) {q : Nat} (hq : q = 16 ∨ q = 29) (r13 : q_r σ 1 3 = q) (hE : q_E σ) (h : (J ω m_Sc_cut d 0 0 0 0 0 [(0, .ref 2)] [] σ (q_kv (fun τ => J ω m_H_build (d + 1) 1 6 0 0 7 [(0, .ref 1)] [] τ Q)))) : J ω m_H_build (d + 1) 1 6 0 0 0 [(0, .ref 1)] [] σ Q := by
  refine j_aload_n d_H_build_0 0 rfl ?_
  refine j_getR 2 f_H_10 d_H_build_1 (tg_1 hE) (q_okE hE (by decide)) (rf_1_0 hE) (by decide) ?_
  refine j_callV m_Sc_cut [] [] d 0 0 cV_H_68 d_H_build_4 rfl rfl (tg_2 hE) (q_okE hE (by decide)) (Nat.le_of_ble_eq_true rfl) (Nat.le_refl _) (Nat.le_of_ble_eq_true rfl) (Nat.zero_le _) (Nat.zero_le _) h (fun v τ h => ?_) (fun x τ h => ?_)
  · obtain ⟨e1, h⟩ := h; cases e1; exact j_sel [0] rfl h
  · obtain ⟨e1, h⟩ := h; cases e1
set_option maxHeartbeats 2000000 in
theorem b_H_build_7 {ω : q_W} {σ : q_H} {Q : q_R → q_H → Prop} {d mc ms : Nat}  {p : Nat} (hp : p = 16 ∨ p = 29) (r12 : q_r σ 1 2 = p) {q : Nat} (hq : q = 16 ∨ q = 29) (r13 : q_r σ 1 3 = q) (hE : q_E σ) (h : (J ω m_Pa_begin d 0 0 0 0 0 [(0, .ref 8), (1, .ref 2), (2, .ref q)] [] σ (q_kv (fun τ => J ω m_H_build (d + 1) 1 6 0 0 22 [(0, .ref 1)] [] τ Q)))) : J ω m_H_build (d + 1) 1 6 0 0 7 [(0, .ref 1)] [] σ Q := by
  refine j_aload_n d_H_build_7 0 rfl ?_
  refine j_getR 8 f_H_19 d_H_build_8 (tg_1 hE) (q_okE hE (by decide)) (rf_1_1 hE) (by decide) ?_
  refine j_aload_n d_H_build_11 0 rfl ?_
  refine j_getR 2 f_H_10 d_H_build_12 (tg_1 hE) (q_okE hE (by decide)) (rf_1_0 hE) (by decide) ?_
  refine j_aload_n d_H_build_15 0 rfl ?_
  refine j_getR q f_H_30 d_H_build_16 (tg_1 hE) (q_okE hE (by decide)) (r13) (by omega) ?_
  refine j_callV m_Pa_begin [.ref 2, .ref q] [] d 0 0 cV_H_71 d_H_build_19 rfl rfl (tg_8 hE) (q_okE hE (by decide)) (Nat.le_of_ble_eq_true rfl) (Nat.le_refl _) (Nat.le_of_ble_eq_true rfl) (Nat.zero_le _) (Nat.zero_le _) h (fun v τ h => ?_) (fun x τ h => ?_)
  · obtain ⟨e1, h⟩ := h; cases e1; exact j_sel [0] rfl h
  · obtain ⟨e1, h⟩ := h; cases e1
set_option maxHeartbeats 2000000 in
theorem b_H_build_22 {ω : q_W} {σ : q_H} {Q : q_R → q_H → Prop} {d mc ms : Nat}  {p : Nat} (hp : p = 16 ∨ p = 29) (r12 : q_r σ 1 2 = p) {q : Nat} (hq : q = 16 ∨ q = 29) (r13 : q_r σ 1 3 = q) (hE : q_E σ) (h : (J ω m_Pa_declarations d 0 0 0 0 0 [(0, .ref 8)] [] σ (q_ki (fun v τ => J ω m_H_build (d + 1) 1 6 0 0 33 [(0, .ref 1)] [.int (zI v), .ref 8] τ Q)))) : J ω m_H_build (d + 1) 1 6 0 0 22 [(0, .ref 1)] [] σ Q := by
  refine j_aload_n d_H_build_22 0 rfl ?_
  refine j_getR 8 f_H_19 d_H_build_23 (tg_1 hE) (q_okE hE (by decide)) (rf_1_1 hE) (by decide) ?_
  refine j_aload_n d_H_build_26 0 rfl ?_
  refine j_getR 8 f_H_19 d_H_build_27 (tg_1 hE) (q_okE hE (by decide)) (rf_1_1 hE) (by decide) ?_
  refine j_callV m_Pa_declarations [] [.ref 8] d 0 0 cV_H_75 d_H_build_30 rfl rfl (tg_8 hE) (q_okE hE (by decide)) (Nat.le_of_ble_eq_true rfl) (Nat.le_refl _) (Nat.le_of_ble_eq_true rfl) (Nat.zero_le _) (Nat.zero_le _) h (fun v τ h => ?_) (fun x τ h => ?_)
  · obtain ⟨v, hv, e1, h⟩ := h; cases e1; exact j_sel [0] rfl h
  · obtain ⟨v, hv, e1, h⟩ := h; cases e1
set_option maxHeartbeats 2000000 in
theorem b_H_build_33 {ω : q_W} {σ : q_H} {Q : q_R → q_H → Prop} {d mc ms : Nat} {y0 : Int} {p : Nat} (hp : p = 16 ∨ p = 29) (r12 : q_r σ 1 2 = p) {q : Nat} (hq : q = 16 ∨ q = 29) (r13 : q_r σ 1 3 = q) (hE : q_E σ) (h : inR y0 ∧ q_imp (y0 = 0) ((J ω m_H_build (d + 1) 1 6 0 0 51 [(0, .ref 1)] [.int (zI 0), .ref 8] σ Q)) ∧ q_imp (y0 ≠ 0) ((J ω m_Pa_statements d 0 0 0 0 0 [(0, .ref 8)] [] σ (q_ki (fun v τ => J ω m_H_build (d + 1) 1 6 0 0 43 [(0, .ref 1)] [.int (zI v), .ref 8] τ Q))))) : J ω m_H_build (d + 1) 1 6 0 0 33 [(0, .ref 1)] [.int (zI y0), .ref 8] σ Q := by
  obtain ⟨r1, h⟩ := h
  obtain ⟨h1, h2⟩ := h
  refine zj_if_eq 50 d_H_build_33 (by decide) r1 (fun k2 => ?_) (fun k2 => ?_)
  · have h := h1 k2
    refine j_iconst (v := zI 0) d_H_build_50 (by decide) ?_
    exact j_sel [0] rfl h
  · have h := h2 k2
    refine j_aload_n d_H_build_36 0 rfl ?_
    refine j_getR 8 f_H_19 d_H_build_37 (tg_1 hE) (q_okE hE (by decide)) (rf_1_1 hE) (by decide) ?_
    refine j_callV m_Pa_statements [] [.ref 8] d 0 0 cV_H_79 d_H_build_40 rfl rfl (tg_8 hE) (q_okE hE (by decide)) (Nat.le_of_ble_eq_true rfl) (Nat.le_refl _) (Nat.le_of_ble_eq_true rfl) (Nat.zero_le _) (Nat.zero_le _) h (fun v τ h => ?_) (fun x τ h => ?_)
    · obtain ⟨v, hv, e1, h⟩ := h; cases e1; exact j_sel [0] rfl h
    · obtain ⟨v, hv, e1, h⟩ := h; cases e1
set_option maxHeartbeats 2000000 in
theorem b_H_build_51 {ω : q_W} {σ : q_H} {Q : q_R → q_H → Prop} {d mc ms : Nat} {y0 : Int} {p : Nat} (hp : p = 16 ∨ p = 29) (r12 : q_r σ 1 2 = p) {q : Nat} (hq : q = 16 ∨ q = 29) (r13 : q_r σ 1 3 = q) (hE : q_E σ) (h : (J ω m_Pa_conclude d 0 0 0 0 0 [(0, .ref 8), (1, .int (zI y0))] [] σ (q_kv (fun τ => J ω m_H_build (d + 1) 1 6 0 0 54 [(0, .ref 1)] [] τ Q)))) : J ω m_H_build (d + 1) 1 6 0 0 51 [(0, .ref 1)] [.int (zI y0), .ref 8] σ Q := by
  refine j_callV m_Pa_conclude [.int (zI y0)] [] d 0 0 cV_H_82 d_H_build_51 rfl rfl (tg_8 hE) (q_okE hE (by decide)) (Nat.le_of_ble_eq_true rfl) (Nat.le_refl _) (Nat.le_of_ble_eq_true rfl) (Nat.zero_le _) (Nat.zero_le _) h (fun v τ h => ?_) (fun x τ h => ?_)
  · obtain ⟨e1, h⟩ := h; cases e1; exact j_sel [0] rfl h
  · obtain ⟨e1, h⟩ := h; cases e1
set_option maxHeartbeats 2000000 in
theorem b_H_build_43 {ω : q_W} {σ : q_H} {Q : q_R → q_H → Prop} {d mc ms : Nat} {y0 : Int} {p : Nat} (hp : p = 16 ∨ p = 29) (r12 : q_r σ 1 2 = p) {q : Nat} (hq : q = 16 ∨ q = 29) (r13 : q_r σ 1 3 = q) (hE : q_E σ) (h : inR y0 ∧ q_imp (y0 = 0) ((J ω m_H_build (d + 1) 1 6 0 0 51 [(0, .ref 1)] [.int (zI 0), .ref 8] σ Q)) ∧ q_imp (y0 ≠ 0) ((J ω m_H_build (d + 1) 1 6 0 0 51 [(0, .ref 1)] [.int (zI 1), .ref 8] σ Q))) : J ω m_H_build (d + 1) 1 6 0 0 43 [(0, .ref 1)] [.int (zI y0), .ref 8] σ Q := by
  obtain ⟨r3, h⟩ := h
  obtain ⟨h1, h2⟩ := h
  refine zj_if_eq 50 d_H_build_43 (by decide) r3 (fun k4 => ?_) (fun k4 => ?_)
  · have h := h1 k4
    refine j_iconst (v := zI 0) d_H_build_50 (by decide) ?_
    exact j_sel [0] rfl h
  · have h := h2 k4
    refine j_iconst (v := zI 1) d_H_build_46 (by decide) ?_
    refine j_goto 51 d_H_build_47 (by decide) ?_
    exact j_sel [0] rfl h
set_option maxHeartbeats 2000000 in
theorem b_H_build_54 {ω : q_W} {σ : q_H} {Q : q_R → q_H → Prop} {d mc ms : Nat}  {p : Nat} (hp : p = 16 ∨ p = 29) (r12 : q_r σ 1 2 = p) {q : Nat} (hq : q = 16 ∨ q = 29) (r13 : q_r σ 1 3 = q) (hE : q_E σ) (h : q_imp ((z σ q 9) = 0) ((J ω m_Ma_forget d 0 0 0 0 0 [(0, .ref 43)] [] (zfl (zs (zr (zr (zs σ 2 2 0) 1 2 q) 1 3 p) 1 4 1) 42 12 0) (q_kv (fun τ => J ω m_H_build (d + 1) 1 6 0 0 140 [(0, .ref 1)] [] τ Q)))) ∧ q_imp ((z σ q 9) ≠ 0) (q_n σ < 900000 ∧ 6 ≤ d + 1 ∧ (Q (.inr (q_n σ + 1)) (q_add (zs (zs (zs σ 2 2 0) 1 5 (z σ q 9)) 1 6 (z σ q 10)) (5, 2))))) : J ω m_H_build (d + 1) 1 6 0 0 54 [(0, .ref 1)] [] σ Q := by
  refine j_aload_n d_H_build_54 0 rfl ?_
  refine j_getR 2 f_H_10 d_H_build_55 (tg_1 hE) (q_okE hE (by decide)) (rf_1_0 hE) (by decide) ?_
  refine j_iconst (v := zI 0) d_H_build_58 (by decide) ?_
  refine zj_putI (g_H_55 _) d_H_build_59 (tg_2 hE) (q_okE hE (by decide)) ?_
  refine j_aload_n d_H_build_62 0 rfl ?_
  refine j_getR q f_H_30 d_H_build_63 (tg_1 (zs_E hE)) (q_okE (zs_E hE) (by decide)) (Eq.trans (zs_r) (r13)) (by omega) ?_
  refine zj_getI (z σ q 9) f_H_86 d_H_build_66 (tY_q_0 (zs_E hE) hq) (q_okE (zs_E hE) (by omega)) (Eq.trans (qs_o (by omega)) (q_z _ _ _)) ?_
  obtain ⟨h1, h2⟩ := h
  refine zj_if_eq 102 d_H_build_69 (by decide) (z_R _ _ _) (fun k5 => ?_) (fun k5 => ?_)
  · have h := h1 k5
    refine j_aload_n d_H_build_102 0 rfl ?_
    refine j_getR p f_H_26 d_H_build_103 (tg_1 (zs_E hE)) (q_okE (zs_E hE) (by decide)) (Eq.trans (zs_r) (r12)) (by omega) ?_
    refine j_astore_n (L' := [(1, .ref p), (0, .ref 1)]) d_H_build_106 (by decide) rfl ?_
    refine j_aload_n d_H_build_107 1 rfl ?_
    refine j_aload_n d_H_build_108 1 rfl ?_
    refine j_getR q f_H_30 d_H_build_109 (tg_1 (zs_E hE)) (q_okE (zs_E hE) (by decide)) (Eq.trans (zs_r) (r13)) (by omega) ?_
    refine zj_putR (g_H_26 _) d_H_build_112 (tg_1 (zs_E hE)) (q_okE (zs_E hE) (by decide)) (by omega) ?_
    refine j_aload_n d_H_build_115 1 rfl ?_
    refine j_aload_n d_H_build_116 0 rfl ?_
    refine zj_putR (g_H_30 _) d_H_build_117 (tg_1 (zr_E (zs_E hE) (by decide))) (q_okE (zr_E (zs_E hE) (by decide)) (by decide)) (by omega) ?_
    refine j_aload_n d_H_build_120 1 rfl ?_
    refine j_iconst (v := zI 1) d_H_build_121 (by decide) ?_
    refine zj_putZ (g_H_94 _) d_H_build_122 (tg_1 (zr_E (zr_E (zs_E hE) (by decide)) (by decide))) (q_okE (zr_E (zr_E (zs_E hE) (by decide)) (by decide)) (by decide)) (by decide) ?_
    refine j_aload_n d_H_build_125 1 rfl ?_
    refine j_getR 42 f_H_37 d_H_build_126 (tg_1 (zs_E (zr_E (zr_E (zs_E hE) (by decide)) (by decide)))) (q_okE (zs_E (zr_E (zr_E (zs_E hE) (by decide)) (by decide))) (by decide)) (rf_1_7 (zs_E (zr_E (zr_E (zs_E hE) (by decide)) (by decide)))) (by decide) ?_
    refine j_iconst (v := zI 0) d_H_build_129 (by decide) ?_
    refine j_callS m_JA_fill [.ref 42, .int (zI 0)] [] 0 0 0 cS_H_98 d_H_build_130 rfl rfl (Nat.le_of_ble_eq_true rfl) (Nat.succ_le_succ (Nat.zero_le _)) (Nat.le_of_ble_eq_true rfl) (Nat.zero_le _) (Nat.zero_le _) (c_JA_fill (tg_42 (zs_E (zr_E (zr_E (zs_E hE) (by decide)) (by decide)))) (q_okE (zs_E (zr_E (zr_E (zs_E hE) (by decide)) (by decide))) (by decide)) (by decide) (by decide) _) (fun v τ h => ?_) (fun x τ h => absurd h.1 (by simp))
    obtain ⟨e1, e2⟩ := h; cases e1; rw [e2]
    refine j_aload_n d_H_build_133 1 rfl ?_
    refine j_getR 43 f_H_44 d_H_build_134 (tg_1 (zfl_E (zs_E (zr_E (zr_E (zs_E hE) (by decide)) (by decide))))) (q_okE (zfl_E (zs_E (zr_E (zr_E (zs_E hE) (by decide)) (by decide)))) (by decide)) (rf_1_8 (zfl_E (zs_E (zr_E (zr_E (zs_E hE) (by decide)) (by decide))))) (by decide) ?_
    refine j_callV m_Ma_forget [] [] d 0 0 cV_H_104 d_H_build_137 rfl rfl (tg_43 (zfl_E (zs_E (zr_E (zr_E (zs_E hE) (by decide)) (by decide))))) (q_okE (zfl_E (zs_E (zr_E (zr_E (zs_E hE) (by decide)) (by decide)))) (by decide)) (Nat.le_of_ble_eq_true rfl) (Nat.le_refl _) (Nat.le_of_ble_eq_true rfl) (Nat.zero_le _) (Nat.zero_le _) h (fun v τ h => ?_) (fun x τ h => ?_)
    · obtain ⟨e1, h⟩ := h; cases e1; exact j_sel [1] rfl h
    · obtain ⟨e1, h⟩ := h; cases e1
  · have h := h2 k5
    refine j_aload_n d_H_build_72 0 rfl ?_
    refine j_aload_n d_H_build_73 0 rfl ?_
    refine j_getR q f_H_30 d_H_build_74 (tg_1 (zs_E hE)) (q_okE (zs_E hE) (by decide)) (Eq.trans (zs_r) (r13)) (by omega) ?_
    refine zj_getI (z σ q 9) f_H_86 d_H_build_77 (tY_q_0 (zs_E hE) hq) (q_okE (zs_E hE) (by omega)) (Eq.trans (qs_o (by omega)) (q_z _ _ _)) ?_
    refine zj_putI (g_H_89 _) d_H_build_80 (tg_1 (zs_E hE)) (q_okE (zs_E hE) (by decide)) ?_
    refine j_aload_n d_H_build_83 0 rfl ?_
    refine j_aload_n d_H_build_84 0 rfl ?_
    refine j_getR q f_H_30 d_H_build_85 (tg_1 (zs_E (zs_E hE))) (q_okE (zs_E (zs_E hE)) (by decide)) (Eq.trans (zs_r) (Eq.trans (zs_r) (r13))) (by omega) ?_
    refine zj_getI (z σ q 10) f_H_90 d_H_build_88 (tY_q_0 (zs_E (zs_E hE)) hq) (q_okE (zs_E (zs_E hE)) (by omega)) (Eq.trans (qs_o (by omega)) (Eq.trans (qs_o (by omega)) (q_z _ _ _))) ?_
    refine zj_putI (g_H_33 _) d_H_build_91 (tg_1 (zs_E (zs_E hE))) (q_okE (zs_E (zs_E hE)) (by decide)) ?_
    obtain ⟨c6, h⟩ := h
    obtain ⟨c7, h⟩ := h
    refine j_newEx (k := 2) rfl x_H_93 (List.mem_of_getElem? (i := 976) (by decide +kernel)) d_H_build_94 d_H_build_97 d_H_build_98 (by decide) (by decide) (show q_n (zs (zs (zs σ 2 2 0) 1 5 (z σ q 9)) 1 6 (z σ q 10)) + 1 < 1000000 by have : q_n (zs (zs (zs σ 2 2 0) 1 5 (z σ q 9)) 1 6 (z σ q 10)) = q_n σ := rfl; omega) c7 (by decide) ?_
    exact j_athrow d_H_build_101 (jt_out rfl (by decide) (by decide) h)
set_option maxHeartbeats 2000000 in
theorem b_H_build_140 {ω : q_W} {σ : q_H} {Q : q_R → q_H → Prop} {d mc ms : Nat}  {p : Nat} (hp : p = 16 ∨ p = 29) (r12 : q_r σ 1 2 = p) {q : Nat} (hq : q = 16 ∨ q = 29) (r13 : q_r σ 1 3 = q) (hE : q_E σ) (h : (J ω m_In_study d 0 0 0 0 0 [(0, .ref 47), (1, .ref p)] [] σ (q_kv (fun τ => J ω m_H_build (d + 1) 1 6 0 0 151 [(0, .ref 1)] [] τ Q)))) : J ω m_H_build (d + 1) 1 6 0 0 140 [(0, .ref 1)] [] σ Q := by
  refine j_aload_n d_H_build_140 0 rfl ?_
  refine j_getR 47 f_H_51 d_H_build_141 (tg_1 hE) (q_okE hE (by decide)) (rf_1_9 hE) (by decide) ?_
  refine j_aload_n d_H_build_144 0 rfl ?_
  refine j_getR p f_H_26 d_H_build_145 (tg_1 hE) (q_okE hE (by decide)) (r12) (by omega) ?_
  refine j_callV m_In_study [.ref p] [] d 0 0 cV_H_107 d_H_build_148 rfl rfl (tg_47 hE) (q_okE hE (by decide)) (Nat.le_of_ble_eq_true rfl) (Nat.le_refl _) (Nat.le_of_ble_eq_true rfl) (Nat.zero_le _) (Nat.zero_le _) h (fun v τ h => ?_) (fun x τ h => ?_)
  · obtain ⟨e1, h⟩ := h; cases e1; exact j_sel [0] rfl h
  · obtain ⟨e1, h⟩ := h; cases e1
set_option maxHeartbeats 2000000 in
theorem b_H_build_151 {ω : q_W} {σ : q_H} {Q : q_R → q_H → Prop} {d mc ms : Nat}  {p : Nat} (hp : p = 16 ∨ p = 29) (r12 : q_r σ 1 2 = p) {q : Nat} (hq : q = 16 ∨ q = 29) (r13 : q_r σ 1 3 = q) (hE : q_E σ) (h : (J ω m_En_encode d 0 0 0 0 0 [(0, .ref 48), (1, .ref p)] [] σ (q_kv (fun τ => J ω m_H_build (d + 1) 1 6 0 0 165 [(0, .ref 1)] [] τ Q)))) : J ω m_H_build (d + 1) 1 6 0 0 151 [(0, .ref 1)] [] σ Q := by
  refine j_aload_n d_H_build_151 0 rfl ?_
  refine j_getR 47 f_H_51 d_H_build_152 (tg_1 hE) (q_okE hE (by decide)) (rf_1_9 hE) (by decide) ?_
  refine j_getR 48 f_H_111 d_H_build_155 (tg_47 hE) (q_okE hE (by decide)) (rf_47_0 hE) (by decide) ?_
  refine j_aload_n d_H_build_158 0 rfl ?_
  refine j_getR p f_H_26 d_H_build_159 (tg_1 hE) (q_okE hE (by decide)) (r12) (by omega) ?_
  refine j_callV m_En_encode [.ref p] [] d 0 0 cV_H_115 d_H_build_162 rfl rfl (tg_48 hE) (q_okE hE (by decide)) (Nat.le_of_ble_eq_true rfl) (Nat.le_refl _) (Nat.le_of_ble_eq_true rfl) (Nat.zero_le _) (Nat.zero_le _) h (fun v τ h => ?_) (fun x τ h => ?_)
  · obtain ⟨e1, h⟩ := h; cases e1; exact j_sel [0] rfl h
  · obtain ⟨e1, h⟩ := h; cases e1
set_option maxHeartbeats 2000000 in
theorem b_H_build_165 {ω : q_W} {σ : q_H} {Q : q_R → q_H → Prop} {d mc ms : Nat}  {p : Nat} (hp : p = 16 ∨ p = 29) (r12 : q_r σ 1 2 = p) {q : Nat} (hq : q = 16 ∨ q = 29) (r13 : q_r σ 1 3 = q) (hE : q_E σ) (h : (Q (.inl (some (.int (zI (z σ p 7))))) σ)) : J ω m_H_build (d + 1) 1 6 0 0 165 [(0, .ref 1)] [] σ Q := by
  refine j_aload_n d_H_build_165 0 rfl ?_
  refine j_getR p f_H_26 d_H_build_166 (tg_1 hE) (q_okE hE (by decide)) (r12) (by omega) ?_
  refine zj_getI (z σ p 7) f_H_120 d_H_build_169 (tY_p_0 hE hp) (q_okE hE (by omega)) (q_z _ _ _) ?_
  exact zj_iret d_H_build_172 rfl (Nat.zero_le _) (Nat.zero_le _) h
set_option maxHeartbeats 2000000 in
theorem b_H_fails_0 {ω : q_W} {σ : q_H} {Q : q_R → q_H → Prop} {d mc ms : Nat}  {p : Nat} (hp : p = 16 ∨ p = 29) (r12 : q_r σ 1 2 = p) {q : Nat} (hq : q = 16 ∨ q = 29) (r13 : q_r σ 1 3 = q) (hE : q_E σ) (h : (J ω m_H_needProgram d 0 0 0 0 0 [(0, .ref 1)] [] σ (q_ox (q_kv (fun τ => J ω m_H_fails (d + 1) 1 6 0 0 4 [(0, .ref 1)] [] τ Q)) (fun x τ => Q (.inr x) τ)))) : J ω m_H_fails (d + 1) 1 6 0 0 0 [(0, .ref 1)] [] σ Q := by
  refine j_aload_n d_H_fails_0 0 rfl ?_
  refine j_callV m_H_needProgram [] [] d 0 0 cV_H_123 d_H_fails_1 rfl rfl (tg_1 hE) (q_okE hE (by decide)) (Nat.le_of_ble_eq_true rfl) (Nat.le_refl _) (Nat.le_of_ble_eq_true rfl) (Nat.zero_le _) (Nat.zero_le _) h (fun v τ h => ?_) (fun x τ h => ?_)
  · rcases h with h | ⟨x, e1, h⟩
    · obtain ⟨e1, h⟩ := h; cases e1; exact j_sel [0] rfl h
    · cases e1
  · rcases h with h | ⟨y, e1, h⟩
    · obtain ⟨e1, h⟩ := h; cases e1
    · cases e1; exact jt_out rfl (Nat.zero_le _) (Nat.zero_le _) h
set_option maxHeartbeats 2000000 in
theorem b_H_fails_4 {ω : q_W} {σ : q_H} {Q : q_R → q_H → Prop} {d mc ms : Nat}  {p : Nat} (hp : p = 16 ∨ p = 29) (r12 : q_r σ 1 2 = p) {q : Nat} (hq : q = 16 ∨ q = 29) (r13 : q_r σ 1 3 = q) (hE : q_E σ) (h : (J ω m_In_open d 0 0 0 0 0 [(0, .ref 47)] [] σ (q_kv (fun τ => J ω m_H_fails (d + 1) 1 6 0 0 11 [(0, .ref 1)] [] τ Q)))) : J ω m_H_fails (d + 1) 1 6 0 0 4 [(0, .ref 1)] [] σ Q := by
  refine j_aload_n d_H_fails_4 0 rfl ?_
  refine j_getR 47 f_H_51 d_H_fails_5 (tg_1 hE) (q_okE hE (by decide)) (rf_1_9 hE) (by decide) ?_
  refine j_callV m_In_open [] [] d 0 0 cV_H_126 d_H_fails_8 rfl rfl (tg_47 hE) (q_okE hE (by decide)) (Nat.le_of_ble_eq_true rfl) (Nat.le_refl _) (Nat.le_of_ble_eq_true rfl) (Nat.zero_le _) (Nat.zero_le _) h (fun v τ h => ?_) (fun x τ h => ?_)
  · obtain ⟨e1, h⟩ := h; cases e1; exact j_sel [0] rfl h
  · obtain ⟨e1, h⟩ := h; cases e1
set_option maxHeartbeats 2000000 in
theorem b_H_fails_11 {ω : q_W} {σ : q_H} {Q : q_R → q_H → Prop} {d mc ms : Nat}  {p : Nat} (hp : p = 16 ∨ p = 29) (r12 : q_r σ 1 2 = p) {q : Nat} (hq : q = 16 ∨ q = 29) (r13 : q_r σ 1 3 = q) (hE : q_E σ) (h : (J ω m_In_demand d 0 0 0 0 0 [(0, .ref 47), (1, .int (zI (z σ 48 6)))] [] σ (q_kv (fun τ => J ω m_H_fails (d + 1) 1 6 0 0 28 [(0, .ref 1)] [] τ Q)))) : J ω m_H_fails (d + 1) 1 6 0 0 11 [(0, .ref 1)] [] σ Q := by
  refine j_aload_n d_H_fails_11 0 rfl ?_
  refine j_getR 47 f_H_51 d_H_fails_12 (tg_1 hE) (q_okE hE (by decide)) (rf_1_9 hE) (by decide) ?_
  refine j_aload_n d_H_fails_15 0 rfl ?_
  refine j_getR 47 f_H_51 d_H_fails_16 (tg_1 hE) (q_okE hE (by decide)) (rf_1_9 hE) (by decide) ?_
  refine j_getR 48 f_H_111 d_H_fails_19 (tg_47 hE) (q_okE hE (by decide)) (rf_47_0 hE) (by decide) ?_
  refine zj_getI (z σ 48 6) f_H_129 d_H_fails_22 (tg_48 hE) (q_okE hE (by decide)) (q_z _ _ _) ?_
  refine j_callV m_In_demand [.int (zI (z σ 48 6))] [] d 0 0 cV_H_132 d_H_fails_25 rfl rfl (tg_47 hE) (q_okE hE (by decide)) (Nat.le_of_ble_eq_true rfl) (Nat.le_refl _) (Nat.le_of_ble_eq_true rfl) (Nat.zero_le _) (Nat.zero_le _) h (fun v τ h => ?_) (fun x τ h => ?_)
  · obtain ⟨e1, h⟩ := h; cases e1; exact j_sel [0] rfl h
  · obtain ⟨e1, h⟩ := h; cases e1
set_option maxHeartbeats 2000000 in
theorem b_H_fails_28 {ω : q_W} {σ : q_H} {Q : q_R → q_H → Prop} {d mc ms : Nat}  {p : Nat} (hp : p = 16 ∨ p = 29) (r12 : q_r σ 1 2 = p) {q : Nat} (hq : q = 16 ∨ q = 29) (r13 : q_r σ 1 3 = q) (hE : q_E σ) (h : (J ω m_In_pose d 0 0 0 0 0 [(0, .ref 47)] [] σ (q_kv (fun τ => J ω m_H_fails (d + 1) 1 6 0 0 35 [(0, .ref 1)] [] τ Q)))) : J ω m_H_fails (d + 1) 1 6 0 0 28 [(0, .ref 1)] [] σ Q := by
  refine j_aload_n d_H_fails_28 0 rfl ?_
  refine j_getR 47 f_H_51 d_H_fails_29 (tg_1 hE) (q_okE hE (by decide)) (rf_1_9 hE) (by decide) ?_
  refine j_callV m_In_pose [] [] d 0 0 cV_H_135 d_H_fails_32 rfl rfl (tg_47 hE) (q_okE hE (by decide)) (Nat.le_of_ble_eq_true rfl) (Nat.le_refl _) (Nat.le_of_ble_eq_true rfl) (Nat.zero_le _) (Nat.zero_le _) h (fun v τ h => ?_) (fun x τ h => ?_)
  · obtain ⟨e1, h⟩ := h; cases e1; exact j_sel [0] rfl h
  · obtain ⟨e1, h⟩ := h; cases e1
set_option maxHeartbeats 2000000 in
theorem b_H_fails_35 {ω : q_W} {σ : q_H} {Q : q_R → q_H → Prop} {d mc ms : Nat}  {p : Nat} (hp : p = 16 ∨ p = 29) (r12 : q_r σ 1 2 = p) {q : Nat} (hq : q = 16 ∨ q = 29) (r13 : q_r σ 1 3 = q) (hE : q_E σ) (h : (J ω m_In_look d 0 0 0 0 0 [(0, .ref 47)] [] σ (q_kv (fun τ => J ω m_H_fails (d + 1) 1 6 0 0 42 [(0, .ref 1)] [] τ Q)))) : J ω m_H_fails (d + 1) 1 6 0 0 35 [(0, .ref 1)] [] σ Q := by
  refine j_aload_n d_H_fails_35 0 rfl ?_
  refine j_getR 47 f_H_51 d_H_fails_36 (tg_1 hE) (q_okE hE (by decide)) (rf_1_9 hE) (by decide) ?_
  refine j_callV m_In_look [] [] d 0 0 cV_H_138 d_H_fails_39 rfl rfl (tg_47 hE) (q_okE hE (by decide)) (Nat.le_of_ble_eq_true rfl) (Nat.le_refl _) (Nat.le_of_ble_eq_true rfl) (Nat.zero_le _) (Nat.zero_le _) h (fun v τ h => ?_) (fun x τ h => ?_)
  · obtain ⟨e1, h⟩ := h; cases e1; exact j_sel [0] rfl h
  · obtain ⟨e1, h⟩ := h; cases e1
set_option maxHeartbeats 2000000 in
theorem b_H_fails_42 {ω : q_W} {σ : q_H} {Q : q_R → q_H → Prop} {d mc ms : Nat}  {p : Nat} (hp : p = 16 ∨ p = 29) (r12 : q_r σ 1 2 = p) {q : Nat} (hq : q = 16 ∨ q = 29) (r13 : q_r σ 1 3 = q) (hE : q_E σ) (h : q_imp ((z σ 87 0) ≠ 1) ((J ω m_In_verdict d 0 0 0 0 0 [(0, .ref 47), (1, .int (zI 0))] [] σ (q_ki (fun v τ => J ω m_H_fails (d + 1) 1 6 0 0 68 [] [.int (zI v)] τ Q)))) ∧ q_imp ((z σ 87 0) = 1) ((J ω m_In_verdict d 0 0 0 0 0 [(0, .ref 47), (1, .int (zI 1))] [] σ (q_ki (fun v τ => J ω m_H_fails (d + 1) 1 6 0 0 68 [] [.int (zI v)] τ Q))))) : J ω m_H_fails (d + 1) 1 6 0 0 42 [(0, .ref 1)] [] σ Q := by
  refine j_aload_n d_H_fails_42 0 rfl ?_
  refine j_getR 47 f_H_51 d_H_fails_43 (tg_1 hE) (q_okE hE (by decide)) (rf_1_9 hE) (by decide) ?_
  refine j_aload_n d_H_fails_46 0 rfl ?_
  refine j_getR 47 f_H_51 d_H_fails_47 (tg_1 hE) (q_okE hE (by decide)) (rf_1_9 hE) (by decide) ?_
  refine j_getR 87 f_H_141 d_H_fails_50 (tg_47 hE) (q_okE hE (by decide)) (rf_47_3 hE) (by decide) ?_
  refine zj_getI (z σ 87 0) f_H_144 d_H_fails_53 (tg_87 hE) (q_okE hE (by decide)) (q_z _ _ _) ?_
  refine j_iconst (v := zI 1) d_H_fails_56 (by decide) ?_
  obtain ⟨h1, h2⟩ := h
  refine zj_icmp_ne 64 d_H_fails_57 (by decide) (z_R _ _ _) ⟨by decide, by decide⟩ (fun k1 => ?_) (fun k1 => ?_)
  · have h := h1 k1
    refine j_iconst (v := zI 0) d_H_fails_64 (by decide) ?_
    refine j_callV m_In_verdict [.int (zI 0)] [] d 0 0 cV_H_147 d_H_fails_65 rfl rfl (tg_47 hE) (q_okE hE (by decide)) (Nat.le_of_ble_eq_true rfl) (Nat.le_refl _) (Nat.le_of_ble_eq_true rfl) (Nat.zero_le _) (Nat.zero_le _) h (fun v τ h => ?_) (fun x τ h => ?_)
    · obtain ⟨v, hv, e1, h⟩ := h; cases e1; exact j_sel [] rfl h
    · obtain ⟨v, hv, e1, h⟩ := h; cases e1
  · have h := h2 k1
    refine j_iconst (v := zI 1) d_H_fails_60 (by decide) ?_
    refine j_goto 65 d_H_fails_61 (by decide) ?_
    refine j_callV m_In_verdict [.int (zI 1)] [] d 0 0 cV_H_147 d_H_fails_65 rfl rfl (tg_47 hE) (q_okE hE (by decide)) (Nat.le_of_ble_eq_true rfl) (Nat.le_refl _) (Nat.le_of_ble_eq_true rfl) (Nat.zero_le _) (Nat.zero_le _) h (fun v τ h => ?_) (fun x τ h => ?_)
    · obtain ⟨v, hv, e1, h⟩ := h; cases e1; exact j_sel [] rfl h
    · obtain ⟨v, hv, e1, h⟩ := h; cases e1
set_option maxHeartbeats 2000000 in
theorem b_H_fails_68 {ω : q_W} {σ : q_H} {Q : q_R → q_H → Prop} {d mc ms : Nat} {y0 : Int} {p : Nat} (hp : p = 16 ∨ p = 29) (r12 : q_r σ 1 2 = p) {q : Nat} (hq : q = 16 ∨ q = 29) (r13 : q_r σ 1 3 = q) (hE : q_E σ) (h : (Q (.inl (some (.int (zI y0)))) σ)) : J ω m_H_fails (d + 1) 1 6 0 0 68 [] [.int (zI y0)] σ Q := by
  exact zj_iret d_H_fails_68 rfl (Nat.zero_le _) (Nat.zero_le _) h
set_option maxHeartbeats 2000000 in
theorem b_H_needProgram_0 {ω : q_W} {σ : q_H} {Q : q_R → q_H → Prop} {d mc ms : Nat}  {p : Nat} (hp : p = 16 ∨ p = 29) (r12 : q_r σ 1 2 = p) {q : Nat} (hq : q = 16 ∨ q = 29) (r13 : q_r σ 1 3 = q) (hE : q_E σ) (h : q_imp ((z σ 1 4) ≠ 0) ((Q (.inl none) σ)) ∧ q_imp ((z σ 1 4) = 0) (q_n σ < 900000 ∧ 6 ≤ d + 1 ∧ (Q (.inr (q_n σ + 1)) (q_add σ (5, 2))))) : J ω m_H_needProgram (d + 1) 1 6 0 0 0 [(0, .ref 1)] [] σ Q := by
  refine j_aload_n d_H_needProgram_0 0 rfl ?_
  refine zj_getZ (z σ 1 4) f_H_94 d_H_needProgram_1 (tg_1 hE) (q_okE hE (by decide)) (q_z _ _ _) ?_
  obtain ⟨h1, h2⟩ := h
  refine zj_if_ne 15 d_H_needProgram_4 (by decide) (z_R _ _ _) (fun k1 => ?_) (fun k1 => ?_)
  · have h := h1 k1
    exact j_vret d_H_needProgram_15 rfl (Nat.zero_le _) (Nat.zero_le _) h
  · have h := h2 k1
    obtain ⟨c2, h⟩ := h
    obtain ⟨c3, h⟩ := h
    refine j_newEx (k := 2) rfl x_H_93 (List.mem_of_getElem? (i := 976) (by decide +kernel)) d_H_needProgram_7 d_H_needProgram_10 d_H_needProgram_11 (by decide) (by decide) (show q_n σ + 1 < 1000000 by have : q_n σ = q_n σ := rfl; omega) c3 (by decide) ?_
    exact j_athrow d_H_needProgram_14 (jt_out rfl (by decide) (by decide) h)
set_option maxHeartbeats 2000000 in
theorem b_H_wipe_0 {ω : q_W} {σ : q_H} {Q : q_R → q_H → Prop} {d mc ms : Nat} {x1 : Int} {a n : Nat} (ta : q_t σ a = (2, n)) (oa : 0 < a ∧ a ≤ q_n σ) (hn : n < 2147483648) (hE : q_E σ) (h : (J ω m_H_wipe d mc ms 0 0 2 [(0, .ref a), (1, .int (zI x1)), (2, .int (zI 0))] [] σ Q)) : J ω m_H_wipe d mc ms 0 0 0 [(0, .ref a), (1, .int (zI x1))] [] σ Q := by
  refine j_iconst (v := zI 0) d_H_wipe_0 (by decide) ?_
  refine j_istore_n (L' := [(2, .int (zI 0)), (0, .ref a), (1, .int (zI x1))]) d_H_wipe_1 (by decide) rfl ?_
  exact j_sel [1, 2, 0] rfl h
set_option maxHeartbeats 2000000 in
theorem b_H_wipe_2 {ω : q_W} {σ : q_H} {Q : q_R → q_H → Prop} {d mc ms : Nat} {x1 : Int} {x2 : Int} {a n : Nat} (ta : q_t σ a = (2, n)) (oa : 0 < a ∧ a ≤ q_n σ) (hn : n < 2147483648) (hE : q_E σ) (h : inR x2 ∧ inR x1 ∧ q_imp (x2 ≥ x1) ((Q (.inl none) σ)) ∧ q_imp (x2 < x1) (inR (n : Int) ∧ q_imp (x2 ≥ (n : Int)) ((Q (.inl none) σ)) ∧ q_imp (x2 < (n : Int)) ((0 ≤ x2 ∧ x2 < n) ∧ (J ω m_H_wipe d mc ms 0 0 2 [(0, .ref a), (1, .int (zI x1)), (2, .int (zI (x2 + 1)))] [] (zs σ a x2.toNat 0) Q)))) : J ω m_H_wipe d mc ms 0 0 2 [(0, .ref a), (1, .int (zI x1)), (2, .int (zI x2))] [] σ Q := by
  refine j_iload_n d_H_wipe_2 2 rfl ?_
  refine j_iload_n d_H_wipe_3 1 rfl ?_
  obtain ⟨r1, h⟩ := h
  obtain ⟨r2, h⟩ := h
  obtain ⟨h1, h2⟩ := h
  refine zj_icmp_ge 23 d_H_wipe_4 (by decide) r1 r2 (fun k3 => ?_) (fun k3 => ?_)
  · have h := h1 k3
    exact j_vret d_H_wipe_23 rfl (Nat.zero_le _) (Nat.zero_le _) h
  · have h := h2 k3
    refine j_iload_n d_H_wipe_7 2 rfl ?_
    refine j_aload_n d_H_wipe_8 0 rfl ?_
    refine zj_alen d_H_wipe_9 ta (by decide) oa ?_
    obtain ⟨r4, h⟩ := h
    obtain ⟨h1, h2⟩ := h
    refine zj_icmp_ge 23 d_H_wipe_10 (by decide) r1 r4 (fun k5 => ?_) (fun k5 => ?_)
    · have h := h1 k5
      exact j_vret d_H_wipe_23 rfl (Nat.zero_le _) (Nat.zero_le _) h
    · have h := h2 k5
      refine j_aload_n d_H_wipe_13 0 rfl ?_
      refine j_iload_n d_H_wipe_14 2 rfl ?_
      refine j_iconst (v := zI 0) d_H_wipe_15 (by decide) ?_
      obtain ⟨c6, h⟩ := h
      refine zj_iast d_H_wipe_16 ta oa c6 hn ?_
      refine zj_iinc (L' := [(2, .int (zI (x2 + 1))), (0, .ref a), (1, .int (zI x1))]) (x2 + 1) d_H_wipe_17 2 rfl (by omega) (by decide) rfl ?_
      refine j_goto 2 d_H_wipe_20 (by decide) ?_
      exact j_sel [1, 2, 0] rfl h
set_option maxHeartbeats 2000000 in
theorem b_H_failsAt_0 {ω : q_W} {σ : q_H} {Q : q_R → q_H → Prop} {d mc ms : Nat} {x1 : Int} {p : Nat} (hp : p = 16 ∨ p = 29) (r12 : q_r σ 1 2 = p) {q : Nat} (hq : q = 16 ∨ q = 29) (r13 : q_r σ 1 3 = q) (hE : q_E σ) (h : (J ω m_H_needProgram d 0 0 0 0 0 [(0, .ref 1)] [] σ (q_ox (q_kv (fun τ => J ω m_H_failsAt (d + 1) 1 6 0 0 4 [(0, .ref 1), (1, .int (zI x1))] [] τ Q)) (fun x τ => Q (.inr x) τ)))) : J ω m_H_failsAt (d + 1) 1 6 0 0 0 [(0, .ref 1), (1, .int (zI x1))] [] σ Q := by
  refine j_aload_n d_H_failsAt_0 0 rfl ?_
  refine j_callV m_H_needProgram [] [] d 0 0 cV_H_123 d_H_failsAt_1 rfl rfl (tg_1 hE) (q_okE hE (by decide)) (Nat.le_of_ble_eq_true rfl) (Nat.le_refl _) (Nat.le_of_ble_eq_true rfl) (Nat.zero_le _) (Nat.zero_le _) h (fun v τ h => ?_) (fun x τ h => ?_)
  · rcases h with h | ⟨x, e1, h⟩
    · obtain ⟨e1, h⟩ := h; cases e1; exact j_sel [0, 1] rfl h
    · cases e1
  · rcases h with h | ⟨y, e1, h⟩
    · obtain ⟨e1, h⟩ := h; cases e1
    · cases e1; exact jt_out rfl (Nat.zero_le _) (Nat.zero_le _) h
set_option maxHeartbeats 2000000 in
theorem b_H_failsAt_4 {ω : q_W} {σ : q_H} {Q : q_R → q_H → Prop} {d mc ms : Nat} {x1 : Int} {p : Nat} (hp : p = 16 ∨ p = 29) (r12 : q_r σ 1 2 = p) {q : Nat} (hq : q = 16 ∨ q = 29) (r13 : q_r σ 1 3 = q) (hE : q_E σ) (h : inR x1 ∧ q_imp (x1 < 0) (q_n σ < 900000 ∧ 6 ≤ d + 1 ∧ (Q (.inr (q_n σ + 1)) (q_add σ (5, 3)))) ∧ q_imp (0 ≤ x1) (q_imp (x1 < (z σ p 7)) ((J ω m_In_open d 0 0 0 0 0 [(0, .ref 47)] [] σ (q_kv (fun τ => J ω m_H_failsAt (d + 1) 1 6 0 0 34 [(0, .ref 1), (1, .int (zI x1))] [] τ Q)))) ∧ q_imp (x1 ≥ (z σ p 7)) (q_n σ < 900000 ∧ 6 ≤ d + 1 ∧ (Q (.inr (q_n σ + 1)) (q_add σ (5, 3)))))) : J ω m_H_failsAt (d + 1) 1 6 0 0 4 [(0, .ref 1), (1, .int (zI x1))] [] σ Q := by
  refine j_iload_n d_H_failsAt_4 1 rfl ?_
  obtain ⟨r1, h⟩ := h
  obtain ⟨h1, h2⟩ := h
  refine zj_if_lt 19 d_H_failsAt_5 (by decide) r1 (fun k2 => ?_) (fun k2 => ?_)
  · have h := h1 k2
    obtain ⟨c3, h⟩ := h
    obtain ⟨c4, h⟩ := h
    refine j_newEx (k := 3) rfl x_H_153 (List.mem_of_getElem? (i := 1387) (by decide +kernel)) d_H_failsAt_19 d_H_failsAt_22 d_H_failsAt_23 (by decide) (by decide) (show q_n σ + 1 < 1000000 by have : q_n σ = q_n σ := rfl; omega) c4 (by decide) ?_
    exact j_athrow d_H_failsAt_26 (jt_out rfl (by decide) (by decide) h)
  · have h := h2 k2
    refine j_iload_n d_H_failsAt_8 1 rfl ?_
    refine j_aload_n d_H_failsAt_9 0 rfl ?_
    refine j_getR p f_H_26 d_H_failsAt_10 (tg_1 hE) (q_okE hE (by decide)) (r12) (by omega) ?_
    refine zj_getI (z σ p 7) f_H_120 d_H_failsAt_13 (tY_p_0 hE hp) (q_okE hE (by omega)) (q_z _ _ _) ?_
    obtain ⟨h1, h2⟩ := h
    refine zj_icmp_lt 27 d_H_failsAt_16 (by decide) r1 (z_R _ _ _) (fun k5 => ?_) (fun k5 => ?_)
    · have h := h1 k5
      refine j_aload_n d_H_failsAt_27 0 rfl ?_
      refine j_getR 47 f_H_51 d_H_failsAt_28 (tg_1 hE) (q_okE hE (by decide)) (rf_1_9 hE) (by decide) ?_
      refine j_callV m_In_open [] [] d 0 0 cV_H_126 d_H_failsAt_31 rfl rfl (tg_47 hE) (q_okE hE (by decide)) (Nat.le_of_ble_eq_true rfl) (Nat.le_refl _) (Nat.le_of_ble_eq_true rfl) (Nat.zero_le _) (Nat.zero_le _) h (fun v τ h => ?_) (fun x τ h => ?_)
      · obtain ⟨e1, h⟩ := h; cases e1; exact j_sel [0, 1] rfl h
      · obtain ⟨e1, h⟩ := h; cases e1
    · have h := h2 k5
      obtain ⟨c6, h⟩ := h
      obtain ⟨c7, h⟩ := h
      refine j_newEx (k := 3) rfl x_H_153 (List.mem_of_getElem? (i := 1387) (by decide +kernel)) d_H_failsAt_19 d_H_failsAt_22 d_H_failsAt_23 (by decide) (by decide) (show q_n σ + 1 < 1000000 by have : q_n σ = q_n σ := rfl; omega) c7 (by decide) ?_
      exact j_athrow d_H_failsAt_26 (jt_out rfl (by decide) (by decide) h)
set_option maxHeartbeats 2000000 in
theorem b_H_failsAt_34 {ω : q_W} {σ : q_H} {Q : q_R → q_H → Prop} {d mc ms : Nat} {x1 : Int} {p : Nat} (hp : p = 16 ∨ p = 29) (r12 : q_r σ 1 2 = p) {q : Nat} (hq : q = 16 ∨ q = 29) (r13 : q_r σ 1 3 = q) (hE : q_E σ) (h : (0 ≤ x1 ∧ x1 < 512) ∧ (J ω m_In_demand d 0 0 0 0 0 [(0, .ref 47), (1, .int (zI (z σ 63 x1.toNat)))] [] σ (q_kv (fun τ => J ω m_H_failsAt (d + 1) 1 6 0 0 53 [(0, .ref 1), (1, .int (zI x1))] [] τ Q)))) : J ω m_H_failsAt (d + 1) 1 6 0 0 34 [(0, .ref 1), (1, .int (zI x1))] [] σ Q := by
  refine j_aload_n d_H_failsAt_34 0 rfl ?_
  refine j_getR 47 f_H_51 d_H_failsAt_35 (tg_1 hE) (q_okE hE (by decide)) (rf_1_9 hE) (by decide) ?_
  refine j_aload_n d_H_failsAt_38 0 rfl ?_
  refine j_getR 47 f_H_51 d_H_failsAt_39 (tg_1 hE) (q_okE hE (by decide)) (rf_1_9 hE) (by decide) ?_
  refine j_getR 48 f_H_111 d_H_failsAt_42 (tg_47 hE) (q_okE hE (by decide)) (rf_47_0 hE) (by decide) ?_
  refine j_getR 63 f_H_154 d_H_failsAt_45 (tg_48 hE) (q_okE hE (by decide)) (rf_48_5 hE) (by decide) ?_
  refine j_iload_n d_H_failsAt_48 1 rfl ?_
  obtain ⟨c8, h⟩ := h
  refine zj_iald (z σ 63 x1.toNat) d_H_failsAt_49 (tg_63 hE) (q_okE hE (by decide)) c8 (by decide) (q_z _ _ _) ?_
  refine j_callV m_In_demand [.int (zI (z σ 63 x1.toNat))] [] d 0 0 cV_H_132 d_H_failsAt_50 rfl rfl (tg_47 hE) (q_okE hE (by decide)) (Nat.le_of_ble_eq_true rfl) (Nat.le_refl _) (Nat.le_of_ble_eq_true rfl) (Nat.zero_le _) (Nat.zero_le _) h (fun v τ h => ?_) (fun x τ h => ?_)
  · obtain ⟨e1, h⟩ := h; cases e1; exact j_sel [0, 1] rfl h
  · obtain ⟨e1, h⟩ := h; cases e1
set_option maxHeartbeats 2000000 in
theorem b_H_failsAt_53 {ω : q_W} {σ : q_H} {Q : q_R → q_H → Prop} {d mc ms : Nat} {x1 : Int} {p : Nat} (hp : p = 16 ∨ p = 29) (r12 : q_r σ 1 2 = p) {q : Nat} (hq : q = 16 ∨ q = 29) (r13 : q_r σ 1 3 = q) (hE : q_E σ) (h : (J ω m_In_pose d 0 0 0 0 0 [(0, .ref 47)] [] σ (q_kv (fun τ => J ω m_H_failsAt (d + 1) 1 6 0 0 60 [(0, .ref 1), (1, .int (zI x1))] [] τ Q)))) : J ω m_H_failsAt (d + 1) 1 6 0 0 53 [(0, .ref 1), (1, .int (zI x1))] [] σ Q := by
  refine j_aload_n d_H_failsAt_53 0 rfl ?_
  refine j_getR 47 f_H_51 d_H_failsAt_54 (tg_1 hE) (q_okE hE (by decide)) (rf_1_9 hE) (by decide) ?_
  refine j_callV m_In_pose [] [] d 0 0 cV_H_135 d_H_failsAt_57 rfl rfl (tg_47 hE) (q_okE hE (by decide)) (Nat.le_of_ble_eq_true rfl) (Nat.le_refl _) (Nat.le_of_ble_eq_true rfl) (Nat.zero_le _) (Nat.zero_le _) h (fun v τ h => ?_) (fun x τ h => ?_)
  · obtain ⟨e1, h⟩ := h; cases e1; exact j_sel [0, 1] rfl h
  · obtain ⟨e1, h⟩ := h; cases e1
set_option maxHeartbeats 2000000 in
theorem b_H_failsAt_60 {ω : q_W} {σ : q_H} {Q : q_R → q_H → Prop} {d mc ms : Nat} {x1 : Int} {p : Nat} (hp : p = 16 ∨ p = 29) (r12 : q_r σ 1 2 = p) {q : Nat} (hq : q = 16 ∨ q = 29) (r13 : q_r σ 1 3 = q) (hE : q_E σ) (h : (J ω m_In_look d 0 0 0 0 0 [(0, .ref 47)] [] σ (q_kv (fun τ => J ω m_H_failsAt (d + 1) 1 6 0 0 67 [(0, .ref 1), (1, .int (zI x1))] [] τ Q)))) : J ω m_H_failsAt (d + 1) 1 6 0 0 60 [(0, .ref 1), (1, .int (zI x1))] [] σ Q := by
  refine j_aload_n d_H_failsAt_60 0 rfl ?_
  refine j_getR 47 f_H_51 d_H_failsAt_61 (tg_1 hE) (q_okE hE (by decide)) (rf_1_9 hE) (by decide) ?_
  refine j_callV m_In_look [] [] d 0 0 cV_H_138 d_H_failsAt_64 rfl rfl (tg_47 hE) (q_okE hE (by decide)) (Nat.le_of_ble_eq_true rfl) (Nat.le_refl _) (Nat.le_of_ble_eq_true rfl) (Nat.zero_le _) (Nat.zero_le _) h (fun v τ h => ?_) (fun x τ h => ?_)
  · obtain ⟨e1, h⟩ := h; cases e1; exact j_sel [0, 1] rfl h
  · obtain ⟨e1, h⟩ := h; cases e1
set_option maxHeartbeats 2000000 in
theorem b_H_failsAt_67 {ω : q_W} {σ : q_H} {Q : q_R → q_H → Prop} {d mc ms : Nat} {x1 : Int} {p : Nat} (hp : p = 16 ∨ p = 29) (r12 : q_r σ 1 2 = p) {q : Nat} (hq : q = 16 ∨ q = 29) (r13 : q_r σ 1 3 = q) (hE : q_E σ) (h : q_imp ((z σ 87 0) ≠ 1) ((J ω m_In_verdict d 0 0 0 0 0 [(0, .ref 47), (1, .int (zI 0))] [] σ (q_ki (fun v τ => J ω m_H_failsAt (d + 1) 1 6 0 0 107 [] [.int (zI v)] τ Q)))) ∧ q_imp ((z σ 87 0) = 1) (inR x1 ∧ q_imp ((z σ 87 1) ≠ x1) ((J ω m_In_verdict d 0 0 0 0 0 [(0, .ref 47), (1, .int (zI 0))] [] σ (q_ki (fun v τ => J ω m_H_failsAt (d + 1) 1 6 0 0 107 [] [.int (zI v)] τ Q)))) ∧ q_imp ((z σ 87 1) = x1) ((J ω m_In_verdict d 0 0 0 0 0 [(0, .ref 47), (1, .int (zI 1))] [] σ (q_ki (fun v τ => J ω m_H_failsAt (d + 1) 1 6 0 0 107 [] [.int (zI v)] τ Q)))))) : J ω m_H_failsAt (d + 1) 1 6 0 0 67 [(0, .ref 1), (1, .int (zI x1))] [] σ Q := by
  refine j_aload_n d_H_failsAt_67 0 rfl ?_
  refine j_getR 47 f_H_51 d_H_failsAt_68 (tg_1 hE) (q_okE hE (by decide)) (rf_1_9 hE) (by decide) ?_
  refine j_aload_n d_H_failsAt_71 0 rfl ?_
  refine j_getR 47 f_H_51 d_H_failsAt_72 (tg_1 hE) (q_okE hE (by decide)) (rf_1_9 hE) (by decide) ?_
  refine j_getR 87 f_H_141 d_H_failsAt_75 (tg_47 hE) (q_okE hE (by decide)) (rf_47_3 hE) (by decide) ?_
  refine zj_getI (z σ 87 0) f_H_144 d_H_failsAt_78 (tg_87 hE) (q_okE hE (by decide)) (q_z _ _ _) ?_
  refine j_iconst (v := zI 1) d_H_failsAt_81 (by decide) ?_
  obtain ⟨h1, h2⟩ := h
  refine zj_icmp_ne 103 d_H_failsAt_82 (by decide) (z_R _ _ _) ⟨by decide, by decide⟩ (fun k9 => ?_) (fun k9 => ?_)
  · have h := h1 k9
    refine j_iconst (v := zI 0) d_H_failsAt_103 (by decide) ?_
    refine j_callV m_In_verdict [.int (zI 0)] [] d 0 0 cV_H_147 d_H_failsAt_104 rfl rfl (tg_47 hE) (q_okE hE (by decide)) (Nat.le_of_ble_eq_true rfl) (Nat.le_refl _) (Nat.le_of_ble_eq_true rfl) (Nat.zero_le _) (Nat.zero_le _) h (fun v τ h => ?_) (fun x τ h => ?_)
    · obtain ⟨v, hv, e1, h⟩ := h; cases e1; exact j_sel [] rfl h
    · obtain ⟨v, hv, e1, h⟩ := h; cases e1
  · have h := h2 k9
    refine j_aload_n d_H_failsAt_85 0 rfl ?_
    refine j_getR 47 f_H_51 d_H_failsAt_86 (tg_1 hE) (q_okE hE (by decide)) (rf_1_9 hE) (by decide) ?_
    refine j_getR 87 f_H_141 d_H_failsAt_89 (tg_47 hE) (q_okE hE (by decide)) (rf_47_3 hE) (by decide) ?_
    refine zj_getI (z σ 87 1) f_H_157 d_H_failsAt_92 (tg_87 hE) (q_okE hE (by decide)) (q_z _ _ _) ?_
    refine j_iload_n d_H_failsAt_95 1 rfl ?_
    obtain ⟨r10, h⟩ := h
    obtain ⟨h1, h2⟩ := h
    refine zj_icmp_ne 103 d_H_failsAt_96 (by decide) (z_R _ _ _) r10 (fun k11 => ?_) (fun k11 => ?_)
    · have h := h1 k11
      refine j_iconst (v := zI 0) d_H_failsAt_103 (by decide) ?_
      refine j_callV m_In_verdict [.int (zI 0)] [] d 0 0 cV_H_147 d_H_failsAt_104 rfl rfl (tg_47 hE) (q_okE hE (by decide)) (Nat.le_of_ble_eq_true rfl) (Nat.le_refl _) (Nat.le_of_ble_eq_true rfl) (Nat.zero_le _) (Nat.zero_le _) h (fun v τ h => ?_) (fun x τ h => ?_)
      · obtain ⟨v, hv, e1, h⟩ := h; cases e1; exact j_sel [] rfl h
      · obtain ⟨v, hv, e1, h⟩ := h; cases e1
    · have h := h2 k11
      refine j_iconst (v := zI 1) d_H_failsAt_99 (by decide) ?_
      refine j_goto 104 d_H_failsAt_100 (by decide) ?_
      refine j_callV m_In_verdict [.int (zI 1)] [] d 0 0 cV_H_147 d_H_failsAt_104 rfl rfl (tg_47 hE) (q_okE hE (by decide)) (Nat.le_of_ble_eq_true rfl) (Nat.le_refl _) (Nat.le_of_ble_eq_true rfl) (Nat.zero_le _) (Nat.zero_le _) h (fun v τ h => ?_) (fun x τ h => ?_)
      · obtain ⟨v, hv, e1, h⟩ := h; cases e1; exact j_sel [] rfl h
      · obtain ⟨v, hv, e1, h⟩ := h; cases e1
set_option maxHeartbeats 2000000 in
theorem b_H_failsAt_107 {ω : q_W} {σ : q_H} {Q : q_R → q_H → Prop} {d mc ms : Nat} {y0 : Int} {p : Nat} (hp : p = 16 ∨ p = 29) (r12 : q_r σ 1 2 = p) {q : Nat} (hq : q = 16 ∨ q = 29) (r13 : q_r σ 1 3 = q) (hE : q_E σ) (h : (Q (.inl (some (.int (zI y0)))) σ)) : J ω m_H_failsAt (d + 1) 1 6 0 0 107 [] [.int (zI y0)] σ Q := by
  exact zj_iret d_H_failsAt_107 rfl (Nat.zero_le _) (Nat.zero_le _) h
set_option maxHeartbeats 2000000 in
theorem b_H_least_0 {ω : q_W} {σ : q_H} {Q : q_R → q_H → Prop} {d mc ms : Nat} {x1 : Int} {p : Nat} (hp : p = 16 ∨ p = 29) (r12 : q_r σ 1 2 = p) {q : Nat} (hq : q = 16 ∨ q = 29) (r13 : q_r σ 1 3 = q) (hE : q_E σ) (h : (J ω m_H_needProgram d 0 0 0 0 0 [(0, .ref 1)] [] σ (q_ox (q_kv (fun τ => J ω m_H_least (d + 1) 1 6 0 0 4 [(0, .ref 1), (1, .int (zI x1))] [] τ Q)) (fun x τ => Q (.inr x) τ)))) : J ω m_H_least (d + 1) 1 6 0 0 0 [(0, .ref 1), (1, .int (zI x1))] [] σ Q := by
  refine j_aload_n d_H_least_0 0 rfl ?_
  refine j_callV m_H_needProgram [] [] d 0 0 cV_H_123 d_H_least_1 rfl rfl (tg_1 hE) (q_okE hE (by decide)) (Nat.le_of_ble_eq_true rfl) (Nat.le_refl _) (Nat.le_of_ble_eq_true rfl) (Nat.zero_le _) (Nat.zero_le _) h (fun v τ h => ?_) (fun x τ h => ?_)
  · rcases h with h | ⟨x, e1, h⟩
    · obtain ⟨e1, h⟩ := h; cases e1; exact j_sel [0, 1] rfl h
    · cases e1
  · rcases h with h | ⟨y, e1, h⟩
    · obtain ⟨e1, h⟩ := h; cases e1
    · cases e1; exact jt_out rfl (Nat.zero_le _) (Nat.zero_le _) h
set_option maxHeartbeats 2000000 in
theorem b_H_least_4 {ω : q_W} {σ : q_H} {Q : q_R → q_H → Prop} {d mc ms : Nat} {x1 : Int} {p : Nat} (hp : p = 16 ∨ p = 29) (r12 : q_r σ 1 2 = p) {q : Nat} (hq : q = 16 ∨ q = 29) (r13 : q_r σ 1 3 = q) (hE : q_E σ) (h : (J ω m_H_needVariable d 0 0 0 0 0 [(0, .ref 1), (1, .int (zI x1))] [] σ (q_ox (q_kv (fun τ => J ω m_H_least (d + 1) 1 6 0 0 9 [(0, .ref 1), (1, .int (zI x1))] [] τ Q)) (fun x τ => Q (.inr x) τ)))) : J ω m_H_least (d + 1) 1 6 0 0 4 [(0, .ref 1), (1, .int (zI x1))] [] σ Q := by
  refine j_aload_n d_H_least_4 0 rfl ?_
  refine j_iload_n d_H_least_5 1 rfl ?_
  refine j_callV m_H_needVariable [.int (zI x1)] [] d 0 0 cV_H_160 d_H_least_6 rfl rfl (tg_1 hE) (q_okE hE (by decide)) (Nat.le_of_ble_eq_true rfl) (Nat.le_refl _) (Nat.le_of_ble_eq_true rfl) (Nat.zero_le _) (Nat.zero_le _) h (fun v τ h => ?_) (fun x τ h => ?_)
  · rcases h with h | ⟨x, e1, h⟩
    · obtain ⟨e1, h⟩ := h; cases e1; exact j_sel [0, 1] rfl h
    · cases e1
  · rcases h with h | ⟨y, e1, h⟩
    · obtain ⟨e1, h⟩ := h; cases e1
    · cases e1; exact jt_out rfl (Nat.zero_le _) (Nat.zero_le _) h
set_option maxHeartbeats 2000000 in
theorem b_H_least_9 {ω : q_W} {σ : q_H} {Q : q_R → q_H → Prop} {d mc ms : Nat} {x1 : Int} {p : Nat} (hp : p = 16 ∨ p = 29) (r12 : q_r σ 1 2 = p) {q : Nat} (hq : q = 16 ∨ q = 29) (r13 : q_r σ 1 3 = q) (hE : q_E σ) (h : (J ω m_In_extreme d 0 0 0 0 0 [(0, .ref 47), (1, .int (zI x1)), (2, .int (zI 0))] [] σ (q_ki (fun v τ => J ω m_H_least (d + 1) 1 6 0 0 18 [] [.int (zI v)] τ Q)))) : J ω m_H_least (d + 1) 1 6 0 0 9 [(0, .ref 1), (1, .int (zI x1))] [] σ Q := by
  refine j_aload_n d_H_least_9 0 rfl ?_
  refine j_getR 47 f_H_51 d_H_least_10 (tg_1 hE) (q_okE hE (by decide)) (rf_1_9 hE) (by decide) ?_
  refine j_iload_n d_H_least_13 1 rfl ?_
  refine j_iconst (v := zI 0) d_H_least_14 (by decide) ?_
  refine j_callV m_In_extreme [.int (zI x1), .int (zI 0)] [] d 0 0 cV_H_163 d_H_least_15 rfl rfl (tg_47 hE) (q_okE hE (by decide)) (Nat.le_of_ble_eq_true rfl) (Nat.le_refl _) (Nat.le_of_ble_eq_true rfl) (Nat.zero_le _) (Nat.zero_le _) h (fun v τ h => ?_) (fun x τ h => ?_)
  · obtain ⟨v, hv, e1, h⟩ := h; cases e1; exact j_sel [] rfl h
  · obtain ⟨v, hv, e1, h⟩ := h; cases e1
set_option maxHeartbeats 2000000 in
theorem b_H_least_18 {ω : q_W} {σ : q_H} {Q : q_R → q_H → Prop} {d mc ms : Nat} {y0 : Int} {p : Nat} (hp : p = 16 ∨ p = 29) (r12 : q_r σ 1 2 = p) {q : Nat} (hq : q = 16 ∨ q = 29) (r13 : q_r σ 1 3 = q) (hE : q_E σ) (h : (Q (.inl (some (.int (zI y0)))) σ)) : J ω m_H_least (d + 1) 1 6 0 0 18 [] [.int (zI y0)] σ Q := by
  exact zj_iret d_H_least_18 rfl (Nat.zero_le _) (Nat.zero_le _) h
set_option maxHeartbeats 2000000 in
theorem b_H_needVariable_0 {ω : q_W} {σ : q_H} {Q : q_R → q_H → Prop} {d mc ms : Nat} {x1 : Int} {p : Nat} (hp : p = 16 ∨ p = 29) (r12 : q_r σ 1 2 = p) {q : Nat} (hq : q = 16 ∨ q = 29) (r13 : q_r σ 1 3 = q) (hE : q_E σ) (h : inR x1 ∧ q_imp (x1 < 0) (q_n σ < 900000 ∧ 6 ≤ d + 1 ∧ (Q (.inr (q_n σ + 1)) (q_add σ (5, 3)))) ∧ q_imp (0 ≤ x1) (q_imp (x1 < (z σ p 4)) ((Q (.inl none) σ)) ∧ q_imp (x1 ≥ (z σ p 4)) (q_n σ < 900000 ∧ 6 ≤ d + 1 ∧ (Q (.inr (q_n σ + 1)) (q_add σ (5, 3)))))) : J ω m_H_needVariable (d + 1) 1 6 0 0 0 [(0, .ref 1), (1, .int (zI x1))] [] σ Q := by
  refine j_iload_n d_H_needVariable_0 1 rfl ?_
  obtain ⟨r1, h⟩ := h
  obtain ⟨h1, h2⟩ := h
  refine zj_if_lt 15 d_H_needVariable_1 (by decide) r1 (fun k2 => ?_) (fun k2 => ?_)
  · have h := h1 k2
    obtain ⟨c3, h⟩ := h
    obtain ⟨c4, h⟩ := h
    refine j_newEx (k := 3) rfl x_H_153 (List.mem_of_getElem? (i := 1387) (by decide +kernel)) d_H_needVariable_15 d_H_needVariable_18 d_H_needVariable_19 (by decide) (by decide) (show q_n σ + 1 < 1000000 by have : q_n σ = q_n σ := rfl; omega) c4 (by decide) ?_
    exact j_athrow d_H_needVariable_22 (jt_out rfl (by decide) (by decide) h)
  · have h := h2 k2
    refine j_iload_n d_H_needVariable_4 1 rfl ?_
    refine j_aload_n d_H_needVariable_5 0 rfl ?_
    refine j_getR p f_H_26 d_H_needVariable_6 (tg_1 hE) (q_okE hE (by decide)) (r12) (by omega) ?_
    refine zj_getI (z σ p 4) f_H_209 d_H_needVariable_9 (tY_p_0 hE hp) (q_okE hE (by omega)) (q_z _ _ _) ?_
    obtain ⟨h1, h2⟩ := h
    refine zj_icmp_lt 23 d_H_needVariable_12 (by decide) r1 (z_R _ _ _) (fun k5 => ?_) (fun k5 => ?_)
    · have h := h1 k5
      exact j_vret d_H_needVariable_23 rfl (Nat.zero_le _) (Nat.zero_le _) h
    · have h := h2 k5
      obtain ⟨c6, h⟩ := h
      obtain ⟨c7, h⟩ := h
      refine j_newEx (k := 3) rfl x_H_153 (List.mem_of_getElem? (i := 1387) (by decide +kernel)) d_H_needVariable_15 d_H_needVariable_18 d_H_needVariable_19 (by decide) (by decide) (show q_n σ + 1 < 1000000 by have : q_n σ = q_n σ := rfl; omega) c7 (by decide) ?_
      exact j_athrow d_H_needVariable_22 (jt_out rfl (by decide) (by decide) h)
set_option maxHeartbeats 2000000 in
theorem b_H_greatest_0 {ω : q_W} {σ : q_H} {Q : q_R → q_H → Prop} {d mc ms : Nat} {x1 : Int} {p : Nat} (hp : p = 16 ∨ p = 29) (r12 : q_r σ 1 2 = p) {q : Nat} (hq : q = 16 ∨ q = 29) (r13 : q_r σ 1 3 = q) (hE : q_E σ) (h : (J ω m_H_needProgram d 0 0 0 0 0 [(0, .ref 1)] [] σ (q_ox (q_kv (fun τ => J ω m_H_greatest (d + 1) 1 6 0 0 4 [(0, .ref 1), (1, .int (zI x1))] [] τ Q)) (fun x τ => Q (.inr x) τ)))) : J ω m_H_greatest (d + 1) 1 6 0 0 0 [(0, .ref 1), (1, .int (zI x1))] [] σ Q := by
  refine j_aload_n d_H_greatest_0 0 rfl ?_
  refine j_callV m_H_needProgram [] [] d 0 0 cV_H_123 d_H_greatest_1 rfl rfl (tg_1 hE) (q_okE hE (by decide)) (Nat.le_of_ble_eq_true rfl) (Nat.le_refl _) (Nat.le_of_ble_eq_true rfl) (Nat.zero_le _) (Nat.zero_le _) h (fun v τ h => ?_) (fun x τ h => ?_)
  · rcases h with h | ⟨x, e1, h⟩
    · obtain ⟨e1, h⟩ := h; cases e1; exact j_sel [0, 1] rfl h
    · cases e1
  · rcases h with h | ⟨y, e1, h⟩
    · obtain ⟨e1, h⟩ := h; cases e1
    · cases e1; exact jt_out rfl (Nat.zero_le _) (Nat.zero_le _) h
set_option maxHeartbeats 2000000 in
theorem b_H_greatest_4 {ω : q_W} {σ : q_H} {Q : q_R → q_H → Prop} {d mc ms : Nat} {x1 : Int} {p : Nat} (hp : p = 16 ∨ p = 29) (r12 : q_r σ 1 2 = p) {q : Nat} (hq : q = 16 ∨ q = 29) (r13 : q_r σ 1 3 = q) (hE : q_E σ) (h : (J ω m_H_needVariable d 0 0 0 0 0 [(0, .ref 1), (1, .int (zI x1))] [] σ (q_ox (q_kv (fun τ => J ω m_H_greatest (d + 1) 1 6 0 0 9 [(0, .ref 1), (1, .int (zI x1))] [] τ Q)) (fun x τ => Q (.inr x) τ)))) : J ω m_H_greatest (d + 1) 1 6 0 0 4 [(0, .ref 1), (1, .int (zI x1))] [] σ Q := by
  refine j_aload_n d_H_greatest_4 0 rfl ?_
  refine j_iload_n d_H_greatest_5 1 rfl ?_
  refine j_callV m_H_needVariable [.int (zI x1)] [] d 0 0 cV_H_160 d_H_greatest_6 rfl rfl (tg_1 hE) (q_okE hE (by decide)) (Nat.le_of_ble_eq_true rfl) (Nat.le_refl _) (Nat.le_of_ble_eq_true rfl) (Nat.zero_le _) (Nat.zero_le _) h (fun v τ h => ?_) (fun x τ h => ?_)
  · rcases h with h | ⟨x, e1, h⟩
    · obtain ⟨e1, h⟩ := h; cases e1; exact j_sel [0, 1] rfl h
    · cases e1
  · rcases h with h | ⟨y, e1, h⟩
    · obtain ⟨e1, h⟩ := h; cases e1
    · cases e1; exact jt_out rfl (Nat.zero_le _) (Nat.zero_le _) h
set_option maxHeartbeats 2000000 in
theorem b_H_greatest_9 {ω : q_W} {σ : q_H} {Q : q_R → q_H → Prop} {d mc ms : Nat} {x1 : Int} {p : Nat} (hp : p = 16 ∨ p = 29) (r12 : q_r σ 1 2 = p) {q : Nat} (hq : q = 16 ∨ q = 29) (r13 : q_r σ 1 3 = q) (hE : q_E σ) (h : (J ω m_In_extreme d 0 0 0 0 0 [(0, .ref 47), (1, .int (zI x1)), (2, .int (zI 1))] [] σ (q_ki (fun v τ => J ω m_H_greatest (d + 1) 1 6 0 0 18 [] [.int (zI v)] τ Q)))) : J ω m_H_greatest (d + 1) 1 6 0 0 9 [(0, .ref 1), (1, .int (zI x1))] [] σ Q := by
  refine j_aload_n d_H_greatest_9 0 rfl ?_
  refine j_getR 47 f_H_51 d_H_greatest_10 (tg_1 hE) (q_okE hE (by decide)) (rf_1_9 hE) (by decide) ?_
  refine j_iload_n d_H_greatest_13 1 rfl ?_
  refine j_iconst (v := zI 1) d_H_greatest_14 (by decide) ?_
  refine j_callV m_In_extreme [.int (zI x1), .int (zI 1)] [] d 0 0 cV_H_163 d_H_greatest_15 rfl rfl (tg_47 hE) (q_okE hE (by decide)) (Nat.le_of_ble_eq_true rfl) (Nat.le_refl _) (Nat.le_of_ble_eq_true rfl) (Nat.zero_le _) (Nat.zero_le _) h (fun v τ h => ?_) (fun x τ h => ?_)
  · obtain ⟨v, hv, e1, h⟩ := h; cases e1; exact j_sel [] rfl h
  · obtain ⟨v, hv, e1, h⟩ := h; cases e1
set_option maxHeartbeats 2000000 in
theorem b_H_greatest_18 {ω : q_W} {σ : q_H} {Q : q_R → q_H → Prop} {d mc ms : Nat} {y0 : Int} {p : Nat} (hp : p = 16 ∨ p = 29) (r12 : q_r σ 1 2 = p) {q : Nat} (hq : q = 16 ∨ q = 29) (r13 : q_r σ 1 3 = q) (hE : q_E σ) (h : (Q (.inl (some (.int (zI y0)))) σ)) : J ω m_H_greatest (d + 1) 1 6 0 0 18 [] [.int (zI y0)] σ Q := by
  exact zj_iret d_H_greatest_18 rfl (Nat.zero_le _) (Nat.zero_le _) h
set_option maxHeartbeats 2000000 in
theorem b_H_differ_0 {ω : q_W} {σ : q_H} {Q : q_R → q_H → Prop} {d mc ms : Nat} {x1 : Int} {x2 : Int} {p : Nat} (hp : p = 16 ∨ p = 29) (r12 : q_r σ 1 2 = p) {q : Nat} (hq : q = 16 ∨ q = 29) (r13 : q_r σ 1 3 = q) (hE : q_E σ) (h : (J ω m_H_needProgram d 0 0 0 0 0 [(0, .ref 1)] [] σ (q_ox (q_kv (fun τ => J ω m_H_differ (d + 1) 1 6 0 0 4 [(0, .ref 1), (1, .int (zI x1)), (2, .int (zI x2))] [] τ Q)) (fun x τ => Q (.inr x) τ)))) : J ω m_H_differ (d + 1) 1 6 0 0 0 [(0, .ref 1), (1, .int (zI x1)), (2, .int (zI x2))] [] σ Q := by
  refine j_aload_n d_H_differ_0 0 rfl ?_
  refine j_callV m_H_needProgram [] [] d 0 0 cV_H_123 d_H_differ_1 rfl rfl (tg_1 hE) (q_okE hE (by decide)) (Nat.le_of_ble_eq_true rfl) (Nat.le_refl _) (Nat.le_of_ble_eq_true rfl) (Nat.zero_le _) (Nat.zero_le _) h (fun v τ h => ?_) (fun x τ h => ?_)
  · rcases h with h | ⟨x, e1, h⟩
    · obtain ⟨e1, h⟩ := h; cases e1; exact j_sel [0, 1, 2] rfl h
    · cases e1
  · rcases h with h | ⟨y, e1, h⟩
    · obtain ⟨e1, h⟩ := h; cases e1
    · cases e1; exact jt_out rfl (Nat.zero_le _) (Nat.zero_le _) h
set_option maxHeartbeats 2000000 in
theorem b_H_differ_4 {ω : q_W} {σ : q_H} {Q : q_R → q_H → Prop} {d mc ms : Nat} {x1 : Int} {x2 : Int} {p : Nat} (hp : p = 16 ∨ p = 29) (r12 : q_r σ 1 2 = p) {q : Nat} (hq : q = 16 ∨ q = 29) (r13 : q_r σ 1 3 = q) (hE : q_E σ) (h : (J ω m_H_needVariable d 0 0 0 0 0 [(0, .ref 1), (1, .int (zI x1))] [] σ (q_ox (q_kv (fun τ => J ω m_H_differ (d + 1) 1 6 0 0 9 [(0, .ref 1), (1, .int (zI x1)), (2, .int (zI x2))] [] τ Q)) (fun x τ => Q (.inr x) τ)))) : J ω m_H_differ (d + 1) 1 6 0 0 4 [(0, .ref 1), (1, .int (zI x1)), (2, .int (zI x2))] [] σ Q := by
  refine j_aload_n d_H_differ_4 0 rfl ?_
  refine j_iload_n d_H_differ_5 1 rfl ?_
  refine j_callV m_H_needVariable [.int (zI x1)] [] d 0 0 cV_H_160 d_H_differ_6 rfl rfl (tg_1 hE) (q_okE hE (by decide)) (Nat.le_of_ble_eq_true rfl) (Nat.le_refl _) (Nat.le_of_ble_eq_true rfl) (Nat.zero_le _) (Nat.zero_le _) h (fun v τ h => ?_) (fun x τ h => ?_)
  · rcases h with h | ⟨x, e1, h⟩
    · obtain ⟨e1, h⟩ := h; cases e1; exact j_sel [0, 1, 2] rfl h
    · cases e1
  · rcases h with h | ⟨y, e1, h⟩
    · obtain ⟨e1, h⟩ := h; cases e1
    · cases e1; exact jt_out rfl (Nat.zero_le _) (Nat.zero_le _) h
set_option maxHeartbeats 2000000 in
theorem b_H_differ_9 {ω : q_W} {σ : q_H} {Q : q_R → q_H → Prop} {d mc ms : Nat} {x1 : Int} {x2 : Int} {p : Nat} (hp : p = 16 ∨ p = 29) (r12 : q_r σ 1 2 = p) {q : Nat} (hq : q = 16 ∨ q = 29) (r13 : q_r σ 1 3 = q) (hE : q_E σ) (h : (J ω m_H_needVariable d 0 0 0 0 0 [(0, .ref 1), (1, .int (zI x2))] [] σ (q_ox (q_kv (fun τ => J ω m_H_differ (d + 1) 1 6 0 0 14 [(0, .ref 1), (1, .int (zI x1)), (2, .int (zI x2))] [] τ Q)) (fun x τ => Q (.inr x) τ)))) : J ω m_H_differ (d + 1) 1 6 0 0 9 [(0, .ref 1), (1, .int (zI x1)), (2, .int (zI x2))] [] σ Q := by
  refine j_aload_n d_H_differ_9 0 rfl ?_
  refine j_iload_n d_H_differ_10 2 rfl ?_
  refine j_callV m_H_needVariable [.int (zI x2)] [] d 0 0 cV_H_160 d_H_differ_11 rfl rfl (tg_1 hE) (q_okE hE (by decide)) (Nat.le_of_ble_eq_true rfl) (Nat.le_refl _) (Nat.le_of_ble_eq_true rfl) (Nat.zero_le _) (Nat.zero_le _) h (fun v τ h => ?_) (fun x τ h => ?_)
  · rcases h with h | ⟨x, e1, h⟩
    · obtain ⟨e1, h⟩ := h; cases e1; exact j_sel [0, 1, 2] rfl h
    · cases e1
  · rcases h with h | ⟨y, e1, h⟩
    · obtain ⟨e1, h⟩ := h; cases e1
    · cases e1; exact jt_out rfl (Nat.zero_le _) (Nat.zero_le _) h
set_option maxHeartbeats 2000000 in
theorem b_H_differ_14 {ω : q_W} {σ : q_H} {Q : q_R → q_H → Prop} {d mc ms : Nat} {x1 : Int} {x2 : Int} {p : Nat} (hp : p = 16 ∨ p = 29) (r12 : q_r σ 1 2 = p) {q : Nat} (hq : q = 16 ∨ q = 29) (r13 : q_r σ 1 3 = q) (hE : q_E σ) (h : (J ω m_In_open d 0 0 0 0 0 [(0, .ref 47)] [] σ (q_kv (fun τ => J ω m_H_differ (d + 1) 1 6 0 0 21 [(0, .ref 1), (1, .int (zI x1)), (2, .int (zI x2))] [] τ Q)))) : J ω m_H_differ (d + 1) 1 6 0 0 14 [(0, .ref 1), (1, .int (zI x1)), (2, .int (zI x2))] [] σ Q := by
  refine j_aload_n d_H_differ_14 0 rfl ?_
  refine j_getR 47 f_H_51 d_H_differ_15 (tg_1 hE) (q_okE hE (by decide)) (rf_1_9 hE) (by decide) ?_
  refine j_callV m_In_open [] [] d 0 0 cV_H_126 d_H_differ_18 rfl rfl (tg_47 hE) (q_okE hE (by decide)) (Nat.le_of_ble_eq_true rfl) (Nat.le_refl _) (Nat.le_of_ble_eq_true rfl) (Nat.zero_le _) (Nat.zero_le _) h (fun v τ h => ?_) (fun x τ h => ?_)
  · obtain ⟨e1, h⟩ := h; cases e1; exact j_sel [0, 1, 2] rfl h
  · obtain ⟨e1, h⟩ := h; cases e1
set_option maxHeartbeats 2000000 in
theorem b_H_differ_21 {ω : q_W} {σ : q_H} {Q : q_R → q_H → Prop} {d mc ms : Nat} {x1 : Int} {x2 : Int} {p : Nat} (hp : p = 16 ∨ p = 29) (r12 : q_r σ 1 2 = p) {q : Nat} (hq : q = 16 ∨ q = 29) (r13 : q_r σ 1 3 = q) (hE : q_E σ) (h : (J ω m_In_demand d 0 0 0 0 0 [(0, .ref 47), (1, .int (zI (z σ 48 4)))] [] σ (q_kv (fun τ => J ω m_H_differ (d + 1) 1 6 0 0 38 [(0, .ref 1), (1, .int (zI x1)), (2, .int (zI x2))] [] τ Q)))) : J ω m_H_differ (d + 1) 1 6 0 0 21 [(0, .ref 1), (1, .int (zI x1)), (2, .int (zI x2))] [] σ Q := by
  refine j_aload_n d_H_differ_21 0 rfl ?_
  refine j_getR 47 f_H_51 d_H_differ_22 (tg_1 hE) (q_okE hE (by decide)) (rf_1_9 hE) (by decide) ?_
  refine j_aload_n d_H_differ_25 0 rfl ?_
  refine j_getR 47 f_H_51 d_H_differ_26 (tg_1 hE) (q_okE hE (by decide)) (rf_1_9 hE) (by decide) ?_
  refine j_getR 48 f_H_111 d_H_differ_29 (tg_47 hE) (q_okE hE (by decide)) (rf_47_0 hE) (by decide) ?_
  refine zj_getI (z σ 48 4) f_H_167 d_H_differ_32 (tg_48 hE) (q_okE hE (by decide)) (q_z _ _ _) ?_
  refine j_callV m_In_demand [.int (zI (z σ 48 4))] [] d 0 0 cV_H_132 d_H_differ_35 rfl rfl (tg_47 hE) (q_okE hE (by decide)) (Nat.le_of_ble_eq_true rfl) (Nat.le_refl _) (Nat.le_of_ble_eq_true rfl) (Nat.zero_le _) (Nat.zero_le _) h (fun v τ h => ?_) (fun x τ h => ?_)
  · obtain ⟨e1, h⟩ := h; cases e1; exact j_sel [0, 1, 2] rfl h
  · obtain ⟨e1, h⟩ := h; cases e1
set_option maxHeartbeats 2000000 in
theorem b_H_differ_38 {ω : q_W} {σ : q_H} {Q : q_R → q_H → Prop} {d mc ms : Nat} {x1 : Int} {x2 : Int} {p : Nat} (hp : p = 16 ∨ p = 29) (r12 : q_r σ 1 2 = p) {q : Nat} (hq : q = 16 ∨ q = 29) (r13 : q_r σ 1 3 = q) (hE : q_E σ) (h : (J ω m_En_difference d 0 0 0 0 0 [(0, .ref 48), (1, .int (zI x1)), (2, .int (zI x2))] [] σ (q_ki (fun v τ => J ω m_H_differ (d + 1) 1 6 0 0 54 [(0, .ref 1), (1, .int (zI x1)), (2, .int (zI x2))] [.int (zI v), .ref 47] τ Q)))) : J ω m_H_differ (d + 1) 1 6 0 0 38 [(0, .ref 1), (1, .int (zI x1)), (2, .int (zI x2))] [] σ Q := by
  refine j_aload_n d_H_differ_38 0 rfl ?_
  refine j_getR 47 f_H_51 d_H_differ_39 (tg_1 hE) (q_okE hE (by decide)) (rf_1_9 hE) (by decide) ?_
  refine j_aload_n d_H_differ_42 0 rfl ?_
  refine j_getR 47 f_H_51 d_H_differ_43 (tg_1 hE) (q_okE hE (by decide)) (rf_1_9 hE) (by decide) ?_
  refine j_getR 48 f_H_111 d_H_differ_46 (tg_47 hE) (q_okE hE (by decide)) (rf_47_0 hE) (by decide) ?_
  refine j_iload_n d_H_differ_49 1 rfl ?_
  refine j_iload_n d_H_differ_50 2 rfl ?_
  refine j_callV m_En_difference [.int (zI x1), .int (zI x2)] [.ref 47] d 0 0 cV_H_170 d_H_differ_51 rfl rfl (tg_48 hE) (q_okE hE (by decide)) (Nat.le_of_ble_eq_true rfl) (Nat.le_refl _) (Nat.le_of_ble_eq_true rfl) (Nat.zero_le _) (Nat.zero_le _) h (fun v τ h => ?_) (fun x τ h => ?_)
  · obtain ⟨v, hv, e1, h⟩ := h; cases e1; exact j_sel [0, 1, 2] rfl h
  · obtain ⟨v, hv, e1, h⟩ := h; cases e1
set_option maxHeartbeats 2000000 in
theorem b_H_differ_54 {ω : q_W} {σ : q_H} {Q : q_R → q_H → Prop} {d mc ms : Nat} {x1 : Int} {x2 : Int} {y0 : Int} {p : Nat} (hp : p = 16 ∨ p = 29) (r12 : q_r σ 1 2 = p) {q : Nat} (hq : q = 16 ∨ q = 29) (r13 : q_r σ 1 3 = q) (hE : q_E σ) (h : (J ω m_In_demand d 0 0 0 0 0 [(0, .ref 47), (1, .int (zI y0))] [] σ (q_kv (fun τ => J ω m_H_differ (d + 1) 1 6 0 0 57 [(0, .ref 1), (1, .int (zI x1)), (2, .int (zI x2))] [] τ Q)))) : J ω m_H_differ (d + 1) 1 6 0 0 54 [(0, .ref 1), (1, .int (zI x1)), (2, .int (zI x2))] [.int (zI y0), .ref 47] σ Q := by
  refine j_callV m_In_demand [.int (zI y0)] [] d 0 0 cV_H_132 d_H_differ_54 rfl rfl (tg_47 hE) (q_okE hE (by decide)) (Nat.le_of_ble_eq_true rfl) (Nat.le_refl _) (Nat.le_of_ble_eq_true rfl) (Nat.zero_le _) (Nat.zero_le _) h (fun v τ h => ?_) (fun x τ h => ?_)
  · obtain ⟨e1, h⟩ := h; cases e1; exact j_sel [0, 1, 2] rfl h
  · obtain ⟨e1, h⟩ := h; cases e1
set_option maxHeartbeats 2000000 in
theorem b_H_differ_57 {ω : q_W} {σ : q_H} {Q : q_R → q_H → Prop} {d mc ms : Nat} {x1 : Int} {x2 : Int} {p : Nat} (hp : p = 16 ∨ p = 29) (r12 : q_r σ 1 2 = p) {q : Nat} (hq : q = 16 ∨ q = 29) (r13 : q_r σ 1 3 = q) (hE : q_E σ) (h : (J ω m_In_pose d 0 0 0 0 0 [(0, .ref 47)] [] σ (q_kv (fun τ => J ω m_H_differ (d + 1) 1 6 0 0 64 [(0, .ref 1), (1, .int (zI x1)), (2, .int (zI x2))] [] τ Q)))) : J ω m_H_differ (d + 1) 1 6 0 0 57 [(0, .ref 1), (1, .int (zI x1)), (2, .int (zI x2))] [] σ Q := by
  refine j_aload_n d_H_differ_57 0 rfl ?_
  refine j_getR 47 f_H_51 d_H_differ_58 (tg_1 hE) (q_okE hE (by decide)) (rf_1_9 hE) (by decide) ?_
  refine j_callV m_In_pose [] [] d 0 0 cV_H_135 d_H_differ_61 rfl rfl (tg_47 hE) (q_okE hE (by decide)) (Nat.le_of_ble_eq_true rfl) (Nat.le_refl _) (Nat.le_of_ble_eq_true rfl) (Nat.zero_le _) (Nat.zero_le _) h (fun v τ h => ?_) (fun x τ h => ?_)
  · obtain ⟨e1, h⟩ := h; cases e1; exact j_sel [0, 1, 2] rfl h
  · obtain ⟨e1, h⟩ := h; cases e1
set_option maxHeartbeats 2000000 in
theorem b_H_differ_64 {ω : q_W} {σ : q_H} {Q : q_R → q_H → Prop} {d mc ms : Nat} {x1 : Int} {x2 : Int} {p : Nat} (hp : p = 16 ∨ p = 29) (r12 : q_r σ 1 2 = p) {q : Nat} (hq : q = 16 ∨ q = 29) (r13 : q_r σ 1 3 = q) (hE : q_E σ) (h : (J ω m_In_look d 0 0 0 0 0 [(0, .ref 47)] [] σ (q_kv (fun τ => J ω m_H_differ (d + 1) 1 6 0 0 71 [(0, .ref 1), (1, .int (zI x1)), (2, .int (zI x2))] [] τ Q)))) : J ω m_H_differ (d + 1) 1 6 0 0 64 [(0, .ref 1), (1, .int (zI x1)), (2, .int (zI x2))] [] σ Q := by
  refine j_aload_n d_H_differ_64 0 rfl ?_
  refine j_getR 47 f_H_51 d_H_differ_65 (tg_1 hE) (q_okE hE (by decide)) (rf_1_9 hE) (by decide) ?_
  refine j_callV m_In_look [] [] d 0 0 cV_H_138 d_H_differ_68 rfl rfl (tg_47 hE) (q_okE hE (by decide)) (Nat.le_of_ble_eq_true rfl) (Nat.le_refl _) (Nat.le_of_ble_eq_true rfl) (Nat.zero_le _) (Nat.zero_le _) h (fun v τ h => ?_) (fun x τ h => ?_)
  · obtain ⟨e1, h⟩ := h; cases e1; exact j_sel [0, 1, 2] rfl h
  · obtain ⟨e1, h⟩ := h; cases e1
set_option maxHeartbeats 2000000 in
theorem b_H_differ_71 {ω : q_W} {σ : q_H} {Q : q_R → q_H → Prop} {d mc ms : Nat} {x1 : Int} {x2 : Int} {p : Nat} (hp : p = 16 ∨ p = 29) (r12 : q_r σ 1 2 = p) {q : Nat} (hq : q = 16 ∨ q = 29) (r13 : q_r σ 1 3 = q) (hE : q_E σ) (h : q_imp ((z σ 87 0) ≠ 0) ((J ω m_In_verdict d 0 0 0 0 0 [(0, .ref 47), (1, .int (zI 0))] [] σ (q_ki (fun v τ => J ω m_H_differ (d + 1) 1 6 0 0 113 [] [.int (zI v)] τ Q)))) ∧ q_imp ((z σ 87 0) = 0) ((0 ≤ x1 ∧ x1 < 12) ∧ (0 ≤ x2 ∧ x2 < 12) ∧ q_imp ((z σ 88 x1.toNat) = (z σ 88 x2.toNat)) ((J ω m_In_verdict d 0 0 0 0 0 [(0, .ref 47), (1, .int (zI 0))] [] σ (q_ki (fun v τ => J ω m_H_differ (d + 1) 1 6 0 0 113 [] [.int (zI v)] τ Q)))) ∧ q_imp ((z σ 88 x1.toNat) ≠ (z σ 88 x2.toNat)) ((J ω m_In_verdict d 0 0 0 0 0 [(0, .ref 47), (1, .int (zI 1))] [] σ (q_ki (fun v τ => J ω m_H_differ (d + 1) 1 6 0 0 113 [] [.int (zI v)] τ Q)))))) : J ω m_H_differ (d + 1) 1 6 0 0 71 [(0, .ref 1), (1, .int (zI x1)), (2, .int (zI x2))] [] σ Q := by
  refine j_aload_n d_H_differ_71 0 rfl ?_
  refine j_getR 47 f_H_51 d_H_differ_72 (tg_1 hE) (q_okE hE (by decide)) (rf_1_9 hE) (by decide) ?_
  refine j_getR 87 f_H_141 d_H_differ_75 (tg_47 hE) (q_okE hE (by decide)) (rf_47_3 hE) (by decide) ?_
  refine j_astore_n (L' := [(3, .ref 87), (0, .ref 1), (1, .int (zI x1)), (2, .int (zI x2))]) d_H_differ_78 (by decide) rfl ?_
  refine j_aload_n d_H_differ_79 1 rfl ?_
  refine j_getR 47 f_H_51 d_H_differ_80 (tg_1 hE) (q_okE hE (by decide)) (rf_1_9 hE) (by decide) ?_
  refine j_aload_n d_H_differ_83 0 rfl ?_
  refine zj_getI (z σ 87 0) f_H_144 d_H_differ_84 (tg_87 hE) (q_okE hE (by decide)) (q_z _ _ _) ?_
  obtain ⟨h1, h2⟩ := h
  refine zj_if_ne 109 d_H_differ_87 (by decide) (z_R _ _ _) (fun k1 => ?_) (fun k1 => ?_)
  · have h := h1 k1
    refine j_iconst (v := zI 0) d_H_differ_109 (by decide) ?_
    refine j_callV m_In_verdict [.int (zI 0)] [] d 0 0 cV_H_147 d_H_differ_110 rfl rfl (tg_47 hE) (q_okE hE (by decide)) (Nat.le_of_ble_eq_true rfl) (Nat.le_refl _) (Nat.le_of_ble_eq_true rfl) (Nat.zero_le _) (Nat.zero_le _) h (fun v τ h => ?_) (fun x τ h => ?_)
    · obtain ⟨v, hv, e1, h⟩ := h; cases e1; exact j_sel [] rfl h
    · obtain ⟨v, hv, e1, h⟩ := h; cases e1
  · have h := h2 k1
    refine j_aload_n d_H_differ_90 0 rfl ?_
    refine j_getR 88 f_H_173 d_H_differ_91 (tg_87 hE) (q_okE hE (by decide)) (rf_87_2 hE) (by decide) ?_
    refine j_iload_n d_H_differ_94 2 rfl ?_
    obtain ⟨c2, h⟩ := h
    refine zj_iald (z σ 88 x1.toNat) d_H_differ_95 (tg_88 hE) (q_okE hE (by decide)) c2 (by decide) (q_z _ _ _) ?_
    refine j_aload_n d_H_differ_96 0 rfl ?_
    refine j_getR 88 f_H_173 d_H_differ_97 (tg_87 hE) (q_okE hE (by decide)) (rf_87_2 hE) (by decide) ?_
    refine j_iload_n d_H_differ_100 3 rfl ?_
    obtain ⟨c3, h⟩ := h
    refine zj_iald (z σ 88 x2.toNat) d_H_differ_101 (tg_88 hE) (q_okE hE (by decide)) c3 (by decide) (q_z _ _ _) ?_
    obtain ⟨h1, h2⟩ := h
    refine zj_icmp_eq 109 d_H_differ_102 (by decide) (z_R _ _ _) (z_R _ _ _) (fun k4 => ?_) (fun k4 => ?_)
    · have h := h1 k4
      refine j_iconst (v := zI 0) d_H_differ_109 (by decide) ?_
      refine j_callV m_In_verdict [.int (zI 0)] [] d 0 0 cV_H_147 d_H_differ_110 rfl rfl (tg_47 hE) (q_okE hE (by decide)) (Nat.le_of_ble_eq_true rfl) (Nat.le_refl _) (Nat.le_of_ble_eq_true rfl) (Nat.zero_le _) (Nat.zero_le _) h (fun v τ h => ?_) (fun x τ h => ?_)
      · obtain ⟨v, hv, e1, h⟩ := h; cases e1; exact j_sel [] rfl h
      · obtain ⟨v, hv, e1, h⟩ := h; cases e1
    · have h := h2 k4
      refine j_iconst (v := zI 1) d_H_differ_105 (by decide) ?_
      refine j_goto 110 d_H_differ_106 (by decide) ?_
      refine j_callV m_In_verdict [.int (zI 1)] [] d 0 0 cV_H_147 d_H_differ_110 rfl rfl (tg_47 hE) (q_okE hE (by decide)) (Nat.le_of_ble_eq_true rfl) (Nat.le_refl _) (Nat.le_of_ble_eq_true rfl) (Nat.zero_le _) (Nat.zero_le _) h (fun v τ h => ?_) (fun x τ h => ?_)
      · obtain ⟨v, hv, e1, h⟩ := h; cases e1; exact j_sel [] rfl h
      · obtain ⟨v, hv, e1, h⟩ := h; cases e1
set_option maxHeartbeats 2000000 in
theorem b_H_differ_113 {ω : q_W} {σ : q_H} {Q : q_R → q_H → Prop} {d mc ms : Nat} {y0 : Int} {p : Nat} (hp : p = 16 ∨ p = 29) (r12 : q_r σ 1 2 = p) {q : Nat} (hq : q = 16 ∨ q = 29) (r13 : q_r σ 1 3 = q) (hE : q_E σ) (h : (Q (.inl (some (.int (zI y0)))) σ)) : J ω m_H_differ (d + 1) 1 6 0 0 113 [] [.int (zI y0)] σ Q := by
  exact zj_iret d_H_differ_113 rfl (Nat.zero_le _) (Nat.zero_le _) h
set_option maxHeartbeats 2000000 in
theorem b_H_can_0 {ω : q_W} {σ : q_H} {Q : q_R → q_H → Prop} {d mc ms : Nat} {x1 : Int} {x2 : Int} {p : Nat} (hp : p = 16 ∨ p = 29) (r12 : q_r σ 1 2 = p) {q : Nat} (hq : q = 16 ∨ q = 29) (r13 : q_r σ 1 3 = q) (hE : q_E σ) (h : (J ω m_H_needProgram d 0 0 0 0 0 [(0, .ref 1)] [] σ (q_ox (q_kv (fun τ => J ω m_H_can (d + 1) 1 6 0 0 4 [(0, .ref 1), (1, .int (zI x1)), (2, .int (zI x2))] [] τ Q)) (fun x τ => Q (.inr x) τ)))) : J ω m_H_can (d + 1) 1 6 0 0 0 [(0, .ref 1), (1, .int (zI x1)), (2, .int (zI x2))] [] σ Q := by
  refine j_aload_n d_H_can_0 0 rfl ?_
  refine j_callV m_H_needProgram [] [] d 0 0 cV_H_123 d_H_can_1 rfl rfl (tg_1 hE) (q_okE hE (by decide)) (Nat.le_of_ble_eq_true rfl) (Nat.le_refl _) (Nat.le_of_ble_eq_true rfl) (Nat.zero_le _) (Nat.zero_le _) h (fun v τ h => ?_) (fun x τ h => ?_)
  · rcases h with h | ⟨x, e1, h⟩
    · obtain ⟨e1, h⟩ := h; cases e1; exact j_sel [0, 1, 2] rfl h
    · cases e1
  · rcases h with h | ⟨y, e1, h⟩
    · obtain ⟨e1, h⟩ := h; cases e1
    · cases e1; exact jt_out rfl (Nat.zero_le _) (Nat.zero_le _) h
set_option maxHeartbeats 2000000 in
theorem b_H_can_4 {ω : q_W} {σ : q_H} {Q : q_R → q_H → Prop} {d mc ms : Nat} {x1 : Int} {x2 : Int} {p : Nat} (hp : p = 16 ∨ p = 29) (r12 : q_r σ 1 2 = p) {q : Nat} (hq : q = 16 ∨ q = 29) (r13 : q_r σ 1 3 = q) (hE : q_E σ) (h : (J ω m_H_needVariable d 0 0 0 0 0 [(0, .ref 1), (1, .int (zI x1))] [] σ (q_ox (q_kv (fun τ => J ω m_H_can (d + 1) 1 6 0 0 9 [(0, .ref 1), (1, .int (zI x1)), (2, .int (zI x2))] [] τ Q)) (fun x τ => Q (.inr x) τ)))) : J ω m_H_can (d + 1) 1 6 0 0 4 [(0, .ref 1), (1, .int (zI x1)), (2, .int (zI x2))] [] σ Q := by
  refine j_aload_n d_H_can_4 0 rfl ?_
  refine j_iload_n d_H_can_5 1 rfl ?_
  refine j_callV m_H_needVariable [.int (zI x1)] [] d 0 0 cV_H_160 d_H_can_6 rfl rfl (tg_1 hE) (q_okE hE (by decide)) (Nat.le_of_ble_eq_true rfl) (Nat.le_refl _) (Nat.le_of_ble_eq_true rfl) (Nat.zero_le _) (Nat.zero_le _) h (fun v τ h => ?_) (fun x τ h => ?_)
  · rcases h with h | ⟨x, e1, h⟩
    · obtain ⟨e1, h⟩ := h; cases e1; exact j_sel [0, 1, 2] rfl h
    · cases e1
  · rcases h with h | ⟨y, e1, h⟩
    · obtain ⟨e1, h⟩ := h; cases e1
    · cases e1; exact jt_out rfl (Nat.zero_le _) (Nat.zero_le _) h
set_option maxHeartbeats 2000000 in
theorem b_H_can_9 {ω : q_W} {σ : q_H} {Q : q_R → q_H → Prop} {d mc ms : Nat} {x1 : Int} {x2 : Int} {p : Nat} (hp : p = 16 ∨ p = 29) (r12 : q_r σ 1 2 = p) {q : Nat} (hq : q = 16 ∨ q = 29) (r13 : q_r σ 1 3 = q) (hE : q_E σ) (h : (J ω m_In_open d 0 0 0 0 0 [(0, .ref 47)] [] σ (q_kv (fun τ => J ω m_H_can (d + 1) 1 6 0 0 16 [(0, .ref 1), (1, .int (zI x1)), (2, .int (zI x2))] [] τ Q)))) : J ω m_H_can (d + 1) 1 6 0 0 9 [(0, .ref 1), (1, .int (zI x1)), (2, .int (zI x2))] [] σ Q := by
  refine j_aload_n d_H_can_9 0 rfl ?_
  refine j_getR 47 f_H_51 d_H_can_10 (tg_1 hE) (q_okE hE (by decide)) (rf_1_9 hE) (by decide) ?_
  refine j_callV m_In_open [] [] d 0 0 cV_H_126 d_H_can_13 rfl rfl (tg_47 hE) (q_okE hE (by decide)) (Nat.le_of_ble_eq_true rfl) (Nat.le_refl _) (Nat.le_of_ble_eq_true rfl) (Nat.zero_le _) (Nat.zero_le _) h (fun v τ h => ?_) (fun x τ h => ?_)
  · obtain ⟨e1, h⟩ := h; cases e1; exact j_sel [0, 1, 2] rfl h
  · obtain ⟨e1, h⟩ := h; cases e1
set_option maxHeartbeats 2000000 in
theorem b_H_can_16 {ω : q_W} {σ : q_H} {Q : q_R → q_H → Prop} {d mc ms : Nat} {x1 : Int} {x2 : Int} {p : Nat} (hp : p = 16 ∨ p = 29) (r12 : q_r σ 1 2 = p) {q : Nat} (hq : q = 16 ∨ q = 29) (r13 : q_r σ 1 3 = q) (hE : q_E σ) (h : (J ω m_In_demand d 0 0 0 0 0 [(0, .ref 47), (1, .int (zI (z σ 48 4)))] [] σ (q_kv (fun τ => J ω m_H_can (d + 1) 1 6 0 0 33 [(0, .ref 1), (1, .int (zI x1)), (2, .int (zI x2))] [] τ Q)))) : J ω m_H_can (d + 1) 1 6 0 0 16 [(0, .ref 1), (1, .int (zI x1)), (2, .int (zI x2))] [] σ Q := by
  refine j_aload_n d_H_can_16 0 rfl ?_
  refine j_getR 47 f_H_51 d_H_can_17 (tg_1 hE) (q_okE hE (by decide)) (rf_1_9 hE) (by decide) ?_
  refine j_aload_n d_H_can_20 0 rfl ?_
  refine j_getR 47 f_H_51 d_H_can_21 (tg_1 hE) (q_okE hE (by decide)) (rf_1_9 hE) (by decide) ?_
  refine j_getR 48 f_H_111 d_H_can_24 (tg_47 hE) (q_okE hE (by decide)) (rf_47_0 hE) (by decide) ?_
  refine zj_getI (z σ 48 4) f_H_167 d_H_can_27 (tg_48 hE) (q_okE hE (by decide)) (q_z _ _ _) ?_
  refine j_callV m_In_demand [.int (zI (z σ 48 4))] [] d 0 0 cV_H_132 d_H_can_30 rfl rfl (tg_47 hE) (q_okE hE (by decide)) (Nat.le_of_ble_eq_true rfl) (Nat.le_refl _) (Nat.le_of_ble_eq_true rfl) (Nat.zero_le _) (Nat.zero_le _) h (fun v τ h => ?_) (fun x τ h => ?_)
  · obtain ⟨e1, h⟩ := h; cases e1; exact j_sel [0, 1, 2] rfl h
  · obtain ⟨e1, h⟩ := h; cases e1
set_option maxHeartbeats 2000000 in
theorem b_H_can_33 {ω : q_W} {σ : q_H} {Q : q_R → q_H → Prop} {d mc ms : Nat} {x1 : Int} {x2 : Int} {p : Nat} (hp : p = 16 ∨ p = 29) (r12 : q_r σ 1 2 = p) {q : Nat} (hq : q = 16 ∨ q = 29) (r13 : q_r σ 1 3 = q) (hE : q_E σ) (h : (J ω m_In_demandWorth d 0 0 0 0 0 [(0, .ref 47), (1, .int (zI x1)), (2, .int (zI x2))] [] σ (q_kv (fun τ => J ω m_H_can (d + 1) 1 6 0 0 42 [(0, .ref 1), (1, .int (zI x1)), (2, .int (zI x2))] [] τ Q)))) : J ω m_H_can (d + 1) 1 6 0 0 33 [(0, .ref 1), (1, .int (zI x1)), (2, .int (zI x2))] [] σ Q := by
  refine j_aload_n d_H_can_33 0 rfl ?_
  refine j_getR 47 f_H_51 d_H_can_34 (tg_1 hE) (q_okE hE (by decide)) (rf_1_9 hE) (by decide) ?_
  refine j_iload_n d_H_can_37 1 rfl ?_
  refine j_iload_n d_H_can_38 2 rfl ?_
  refine j_callV m_In_demandWorth [.int (zI x1), .int (zI x2)] [] d 0 0 cV_H_176 d_H_can_39 rfl rfl (tg_47 hE) (q_okE hE (by decide)) (Nat.le_of_ble_eq_true rfl) (Nat.le_refl _) (Nat.le_of_ble_eq_true rfl) (Nat.zero_le _) (Nat.zero_le _) h (fun v τ h => ?_) (fun x τ h => ?_)
  · obtain ⟨e1, h⟩ := h; cases e1; exact j_sel [0, 1, 2] rfl h
  · obtain ⟨e1, h⟩ := h; cases e1
set_option maxHeartbeats 2000000 in
theorem b_H_can_42 {ω : q_W} {σ : q_H} {Q : q_R → q_H → Prop} {d mc ms : Nat} {x1 : Int} {x2 : Int} {p : Nat} (hp : p = 16 ∨ p = 29) (r12 : q_r σ 1 2 = p) {q : Nat} (hq : q = 16 ∨ q = 29) (r13 : q_r σ 1 3 = q) (hE : q_E σ) (h : (J ω m_In_pose d 0 0 0 0 0 [(0, .ref 47)] [] σ (q_kv (fun τ => J ω m_H_can (d + 1) 1 6 0 0 49 [(0, .ref 1), (1, .int (zI x1)), (2, .int (zI x2))] [] τ Q)))) : J ω m_H_can (d + 1) 1 6 0 0 42 [(0, .ref 1), (1, .int (zI x1)), (2, .int (zI x2))] [] σ Q := by
  refine j_aload_n d_H_can_42 0 rfl ?_
  refine j_getR 47 f_H_51 d_H_can_43 (tg_1 hE) (q_okE hE (by decide)) (rf_1_9 hE) (by decide) ?_
  refine j_callV m_In_pose [] [] d 0 0 cV_H_135 d_H_can_46 rfl rfl (tg_47 hE) (q_okE hE (by decide)) (Nat.le_of_ble_eq_true rfl) (Nat.le_refl _) (Nat.le_of_ble_eq_true rfl) (Nat.zero_le _) (Nat.zero_le _) h (fun v τ h => ?_) (fun x τ h => ?_)
  · obtain ⟨e1, h⟩ := h; cases e1; exact j_sel [0, 1, 2] rfl h
  · obtain ⟨e1, h⟩ := h; cases e1
set_option maxHeartbeats 2000000 in
theorem b_H_can_49 {ω : q_W} {σ : q_H} {Q : q_R → q_H → Prop} {d mc ms : Nat} {x1 : Int} {x2 : Int} {p : Nat} (hp : p = 16 ∨ p = 29) (r12 : q_r σ 1 2 = p) {q : Nat} (hq : q = 16 ∨ q = 29) (r13 : q_r σ 1 3 = q) (hE : q_E σ) (h : (J ω m_In_look d 0 0 0 0 0 [(0, .ref 47)] [] σ (q_kv (fun τ => J ω m_H_can (d + 1) 1 6 0 0 56 [(0, .ref 1), (1, .int (zI x1)), (2, .int (zI x2))] [] τ Q)))) : J ω m_H_can (d + 1) 1 6 0 0 49 [(0, .ref 1), (1, .int (zI x1)), (2, .int (zI x2))] [] σ Q := by
  refine j_aload_n d_H_can_49 0 rfl ?_
  refine j_getR 47 f_H_51 d_H_can_50 (tg_1 hE) (q_okE hE (by decide)) (rf_1_9 hE) (by decide) ?_
  refine j_callV m_In_look [] [] d 0 0 cV_H_138 d_H_can_53 rfl rfl (tg_47 hE) (q_okE hE (by decide)) (Nat.le_of_ble_eq_true rfl) (Nat.le_refl _) (Nat.le_of_ble_eq_true rfl) (Nat.zero_le _) (Nat.zero_le _) h (fun v τ h => ?_) (fun x τ h => ?_)
  · obtain ⟨e1, h⟩ := h; cases e1; exact j_sel [0, 1, 2] rfl h
  · obtain ⟨e1, h⟩ := h; cases e1
set_option maxHeartbeats 2000000 in
theorem b_H_can_56 {ω : q_W} {σ : q_H} {Q : q_R → q_H → Prop} {d mc ms : Nat} {x1 : Int} {x2 : Int} {p : Nat} (hp : p = 16 ∨ p = 29) (r12 : q_r σ 1 2 = p) {q : Nat} (hq : q = 16 ∨ q = 29) (r13 : q_r σ 1 3 = q) (hE : q_E σ) (h : q_imp ((z σ 87 0) ≠ 0) ((J ω m_In_verdict d 0 0 0 0 0 [(0, .ref 47), (1, .int (zI 0))] [] σ (q_ki (fun v τ => J ω m_H_can (d + 1) 1 6 0 0 97 [] [.int (zI v)] τ Q)))) ∧ q_imp ((z σ 87 0) = 0) ((0 ≤ x1 ∧ x1 < 12) ∧ inR x2 ∧ q_imp ((z σ 88 x1.toNat) ≠ x2) ((J ω m_In_verdict d 0 0 0 0 0 [(0, .ref 47), (1, .int (zI 0))] [] σ (q_ki (fun v τ => J ω m_H_can (d + 1) 1 6 0 0 97 [] [.int (zI v)] τ Q)))) ∧ q_imp ((z σ 88 x1.toNat) = x2) ((J ω m_In_verdict d 0 0 0 0 0 [(0, .ref 47), (1, .int (zI 1))] [] σ (q_ki (fun v τ => J ω m_H_can (d + 1) 1 6 0 0 97 [] [.int (zI v)] τ Q)))))) : J ω m_H_can (d + 1) 1 6 0 0 56 [(0, .ref 1), (1, .int (zI x1)), (2, .int (zI x2))] [] σ Q := by
  refine j_aload_n d_H_can_56 0 rfl ?_
  refine j_getR 47 f_H_51 d_H_can_57 (tg_1 hE) (q_okE hE (by decide)) (rf_1_9 hE) (by decide) ?_
  refine j_aload_n d_H_can_60 0 rfl ?_
  refine j_getR 47 f_H_51 d_H_can_61 (tg_1 hE) (q_okE hE (by decide)) (rf_1_9 hE) (by decide) ?_
  refine j_getR 87 f_H_141 d_H_can_64 (tg_47 hE) (q_okE hE (by decide)) (rf_47_3 hE) (by decide) ?_
  refine zj_getI (z σ 87 0) f_H_144 d_H_can_67 (tg_87 hE) (q_okE hE (by decide)) (q_z _ _ _) ?_
  obtain ⟨h1, h2⟩ := h
  refine zj_if_ne 93 d_H_can_70 (by decide) (z_R _ _ _) (fun k1 => ?_) (fun k1 => ?_)
  · have h := h1 k1
    refine j_iconst (v := zI 0) d_H_can_93 (by decide) ?_
    refine j_callV m_In_verdict [.int (zI 0)] [] d 0 0 cV_H_147 d_H_can_94 rfl rfl (tg_47 hE) (q_okE hE (by decide)) (Nat.le_of_ble_eq_true rfl) (Nat.le_refl _) (Nat.le_of_ble_eq_true rfl) (Nat.zero_le _) (Nat.zero_le _) h (fun v τ h => ?_) (fun x τ h => ?_)
    · obtain ⟨v, hv, e1, h⟩ := h; cases e1; exact j_sel [] rfl h
    · obtain ⟨v, hv, e1, h⟩ := h; cases e1
  · have h := h2 k1
    refine j_aload_n d_H_can_73 0 rfl ?_
    refine j_getR 47 f_H_51 d_H_can_74 (tg_1 hE) (q_okE hE (by decide)) (rf_1_9 hE) (by decide) ?_
    refine j_getR 87 f_H_141 d_H_can_77 (tg_47 hE) (q_okE hE (by decide)) (rf_47_3 hE) (by decide) ?_
    refine j_getR 88 f_H_173 d_H_can_80 (tg_87 hE) (q_okE hE (by decide)) (rf_87_2 hE) (by decide) ?_
    refine j_iload_n d_H_can_83 1 rfl ?_
    obtain ⟨c2, h⟩ := h
    refine zj_iald (z σ 88 x1.toNat) d_H_can_84 (tg_88 hE) (q_okE hE (by decide)) c2 (by decide) (q_z _ _ _) ?_
    refine j_iload_n d_H_can_85 2 rfl ?_
    obtain ⟨r3, h⟩ := h
    obtain ⟨h1, h2⟩ := h
    refine zj_icmp_ne 93 d_H_can_86 (by decide) (z_R _ _ _) r3 (fun k4 => ?_) (fun k4 => ?_)
    · have h := h1 k4
      refine j_iconst (v := zI 0) d_H_can_93 (by decide) ?_
      refine j_callV m_In_verdict [.int (zI 0)] [] d 0 0 cV_H_147 d_H_can_94 rfl rfl (tg_47 hE) (q_okE hE (by decide)) (Nat.le_of_ble_eq_true rfl) (Nat.le_refl _) (Nat.le_of_ble_eq_true rfl) (Nat.zero_le _) (Nat.zero_le _) h (fun v τ h => ?_) (fun x τ h => ?_)
      · obtain ⟨v, hv, e1, h⟩ := h; cases e1; exact j_sel [] rfl h
      · obtain ⟨v, hv, e1, h⟩ := h; cases e1
    · have h := h2 k4
      refine j_iconst (v := zI 1) d_H_can_89 (by decide) ?_
      refine j_goto 94 d_H_can_90 (by decide) ?_
      refine j_callV m_In_verdict [.int (zI 1)] [] d 0 0 cV_H_147 d_H_can_94 rfl rfl (tg_47 hE) (q_okE hE (by decide)) (Nat.le_of_ble_eq_true rfl) (Nat.le_refl _) (Nat.le_of_ble_eq_true rfl) (Nat.zero_le _) (Nat.zero_le _) h (fun v τ h => ?_) (fun x τ h => ?_)
      · obtain ⟨v, hv, e1, h⟩ := h; cases e1; exact j_sel [] rfl h
      · obtain ⟨v, hv, e1, h⟩ := h; cases e1
set_option maxHeartbeats 2000000 in
theorem b_H_can_97 {ω : q_W} {σ : q_H} {Q : q_R → q_H → Prop} {d mc ms : Nat} {y0 : Int} {p : Nat} (hp : p = 16 ∨ p = 29) (r12 : q_r σ 1 2 = p) {q : Nat} (hq : q = 16 ∨ q = 29) (r13 : q_r σ 1 3 = q) (hE : q_E σ) (h : (Q (.inl (some (.int (zI y0)))) σ)) : J ω m_H_can (d + 1) 1 6 0 0 97 [] [.int (zI y0)] σ Q := by
  exact zj_iret d_H_can_97 rfl (Nat.zero_le _) (Nat.zero_le _) h
set_option maxHeartbeats 2000000 in
theorem b_H_ends_0 {ω : q_W} {σ : q_H} {Q : q_R → q_H → Prop} {d mc ms : Nat}  {p : Nat} (hp : p = 16 ∨ p = 29) (r12 : q_r σ 1 2 = p) {q : Nat} (hq : q = 16 ∨ q = 29) (r13 : q_r σ 1 3 = q) (hE : q_E σ) (h : (J ω m_H_needProgram d 0 0 0 0 0 [(0, .ref 1)] [] σ (q_ox (q_kv (fun τ => J ω m_H_ends (d + 1) 1 6 0 0 4 [(0, .ref 1)] [] τ Q)) (fun x τ => Q (.inr x) τ)))) : J ω m_H_ends (d + 1) 1 6 0 0 0 [(0, .ref 1)] [] σ Q := by
  refine j_aload_n d_H_ends_0 0 rfl ?_
  refine j_callV m_H_needProgram [] [] d 0 0 cV_H_123 d_H_ends_1 rfl rfl (tg_1 hE) (q_okE hE (by decide)) (Nat.le_of_ble_eq_true rfl) (Nat.le_refl _) (Nat.le_of_ble_eq_true rfl) (Nat.zero_le _) (Nat.zero_le _) h (fun v τ h => ?_) (fun x τ h => ?_)
  · rcases h with h | ⟨x, e1, h⟩
    · obtain ⟨e1, h⟩ := h; cases e1; exact j_sel [0] rfl h
    · cases e1
  · rcases h with h | ⟨y, e1, h⟩
    · obtain ⟨e1, h⟩ := h; cases e1
    · cases e1; exact jt_out rfl (Nat.zero_le _) (Nat.zero_le _) h
set_option maxHeartbeats 2000000 in
theorem b_H_ends_4 {ω : q_W} {σ : q_H} {Q : q_R → q_H → Prop} {d mc ms : Nat}  {p : Nat} (hp : p = 16 ∨ p = 29) (r12 : q_r σ 1 2 = p) {q : Nat} (hq : q = 16 ∨ q = 29) (r13 : q_r σ 1 3 = q) (hE : q_E σ) (h : (J ω m_In_tally d 0 0 0 0 0 [(0, .ref 47)] [] σ (q_ki (fun v τ => J ω m_H_ends (d + 1) 1 6 0 0 11 [] [.int (zI v)] τ Q)))) : J ω m_H_ends (d + 1) 1 6 0 0 4 [(0, .ref 1)] [] σ Q := by
  refine j_aload_n d_H_ends_4 0 rfl ?_
  refine j_getR 47 f_H_51 d_H_ends_5 (tg_1 hE) (q_okE hE (by decide)) (rf_1_9 hE) (by decide) ?_
  refine j_callV m_In_tally [] [] d 0 0 cV_H_180 d_H_ends_8 rfl rfl (tg_47 hE) (q_okE hE (by decide)) (Nat.le_of_ble_eq_true rfl) (Nat.le_refl _) (Nat.le_of_ble_eq_true rfl) (Nat.zero_le _) (Nat.zero_le _) h (fun v τ h => ?_) (fun x τ h => ?_)
  · obtain ⟨v, hv, e1, h⟩ := h; cases e1; exact j_sel [] rfl h
  · obtain ⟨v, hv, e1, h⟩ := h; cases e1
set_option maxHeartbeats 2000000 in
theorem b_H_ends_11 {ω : q_W} {σ : q_H} {Q : q_R → q_H → Prop} {d mc ms : Nat} {y0 : Int} {p : Nat} (hp : p = 16 ∨ p = 29) (r12 : q_r σ 1 2 = p) {q : Nat} (hq : q = 16 ∨ q = 29) (r13 : q_r σ 1 3 = q) (hE : q_E σ) (h : (Q (.inl (some (.int (zI y0)))) σ)) : J ω m_H_ends (d + 1) 1 6 0 0 11 [] [.int (zI y0)] σ Q := by
  exact zj_iret d_H_ends_11 rfl (Nat.zero_le _) (Nat.zero_le _) h
set_option maxHeartbeats 2000000 in
theorem b_H_witness_0 {ω : q_W} {σ : q_H} {Q : q_R → q_H → Prop} {d mc ms : Nat} {x1 : Int} {p : Nat} (hp : p = 16 ∨ p = 29) (r12 : q_r σ 1 2 = p) {q : Nat} (hq : q = 16 ∨ q = 29) (r13 : q_r σ 1 3 = q) (hE : q_E σ) (h : (J ω m_H_needProgram d 0 0 0 0 0 [(0, .ref 1)] [] σ (q_ox (q_kv (fun τ => J ω m_H_witness (d + 1) 1 6 0 0 4 [(0, .ref 1), (1, .int (zI x1))] [] τ Q)) (fun x τ => Q (.inr x) τ)))) : J ω m_H_witness (d + 1) 1 6 0 0 0 [(0, .ref 1), (1, .int (zI x1))] [] σ Q := by
  refine j_aload_n d_H_witness_0 0 rfl ?_
  refine j_callV m_H_needProgram [] [] d 0 0 cV_H_123 d_H_witness_1 rfl rfl (tg_1 hE) (q_okE hE (by decide)) (Nat.le_of_ble_eq_true rfl) (Nat.le_refl _) (Nat.le_of_ble_eq_true rfl) (Nat.zero_le _) (Nat.zero_le _) h (fun v τ h => ?_) (fun x τ h => ?_)
  · rcases h with h | ⟨x, e1, h⟩
    · obtain ⟨e1, h⟩ := h; cases e1; exact j_sel [0, 1] rfl h
    · cases e1
  · rcases h with h | ⟨y, e1, h⟩
    · obtain ⟨e1, h⟩ := h; cases e1
    · cases e1; exact jt_out rfl (Nat.zero_le _) (Nat.zero_le _) h
set_option maxHeartbeats 2000000 in
theorem b_H_witness_4 {ω : q_W} {σ : q_H} {Q : q_R → q_H → Prop} {d mc ms : Nat} {x1 : Int} {p : Nat} (hp : p = 16 ∨ p = 29) (r12 : q_r σ 1 2 = p) {q : Nat} (hq : q = 16 ∨ q = 29) (r13 : q_r σ 1 3 = q) (hE : q_E σ) (h : q_imp ((z σ 47 5) = 0) (q_n σ < 900000 ∧ 6 ≤ d + 1 ∧ (Q (.inr (q_n σ + 1)) (q_add σ (5, 3)))) ∧ q_imp ((z σ 47 5) ≠ 0) (inR x1 ∧ q_imp (x1 < 0) (q_n σ < 900000 ∧ 6 ≤ d + 1 ∧ (Q (.inr (q_n σ + 1)) (q_add σ (5, 3)))) ∧ q_imp (0 ≤ x1) (q_imp (x1 < (z σ p 0)) ((0 ≤ x1 ∧ x1 < 12) ∧ (Q (.inl (some (.int (zI (z σ 91 x1.toNat))))) σ)) ∧ q_imp (x1 ≥ (z σ p 0)) (q_n σ < 900000 ∧ 6 ≤ d + 1 ∧ (Q (.inr (q_n σ + 1)) (q_add σ (5, 3))))))) : J ω m_H_witness (d + 1) 1 6 0 0 4 [(0, .ref 1), (1, .int (zI x1))] [] σ Q := by
  refine j_aload_n d_H_witness_4 0 rfl ?_
  refine j_getR 47 f_H_51 d_H_witness_5 (tg_1 hE) (q_okE hE (by decide)) (rf_1_9 hE) (by decide) ?_
  refine zj_getZ (z σ 47 5) f_H_184 d_H_witness_8 (tg_47 hE) (q_okE hE (by decide)) (q_z _ _ _) ?_
  obtain ⟨h1, h2⟩ := h
  refine zj_if_eq 29 d_H_witness_11 (by decide) (z_R _ _ _) (fun k1 => ?_) (fun k1 => ?_)
  · have h := h1 k1
    obtain ⟨c2, h⟩ := h
    obtain ⟨c3, h⟩ := h
    refine j_newEx (k := 3) rfl x_H_153 (List.mem_of_getElem? (i := 1387) (by decide +kernel)) d_H_witness_29 d_H_witness_32 d_H_witness_33 (by decide) (by decide) (show q_n σ + 1 < 1000000 by have : q_n σ = q_n σ := rfl; omega) c3 (by decide) ?_
    exact j_athrow d_H_witness_36 (jt_out rfl (by decide) (by decide) h)
  · have h := h2 k1
    refine j_iload_n d_H_witness_14 1 rfl ?_
    obtain ⟨r4, h⟩ := h
    obtain ⟨h1, h2⟩ := h
    refine zj_if_lt 29 d_H_witness_15 (by decide) r4 (fun k5 => ?_) (fun k5 => ?_)
    · have h := h1 k5
      obtain ⟨c6, h⟩ := h
      obtain ⟨c7, h⟩ := h
      refine j_newEx (k := 3) rfl x_H_153 (List.mem_of_getElem? (i := 1387) (by decide +kernel)) d_H_witness_29 d_H_witness_32 d_H_witness_33 (by decide) (by decide) (show q_n σ + 1 < 1000000 by have : q_n σ = q_n σ := rfl; omega) c7 (by decide) ?_
      exact j_athrow d_H_witness_36 (jt_out rfl (by decide) (by decide) h)
    · have h := h2 k5
      refine j_iload_n d_H_witness_18 1 rfl ?_
      refine j_aload_n d_H_witness_19 0 rfl ?_
      refine j_getR p f_H_26 d_H_witness_20 (tg_1 hE) (q_okE hE (by decide)) (r12) (by omega) ?_
      refine zj_getI (z σ p 0) f_H_187 d_H_witness_23 (tY_p_0 hE hp) (q_okE hE (by omega)) (q_z _ _ _) ?_
      obtain ⟨h1, h2⟩ := h
      refine zj_icmp_lt 37 d_H_witness_26 (by decide) r4 (z_R _ _ _) (fun k8 => ?_) (fun k8 => ?_)
      · have h := h1 k8
        refine j_aload_n d_H_witness_37 0 rfl ?_
        refine j_getR 47 f_H_51 d_H_witness_38 (tg_1 hE) (q_okE hE (by decide)) (rf_1_9 hE) (by decide) ?_
        refine j_getR 91 f_H_189 d_H_witness_41 (tg_47 hE) (q_okE hE (by decide)) (rf_47_4 hE) (by decide) ?_
        refine j_iload_n d_H_witness_44 1 rfl ?_
        obtain ⟨c9, h⟩ := h
        refine zj_iald (z σ 91 x1.toNat) d_H_witness_45 (tg_91 hE) (q_okE hE (by decide)) c9 (by decide) (q_z _ _ _) ?_
        exact zj_iret d_H_witness_46 rfl (Nat.zero_le _) (Nat.zero_le _) h
      · have h := h2 k8
        obtain ⟨c10, h⟩ := h
        obtain ⟨c11, h⟩ := h
        refine j_newEx (k := 3) rfl x_H_153 (List.mem_of_getElem? (i := 1387) (by decide +kernel)) d_H_witness_29 d_H_witness_32 d_H_witness_33 (by decide) (by decide) (show q_n σ + 1 < 1000000 by have : q_n σ = q_n σ := rfl; omega) c11 (by decide) ?_
        exact j_athrow d_H_witness_36 (jt_out rfl (by decide) (by decide) h)
set_option maxHeartbeats 2000000 in
theorem b_H_set_0 {ω : q_W} {σ : q_H} {Q : q_R → q_H → Prop} {d mc ms : Nat} {x1 : Int} {x2 : Int} {p : Nat} (hp : p = 16 ∨ p = 29) (r12 : q_r σ 1 2 = p) {q : Nat} (hq : q = 16 ∨ q = 29) (r13 : q_r σ 1 3 = q) (hE : q_E σ) (h : (J ω m_H_needProgram d 0 0 0 0 0 [(0, .ref 1)] [] σ (q_ox (q_kv (fun τ => J ω m_H_set (d + 1) 1 6 0 0 4 [(0, .ref 1), (1, .int (zI x1)), (2, .int (zI x2))] [] τ Q)) (fun x τ => Q (.inr x) τ)))) : J ω m_H_set (d + 1) 1 6 0 0 0 [(0, .ref 1), (1, .int (zI x1)), (2, .int (zI x2))] [] σ Q := by
  refine j_aload_n d_H_set_0 0 rfl ?_
  refine j_callV m_H_needProgram [] [] d 0 0 cV_H_123 d_H_set_1 rfl rfl (tg_1 hE) (q_okE hE (by decide)) (Nat.le_of_ble_eq_true rfl) (Nat.le_refl _) (Nat.le_of_ble_eq_true rfl) (Nat.zero_le _) (Nat.zero_le _) h (fun v τ h => ?_) (fun x τ h => ?_)
  · rcases h with h | ⟨x, e1, h⟩
    · obtain ⟨e1, h⟩ := h; cases e1; exact j_sel [0, 1, 2] rfl h
    · cases e1
  · rcases h with h | ⟨y, e1, h⟩
    · obtain ⟨e1, h⟩ := h; cases e1
    · cases e1; exact jt_out rfl (Nat.zero_le _) (Nat.zero_le _) h
set_option maxHeartbeats 2000000 in
theorem b_H_set_4 {ω : q_W} {σ : q_H} {Q : q_R → q_H → Prop} {d mc ms : Nat} {x1 : Int} {x2 : Int} {p : Nat} (hp : p = 16 ∨ p = 29) (r12 : q_r σ 1 2 = p) {q : Nat} (hq : q = 16 ∨ q = 29) (r13 : q_r σ 1 3 = q) (hE : q_E σ) (h : inR x1 ∧ q_imp (x1 < 0) (q_n σ < 900000 ∧ 6 ≤ d + 1 ∧ (Q (.inr (q_n σ + 1)) (q_add σ (5, 3)))) ∧ q_imp (0 ≤ x1) (q_imp (x1 < (z σ p 0)) ((0 ≤ x1 ∧ x1 < 12) ∧ (Q (.inl none) (zs σ 42 x1.toNat (zAnd x2 (zShl 1 (z σ (p + 1) x1.toNat) - 1))))) ∧ q_imp (x1 ≥ (z σ p 0)) (q_n σ < 900000 ∧ 6 ≤ d + 1 ∧ (Q (.inr (q_n σ + 1)) (q_add σ (5, 3)))))) : J ω m_H_set (d + 1) 1 6 0 0 4 [(0, .ref 1), (1, .int (zI x1)), (2, .int (zI x2))] [] σ Q := by
  refine j_iload_n d_H_set_4 1 rfl ?_
  obtain ⟨r1, h⟩ := h
  obtain ⟨h1, h2⟩ := h
  refine zj_if_lt 19 d_H_set_5 (by decide) r1 (fun k2 => ?_) (fun k2 => ?_)
  · have h := h1 k2
    obtain ⟨c3, h⟩ := h
    obtain ⟨c4, h⟩ := h
    refine j_newEx (k := 3) rfl x_H_153 (List.mem_of_getElem? (i := 1387) (by decide +kernel)) d_H_set_19 d_H_set_22 d_H_set_23 (by decide) (by decide) (show q_n σ + 1 < 1000000 by have : q_n σ = q_n σ := rfl; omega) c4 (by decide) ?_
    exact j_athrow d_H_set_26 (jt_out rfl (by decide) (by decide) h)
  · have h := h2 k2
    refine j_iload_n d_H_set_8 1 rfl ?_
    refine j_aload_n d_H_set_9 0 rfl ?_
    refine j_getR p f_H_26 d_H_set_10 (tg_1 hE) (q_okE hE (by decide)) (r12) (by omega) ?_
    refine zj_getI (z σ p 0) f_H_187 d_H_set_13 (tY_p_0 hE hp) (q_okE hE (by omega)) (q_z _ _ _) ?_
    obtain ⟨h1, h2⟩ := h
    refine zj_icmp_lt 27 d_H_set_16 (by decide) r1 (z_R _ _ _) (fun k5 => ?_) (fun k5 => ?_)
    · have h := h1 k5
      refine j_aload_n d_H_set_27 0 rfl ?_
      refine j_getR 42 f_H_37 d_H_set_28 (tg_1 hE) (q_okE hE (by decide)) (rf_1_7 hE) (by decide) ?_
      refine j_iload_n d_H_set_31 1 rfl ?_
      refine j_iload_n d_H_set_32 2 rfl ?_
      refine j_aload_n d_H_set_33 0 rfl ?_
      refine j_getR p f_H_26 d_H_set_34 (tg_1 hE) (q_okE hE (by decide)) (r12) (by omega) ?_
      refine j_getR (p + 1) f_H_192 d_H_set_37 (tY_p_0 hE hp) (q_okE hE (by omega)) (rY_p_2 hE hp) (by omega) ?_
      refine j_iload_n d_H_set_40 1 rfl ?_
      obtain ⟨c6, h⟩ := h
      refine zj_iald (z σ (p + 1) x1.toNat) d_H_set_41 (tY_p_1 hE hp) (q_okE hE (by omega)) c6 (by decide) (q_z _ _ _) ?_
      refine j_callS m_H_mask [.int (zI (z σ (p + 1) x1.toNat))] [.int (zI x2), .int (zI x1), .ref 42] 0 0 0 cS_H_195 d_H_set_42 rfl rfl (Nat.le_of_ble_eq_true rfl) (Nat.succ_le_succ (Nat.zero_le _)) (Nat.le_of_ble_eq_true rfl) (Nat.zero_le _) (Nat.zero_le _) (c_H_mask hE (z_R _ _ _)) (fun v τ h => ?_) (fun x τ h => absurd h.1 (by simp))
      obtain ⟨e1, e2⟩ := h; cases e1; rw [e2]
      refine zj_iand d_H_set_45 ?_
      refine zj_iast d_H_set_46 (tg_42 hE) (q_okE hE (by decide)) c6 (by decide) ?_
      exact j_vret d_H_set_47 rfl (Nat.zero_le _) (Nat.zero_le _) h
    · have h := h2 k5
      obtain ⟨c7, h⟩ := h
      obtain ⟨c8, h⟩ := h
      refine j_newEx (k := 3) rfl x_H_153 (List.mem_of_getElem? (i := 1387) (by decide +kernel)) d_H_set_19 d_H_set_22 d_H_set_23 (by decide) (by decide) (show q_n σ + 1 < 1000000 by have : q_n σ = q_n σ := rfl; omega) c8 (by decide) ?_
      exact j_athrow d_H_set_26 (jt_out rfl (by decide) (by decide) h)
set_option maxHeartbeats 2000000 in
theorem b_H_take_0 {ω : q_W} {σ : q_H} {Q : q_R → q_H → Prop} {d mc ms : Nat}  {p : Nat} (hp : p = 16 ∨ p = 29) (r12 : q_r σ 1 2 = p) {q : Nat} (hq : q = 16 ∨ q = 29) (r13 : q_r σ 1 3 = q) (hE : q_E σ) (h : (J ω m_H_needProgram d 0 0 0 0 0 [(0, .ref 1)] [] σ (q_ox (q_kv (fun τ => J ω m_H_take (d + 1) 1 6 0 0 4 [(0, .ref 1)] [] τ Q)) (fun x τ => Q (.inr x) τ)))) : J ω m_H_take (d + 1) 1 6 0 0 0 [(0, .ref 1)] [] σ Q := by
  refine j_aload_n d_H_take_0 0 rfl ?_
  refine j_callV m_H_needProgram [] [] d 0 0 cV_H_123 d_H_take_1 rfl rfl (tg_1 hE) (q_okE hE (by decide)) (Nat.le_of_ble_eq_true rfl) (Nat.le_refl _) (Nat.le_of_ble_eq_true rfl) (Nat.zero_le _) (Nat.zero_le _) h (fun v τ h => ?_) (fun x τ h => ?_)
  · rcases h with h | ⟨x, e1, h⟩
    · obtain ⟨e1, h⟩ := h; cases e1; exact j_sel [0] rfl h
    · cases e1
  · rcases h with h | ⟨y, e1, h⟩
    · obtain ⟨e1, h⟩ := h; cases e1
    · cases e1; exact jt_out rfl (Nat.zero_le _) (Nat.zero_le _) h
set_option maxHeartbeats 2000000 in
theorem b_H_take_4 {ω : q_W} {σ : q_H} {Q : q_R → q_H → Prop} {d mc ms : Nat}  {p : Nat} (hp : p = 16 ∨ p = 29) (r12 : q_r σ 1 2 = p) {q : Nat} (hq : q = 16 ∨ q = 29) (r13 : q_r σ 1 3 = q) (hE : q_E σ) (h : q_imp ((z σ 47 5) ≠ 0) (((0 : Int) ≤ 0 ∧ (0 : Int) ≤ 0 ∧ (0 : Int) ≤ (z σ p 0) ∧ (0 : Int) + (z σ p 0) ≤ ((12 : Nat) : Int) ∧ (0 : Int) + (z σ p 0) ≤ ((12 : Nat) : Int)) ∧ (Q (.inl none) (zcp σ 91 0 42 0 (z σ p 0).toNat))) ∧ q_imp ((z σ 47 5) = 0) (q_n σ < 900000 ∧ 6 ≤ d + 1 ∧ (Q (.inr (q_n σ + 1)) (q_add σ (5, 3))))) : J ω m_H_take (d + 1) 1 6 0 0 4 [(0, .ref 1)] [] σ Q := by
  refine j_aload_n d_H_take_4 0 rfl ?_
  refine j_getR 47 f_H_51 d_H_take_5 (tg_1 hE) (q_okE hE (by decide)) (rf_1_9 hE) (by decide) ?_
  refine zj_getZ (z σ 47 5) f_H_184 d_H_take_8 (tg_47 hE) (q_okE hE (by decide)) (q_z _ _ _) ?_
  obtain ⟨h1, h2⟩ := h
  refine zj_if_ne 22 d_H_take_11 (by decide) (z_R _ _ _) (fun k1 => ?_) (fun k1 => ?_)
  · have h := h1 k1
    refine j_aload_n d_H_take_22 0 rfl ?_
    refine j_getR 47 f_H_51 d_H_take_23 (tg_1 hE) (q_okE hE (by decide)) (rf_1_9 hE) (by decide) ?_
    refine j_getR 91 f_H_189 d_H_take_26 (tg_47 hE) (q_okE hE (by decide)) (rf_47_4 hE) (by decide) ?_
    refine j_iconst (v := zI 0) d_H_take_29 (by decide) ?_
    refine j_aload_n d_H_take_30 0 rfl ?_
    refine j_getR 42 f_H_37 d_H_take_31 (tg_1 hE) (q_okE hE (by decide)) (rf_1_7 hE) (by decide) ?_
    refine j_iconst (v := zI 0) d_H_take_34 (by decide) ?_
    refine j_aload_n d_H_take_35 0 rfl ?_
    refine j_getR p f_H_26 d_H_take_36 (tg_1 hE) (q_okE hE (by decide)) (r12) (by omega) ?_
    refine zj_getI (z σ p 0) f_H_187 d_H_take_39 (tY_p_0 hE hp) (q_okE hE (by omega)) (q_z _ _ _) ?_
    obtain ⟨c2, h⟩ := h
    refine zj_copy (List.mem_of_getElem? (i := 1494) (by decide +kernel)) d_H_take_42 (tg_91 hE) (q_okE hE (by decide)) (tg_42 hE) (q_okE hE (by decide)) c2 (by decide) (by decide) (Nat.succ_le_succ (Nat.zero_le _)) (Nat.le_of_ble_eq_true rfl) ?_
    exact j_vret d_H_take_45 rfl (Nat.zero_le _) (Nat.zero_le _) h
  · have h := h2 k1
    obtain ⟨c3, h⟩ := h
    obtain ⟨c4, h⟩ := h
    refine j_newEx (k := 3) rfl x_H_153 (List.mem_of_getElem? (i := 1387) (by decide +kernel)) d_H_take_14 d_H_take_17 d_H_take_18 (by decide) (by decide) (show q_n σ + 1 < 1000000 by have : q_n σ = q_n σ := rfl; omega) c4 (by decide) ?_
    exact j_athrow d_H_take_21 (jt_out rfl (by decide) (by decide) h)
set_option maxHeartbeats 2000000 in
theorem b_H_run_0 {ω : q_W} {σ : q_H} {Q : q_R → q_H → Prop} {d mc ms : Nat}  {p : Nat} (hp : p = 16 ∨ p = 29) (r12 : q_r σ 1 2 = p) {q : Nat} (hq : q = 16 ∨ q = 29) (r13 : q_r σ 1 3 = q) (hE : q_E σ) (h : (J ω m_H_needProgram d 0 0 0 0 0 [(0, .ref 1)] [] σ (q_ox (q_kv (fun τ => J ω m_H_run (d + 1) 1 6 0 0 4 [(0, .ref 1)] [] τ Q)) (fun x τ => Q (.inr x) τ)))) : J ω m_H_run (d + 1) 1 6 0 0 0 [(0, .ref 1)] [] σ Q := by
  refine j_aload_n d_H_run_0 0 rfl ?_
  refine j_callV m_H_needProgram [] [] d 0 0 cV_H_123 d_H_run_1 rfl rfl (tg_1 hE) (q_okE hE (by decide)) (Nat.le_of_ble_eq_true rfl) (Nat.le_refl _) (Nat.le_of_ble_eq_true rfl) (Nat.zero_le _) (Nat.zero_le _) h (fun v τ h => ?_) (fun x τ h => ?_)
  · rcases h with h | ⟨x, e1, h⟩
    · obtain ⟨e1, h⟩ := h; cases e1; exact j_sel [0] rfl h
    · cases e1
  · rcases h with h | ⟨y, e1, h⟩
    · obtain ⟨e1, h⟩ := h; cases e1
    · cases e1; exact jt_out rfl (Nat.zero_le _) (Nat.zero_le _) h
set_option maxHeartbeats 2000000 in
theorem b_H_run_4 {ω : q_W} {σ : q_H} {Q : q_R → q_H → Prop} {d mc ms : Nat}  {p : Nat} (hp : p = 16 ∨ p = 29) (r12 : q_r σ 1 2 = p) {q : Nat} (hq : q = 16 ∨ q = 29) (r13 : q_r σ 1 3 = q) (hE : q_E σ) (h : (J ω m_Ma_execute d 0 0 0 0 0 [(0, .ref 43), (1, .ref p), (2, .ref 42)] [] σ (q_kv (fun τ => J ω m_H_run (d + 1) 1 6 0 0 19 [(0, .ref 1)] [] τ Q)))) : J ω m_H_run (d + 1) 1 6 0 0 4 [(0, .ref 1)] [] σ Q := by
  refine j_aload_n d_H_run_4 0 rfl ?_
  refine j_getR 43 f_H_44 d_H_run_5 (tg_1 hE) (q_okE hE (by decide)) (rf_1_8 hE) (by decide) ?_
  refine j_aload_n d_H_run_8 0 rfl ?_
  refine j_getR p f_H_26 d_H_run_9 (tg_1 hE) (q_okE hE (by decide)) (r12) (by omega) ?_
  refine j_aload_n d_H_run_12 0 rfl ?_
  refine j_getR 42 f_H_37 d_H_run_13 (tg_1 hE) (q_okE hE (by decide)) (rf_1_7 hE) (by decide) ?_
  refine j_callV m_Ma_execute [.ref p, .ref 42] [] d 0 0 cV_H_205 d_H_run_16 rfl rfl (tg_43 hE) (q_okE hE (by decide)) (Nat.le_of_ble_eq_true rfl) (Nat.le_refl _) (Nat.le_of_ble_eq_true rfl) (Nat.zero_le _) (Nat.zero_le _) h (fun v τ h => ?_) (fun x τ h => ?_)
  · obtain ⟨e1, h⟩ := h; cases e1; exact j_sel [0] rfl h
  · obtain ⟨e1, h⟩ := h; cases e1
set_option maxHeartbeats 2000000 in
theorem b_H_run_19 {ω : q_W} {σ : q_H} {Q : q_R → q_H → Prop} {d mc ms : Nat}  {p : Nat} (hp : p = 16 ∨ p = 29) (r12 : q_r σ 1 2 = p) {q : Nat} (hq : q = 16 ∨ q = 29) (r13 : q_r σ 1 3 = q) (hE : q_E σ) (h : (Q (.inl (some (.int (zI (z σ 43 0))))) σ)) : J ω m_H_run (d + 1) 1 6 0 0 19 [(0, .ref 1)] [] σ Q := by
  refine j_aload_n d_H_run_19 0 rfl ?_
  refine j_getR 43 f_H_44 d_H_run_20 (tg_1 hE) (q_okE hE (by decide)) (rf_1_8 hE) (by decide) ?_
  refine zj_getI (z σ 43 0) f_H_144 d_H_run_23 (tg_43 hE) (q_okE hE (by decide)) (q_z _ _ _) ?_
  exact zj_iret d_H_run_26 rfl (Nat.zero_le _) (Nat.zero_le _) h
set_option maxHeartbeats 2000000 in
theorem b_H_value_0 {ω : q_W} {σ : q_H} {Q : q_R → q_H → Prop} {d mc ms : Nat} {x1 : Int} {p : Nat} (hp : p = 16 ∨ p = 29) (r12 : q_r σ 1 2 = p) {q : Nat} (hq : q = 16 ∨ q = 29) (r13 : q_r σ 1 3 = q) (hE : q_E σ) (h : (J ω m_H_needProgram d 0 0 0 0 0 [(0, .ref 1)] [] σ (q_ox (q_kv (fun τ => J ω m_H_value (d + 1) 1 6 0 0 4 [(0, .ref 1), (1, .int (zI x1))] [] τ Q)) (fun x τ => Q (.inr x) τ)))) : J ω m_H_value (d + 1) 1 6 0 0 0 [(0, .ref 1), (1, .int (zI x1))] [] σ Q := by
  refine j_aload_n d_H_value_0 0 rfl ?_
  refine j_callV m_H_needProgram [] [] d 0 0 cV_H_123 d_H_value_1 rfl rfl (tg_1 hE) (q_okE hE (by decide)) (Nat.le_of_ble_eq_true rfl) (Nat.le_refl _) (Nat.le_of_ble_eq_true rfl) (Nat.zero_le _) (Nat.zero_le _) h (fun v τ h => ?_) (fun x τ h => ?_)
  · rcases h with h | ⟨x, e1, h⟩
    · obtain ⟨e1, h⟩ := h; cases e1; exact j_sel [0, 1] rfl h
    · cases e1
  · rcases h with h | ⟨y, e1, h⟩
    · obtain ⟨e1, h⟩ := h; cases e1
    · cases e1; exact jt_out rfl (Nat.zero_le _) (Nat.zero_le _) h
set_option maxHeartbeats 2000000 in
theorem b_H_value_4 {ω : q_W} {σ : q_H} {Q : q_R → q_H → Prop} {d mc ms : Nat} {x1 : Int} {p : Nat} (hp : p = 16 ∨ p = 29) (r12 : q_r σ 1 2 = p) {q : Nat} (hq : q = 16 ∨ q = 29) (r13 : q_r σ 1 3 = q) (hE : q_E σ) (h : (J ω m_H_needVariable d 0 0 0 0 0 [(0, .ref 1), (1, .int (zI x1))] [] σ (q_ox (q_kv (fun τ => J ω m_H_value (d + 1) 1 6 0 0 9 [(0, .ref 1), (1, .int (zI x1))] [] τ Q)) (fun x τ => Q (.inr x) τ)))) : J ω m_H_value (d + 1) 1 6 0 0 4 [(0, .ref 1), (1, .int (zI x1))] [] σ Q := by
  refine j_aload_n d_H_value_4 0 rfl ?_
  refine j_iload_n d_H_value_5 1 rfl ?_
  refine j_callV m_H_needVariable [.int (zI x1)] [] d 0 0 cV_H_160 d_H_value_6 rfl rfl (tg_1 hE) (q_okE hE (by decide)) (Nat.le_of_ble_eq_true rfl) (Nat.le_refl _) (Nat.le_of_ble_eq_true rfl) (Nat.zero_le _) (Nat.zero_le _) h (fun v τ h => ?_) (fun x τ h => ?_)
  · rcases h with h | ⟨x, e1, h⟩
    · obtain ⟨e1, h⟩ := h; cases e1; exact j_sel [0, 1] rfl h
    · cases e1
  · rcases h with h | ⟨y, e1, h⟩
    · obtain ⟨e1, h⟩ := h; cases e1
    · cases e1; exact jt_out rfl (Nat.zero_le _) (Nat.zero_le _) h
set_option maxHeartbeats 2000000 in
theorem b_H_value_9 {ω : q_W} {σ : q_H} {Q : q_R → q_H → Prop} {d mc ms : Nat} {x1 : Int} {p : Nat} (hp : p = 16 ∨ p = 29) (r12 : q_r σ 1 2 = p) {q : Nat} (hq : q = 16 ∨ q = 29) (r13 : q_r σ 1 3 = q) (hE : q_E σ) (h : (0 ≤ x1 ∧ x1 < 12) ∧ (Q (.inl (some (.int (zI (z σ 44 x1.toNat))))) σ)) : J ω m_H_value (d + 1) 1 6 0 0 9 [(0, .ref 1), (1, .int (zI x1))] [] σ Q := by
  refine j_aload_n d_H_value_9 0 rfl ?_
  refine j_getR 43 f_H_44 d_H_value_10 (tg_1 hE) (q_okE hE (by decide)) (rf_1_8 hE) (by decide) ?_
  refine j_getR 44 f_H_173 d_H_value_13 (tg_43 hE) (q_okE hE (by decide)) (rf_43_2 hE) (by decide) ?_
  refine j_iload_n d_H_value_16 1 rfl ?_
  obtain ⟨c1, h⟩ := h
  refine zj_iald (z σ 44 x1.toNat) d_H_value_17 (tg_44 hE) (q_okE hE (by decide)) c1 (by decide) (q_z _ _ _) ?_
  exact zj_iret d_H_value_18 rfl (Nat.zero_le _) (Nat.zero_le _) h
