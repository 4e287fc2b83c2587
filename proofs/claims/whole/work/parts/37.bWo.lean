/-! stretches of bytecode as conditions: Wo -/
theorem d_Wo_loadNumber_0 : decode m_Wo_loadNumber.2.1 0 = .ok (.iconst 0, 1) := by decide +kernel
theorem d_Wo_loadNumber_1 : decode m_Wo_loadNumber.2.1 1 = .ok (.istore_n 3, 1) := by decide +kernel
theorem d_Wo_loadNumber_2 : decode m_Wo_loadNumber.2.1 2 = .ok (.iload_n 3, 1) := by decide +kernel
theorem d_Wo_loadNumber_3 : decode m_Wo_loadNumber.2.1 3 = .ok (.bipush 8, 2) := by decide +kernel
theorem d_Wo_loadNumber_5 : decode m_Wo_loadNumber.2.1 5 = .ok (.if_icmp .ge 31, 3) := by decide +kernel
theorem d_Wo_loadNumber_8 : decode m_Wo_loadNumber.2.1 8 = .ok (.aload_n 0, 1) := by decide +kernel
theorem d_Wo_loadNumber_9 : decode m_Wo_loadNumber.2.1 9 = .ok (.getfield 18, 3) := by decide +kernel
theorem d_Wo_loadNumber_12 : decode m_Wo_loadNumber.2.1 12 = .ok (.iload_n 1, 1) := by decide +kernel
theorem d_Wo_loadNumber_13 : decode m_Wo_loadNumber.2.1 13 = .ok (.iload_n 3, 1) := by decide +kernel
theorem d_Wo_loadNumber_14 : decode m_Wo_loadNumber.2.1 14 = .ok (.iadd, 1) := by decide +kernel
theorem d_Wo_loadNumber_15 : decode m_Wo_loadNumber.2.1 15 = .ok (.iload_n 2, 1) := by decide +kernel
theorem d_Wo_loadNumber_16 : decode m_Wo_loadNumber.2.1 16 = .ok (.iload_n 3, 1) := by decide +kernel
theorem d_Wo_loadNumber_17 : decode m_Wo_loadNumber.2.1 17 = .ok (.ishr, 1) := by decide +kernel
theorem d_Wo_loadNumber_18 : decode m_Wo_loadNumber.2.1 18 = .ok (.iconst 1, 1) := by decide +kernel
theorem d_Wo_loadNumber_19 : decode m_Wo_loadNumber.2.1 19 = .ok (.iand, 1) := by decide +kernel
theorem d_Wo_loadNumber_20 : decode m_Wo_loadNumber.2.1 20 = .ok (.iconst 1, 1) := by decide +kernel
theorem d_Wo_loadNumber_21 : decode m_Wo_loadNumber.2.1 21 = .ok (.if_icmp .ne 7, 3) := by decide +kernel
theorem d_Wo_loadNumber_24 : decode m_Wo_loadNumber.2.1 24 = .ok (.iconst 0, 1) := by decide +kernel
theorem d_Wo_loadNumber_25 : decode m_Wo_loadNumber.2.1 25 = .ok (.goto 4, 3) := by decide +kernel
theorem d_Wo_loadNumber_28 : decode m_Wo_loadNumber.2.1 28 = .ok (.iconst 1, 1) := by decide +kernel
theorem d_Wo_loadNumber_29 : decode m_Wo_loadNumber.2.1 29 = .ok (.iastore, 1) := by decide +kernel
theorem d_Wo_loadNumber_30 : decode m_Wo_loadNumber.2.1 30 = .ok (.iinc 3 1, 3) := by decide +kernel
theorem d_Wo_loadNumber_33 : decode m_Wo_loadNumber.2.1 33 = .ok (.goto (-31), 3) := by decide +kernel
theorem d_Wo_loadNumber_36 : decode m_Wo_loadNumber.2.1 36 = .ok (.return_, 1) := by decide +kernel
theorem d_Wo_load_0 : decode m_Wo_load.2.1 0 = .ok (.aload_n 2, 1) := by decide +kernel
theorem d_Wo_load_1 : decode m_Wo_load.2.1 1 = .ok (.iload_n 3, 1) := by decide +kernel
theorem d_Wo_load_2 : decode m_Wo_load.2.1 2 = .ok (.aload_n 0, 1) := by decide +kernel
theorem d_Wo_load_3 : decode m_Wo_load.2.1 3 = .ok (.getfield 18, 3) := by decide +kernel
theorem d_Wo_load_6 : decode m_Wo_load.2.1 6 = .ok (.iload_n 1, 1) := by decide +kernel
theorem d_Wo_load_7 : decode m_Wo_load.2.1 7 = .ok (.bipush 8, 2) := by decide +kernel
theorem d_Wo_load_9 : decode m_Wo_load.2.1 9 = .ok (.invokestatic 28, 3) := by decide +kernel
theorem d_Wo_load_12 : decode m_Wo_load.2.1 12 = .ok (.return_, 1) := by decide +kernel
theorem d_Wo_choose_0 : decode m_Wo_choose.2.1 0 = .ok (.aload_n 0, 1) := by decide +kernel
theorem d_Wo_choose_1 : decode m_Wo_choose.2.1 1 = .ok (.iload_n 1, 1) := by decide +kernel
theorem d_Wo_choose_2 : decode m_Wo_choose.2.1 2 = .ok (.invokevirtual 45, 3) := by decide +kernel
theorem d_Wo_choose_5 : decode m_Wo_choose.2.1 5 = .ok (.istore 4, 2) := by decide +kernel
theorem d_Wo_choose_7 : decode m_Wo_choose.2.1 7 = .ok (.iconst 0, 1) := by decide +kernel
theorem d_Wo_choose_8 : decode m_Wo_choose.2.1 8 = .ok (.istore 5, 2) := by decide +kernel
theorem d_Wo_choose_10 : decode m_Wo_choose.2.1 10 = .ok (.iload 5, 2) := by decide +kernel
theorem d_Wo_choose_12 : decode m_Wo_choose.2.1 12 = .ok (.bipush 8, 2) := by decide +kernel
theorem d_Wo_choose_14 : decode m_Wo_choose.2.1 14 = .ok (.if_icmp .ge 45, 3) := by decide +kernel
theorem d_Wo_choose_17 : decode m_Wo_choose.2.1 17 = .ok (.aload_n 0, 1) := by decide +kernel
theorem d_Wo_choose_18 : decode m_Wo_choose.2.1 18 = .ok (.getfield 18, 3) := by decide +kernel
theorem d_Wo_choose_21 : decode m_Wo_choose.2.1 21 = .ok (.iload_n 1, 1) := by decide +kernel
theorem d_Wo_choose_22 : decode m_Wo_choose.2.1 22 = .ok (.iload 5, 2) := by decide +kernel
theorem d_Wo_choose_24 : decode m_Wo_choose.2.1 24 = .ok (.iadd, 1) := by decide +kernel
theorem d_Wo_choose_25 : decode m_Wo_choose.2.1 25 = .ok (.aload_n 0, 1) := by decide +kernel
theorem d_Wo_choose_26 : decode m_Wo_choose.2.1 26 = .ok (.getfield 12, 3) := by decide +kernel
theorem d_Wo_choose_29 : decode m_Wo_choose.2.1 29 = .ok (.iload 4, 2) := by decide +kernel
theorem d_Wo_choose_31 : decode m_Wo_choose.2.1 31 = .ok (.aload_n 0, 1) := by decide +kernel
theorem d_Wo_choose_32 : decode m_Wo_choose.2.1 32 = .ok (.getfield 18, 3) := by decide +kernel
theorem d_Wo_choose_35 : decode m_Wo_choose.2.1 35 = .ok (.iload_n 2, 1) := by decide +kernel
theorem d_Wo_choose_36 : decode m_Wo_choose.2.1 36 = .ok (.iload 5, 2) := by decide +kernel
theorem d_Wo_choose_38 : decode m_Wo_choose.2.1 38 = .ok (.iadd, 1) := by decide +kernel
theorem d_Wo_choose_39 : decode m_Wo_choose.2.1 39 = .ok (.iaload, 1) := by decide +kernel
theorem d_Wo_choose_40 : decode m_Wo_choose.2.1 40 = .ok (.aload_n 0, 1) := by decide +kernel
theorem d_Wo_choose_41 : decode m_Wo_choose.2.1 41 = .ok (.getfield 18, 3) := by decide +kernel
theorem d_Wo_choose_44 : decode m_Wo_choose.2.1 44 = .ok (.iload_n 3, 1) := by decide +kernel
theorem d_Wo_choose_45 : decode m_Wo_choose.2.1 45 = .ok (.iload 5, 2) := by decide +kernel
theorem d_Wo_choose_47 : decode m_Wo_choose.2.1 47 = .ok (.iadd, 1) := by decide +kernel
theorem d_Wo_choose_48 : decode m_Wo_choose.2.1 48 = .ok (.iaload, 1) := by decide +kernel
theorem d_Wo_choose_49 : decode m_Wo_choose.2.1 49 = .ok (.invokevirtual 55, 3) := by decide +kernel
theorem d_Wo_choose_52 : decode m_Wo_choose.2.1 52 = .ok (.iastore, 1) := by decide +kernel
theorem d_Wo_choose_53 : decode m_Wo_choose.2.1 53 = .ok (.iinc 5 1, 3) := by decide +kernel
theorem d_Wo_choose_56 : decode m_Wo_choose.2.1 56 = .ok (.goto (-46), 3) := by decide +kernel
theorem d_Wo_choose_59 : decode m_Wo_choose.2.1 59 = .ok (.return_, 1) := by decide +kernel
theorem d_Wo_truth_0 : decode m_Wo_truth.2.1 0 = .ok (.aload_n 0, 1) := by decide +kernel
theorem d_Wo_truth_1 : decode m_Wo_truth.2.1 1 = .ok (.iload_n 1, 1) := by decide +kernel
theorem d_Wo_truth_2 : decode m_Wo_truth.2.1 2 = .ok (.bipush 8, 2) := by decide +kernel
theorem d_Wo_truth_4 : decode m_Wo_truth.2.1 4 = .ok (.invokevirtual 38, 3) := by decide +kernel
theorem d_Wo_truth_7 : decode m_Wo_truth.2.1 7 = .ok (.iconst 1, 1) := by decide +kernel
theorem d_Wo_truth_8 : decode m_Wo_truth.2.1 8 = .ok (.ixor, 1) := by decide +kernel
theorem d_Wo_truth_9 : decode m_Wo_truth.2.1 9 = .ok (.ireturn, 1) := by decide +kernel
theorem d_Wo_none_0 : decode m_Wo_none.2.1 0 = .ok (.iconst 0, 1) := by decide +kernel
theorem d_Wo_none_1 : decode m_Wo_none.2.1 1 = .ok (.istore_n 3, 1) := by decide +kernel
theorem d_Wo_none_2 : decode m_Wo_none.2.1 2 = .ok (.iload_n 2, 1) := by decide +kernel
theorem d_Wo_none_3 : decode m_Wo_none.2.1 3 = .ok (.iconst 1, 1) := by decide +kernel
theorem d_Wo_none_4 : decode m_Wo_none.2.1 4 = .ok (.isub, 1) := by decide +kernel
theorem d_Wo_none_5 : decode m_Wo_none.2.1 5 = .ok (.istore 4, 2) := by decide +kernel
theorem d_Wo_none_7 : decode m_Wo_none.2.1 7 = .ok (.iload 4, 2) := by decide +kernel
theorem d_Wo_none_9 : decode m_Wo_none.2.1 9 = .ok (.ifCond .lt 29, 3) := by decide +kernel
theorem d_Wo_none_12 : decode m_Wo_none.2.1 12 = .ok (.aload_n 0, 1) := by decide +kernel
theorem d_Wo_none_13 : decode m_Wo_none.2.1 13 = .ok (.getfield 12, 3) := by decide +kernel
theorem d_Wo_none_16 : decode m_Wo_none.2.1 16 = .ok (.iload_n 3, 1) := by decide +kernel
theorem d_Wo_none_17 : decode m_Wo_none.2.1 17 = .ok (.aload_n 0, 1) := by decide +kernel
theorem d_Wo_none_18 : decode m_Wo_none.2.1 18 = .ok (.getfield 18, 3) := by decide +kernel
theorem d_Wo_none_21 : decode m_Wo_none.2.1 21 = .ok (.iload_n 1, 1) := by decide +kernel
theorem d_Wo_none_22 : decode m_Wo_none.2.1 22 = .ok (.iload 4, 2) := by decide +kernel
theorem d_Wo_none_24 : decode m_Wo_none.2.1 24 = .ok (.iadd, 1) := by decide +kernel
theorem d_Wo_none_25 : decode m_Wo_none.2.1 25 = .ok (.iaload, 1) := by decide +kernel
theorem d_Wo_none_26 : decode m_Wo_none.2.1 26 = .ok (.iconst 1, 1) := by decide +kernel
theorem d_Wo_none_27 : decode m_Wo_none.2.1 27 = .ok (.ixor, 1) := by decide +kernel
theorem d_Wo_none_28 : decode m_Wo_none.2.1 28 = .ok (.invokevirtual 42, 3) := by decide +kernel
theorem d_Wo_none_31 : decode m_Wo_none.2.1 31 = .ok (.istore_n 3, 1) := by decide +kernel
theorem d_Wo_none_32 : decode m_Wo_none.2.1 32 = .ok (.iinc 4 (-1), 3) := by decide +kernel
theorem d_Wo_none_35 : decode m_Wo_none.2.1 35 = .ok (.goto (-28), 3) := by decide +kernel
theorem d_Wo_none_38 : decode m_Wo_none.2.1 38 = .ok (.iload_n 3, 1) := by decide +kernel
theorem d_Wo_none_39 : decode m_Wo_none.2.1 39 = .ok (.ireturn, 1) := by decide +kernel
theorem d_Wo_single_0 : decode m_Wo_single.2.1 0 = .ok (.iload_n 1, 1) := by decide +kernel
theorem d_Wo_single_1 : decode m_Wo_single.2.1 1 = .ok (.bipush 19, 2) := by decide +kernel
theorem d_Wo_single_3 : decode m_Wo_single.2.1 3 = .ok (.if_icmp .ne 16, 3) := by decide +kernel
theorem d_Wo_single_6 : decode m_Wo_single.2.1 6 = .ok (.aload_n 0, 1) := by decide +kernel
theorem d_Wo_single_7 : decode m_Wo_single.2.1 7 = .ok (.iload_n 2, 1) := by decide +kernel
theorem d_Wo_single_8 : decode m_Wo_single.2.1 8 = .ok (.aload_n 0, 1) := by decide +kernel
theorem d_Wo_single_9 : decode m_Wo_single.2.1 9 = .ok (.iload_n 2, 1) := by decide +kernel
theorem d_Wo_single_10 : decode m_Wo_single.2.1 10 = .ok (.invokevirtual 45, 3) := by decide +kernel
theorem d_Wo_single_13 : decode m_Wo_single.2.1 13 = .ok (.iconst 1, 1) := by decide +kernel
theorem d_Wo_single_14 : decode m_Wo_single.2.1 14 = .ok (.ixor, 1) := by decide +kernel
theorem d_Wo_single_15 : decode m_Wo_single.2.1 15 = .ok (.invokevirtual 49, 3) := by decide +kernel
theorem d_Wo_single_18 : decode m_Wo_single.2.1 18 = .ok (.return_, 1) := by decide +kernel
theorem d_Wo_single_19 : decode m_Wo_single.2.1 19 = .ok (.iload_n 1, 1) := by decide +kernel
theorem d_Wo_single_20 : decode m_Wo_single.2.1 20 = .ok (.bipush 21, 2) := by decide +kernel
theorem d_Wo_single_22 : decode m_Wo_single.2.1 22 = .ok (.if_icmp .ne 7, 3) := by decide +kernel
theorem d_Wo_single_25 : decode m_Wo_single.2.1 25 = .ok (.iconst 0, 1) := by decide +kernel
theorem d_Wo_single_26 : decode m_Wo_single.2.1 26 = .ok (.goto 4, 3) := by decide +kernel
theorem d_Wo_single_29 : decode m_Wo_single.2.1 29 = .ok (.iconst 1, 1) := by decide +kernel
theorem d_Wo_single_30 : decode m_Wo_single.2.1 30 = .ok (.istore 4, 2) := by decide +kernel
theorem d_Wo_single_32 : decode m_Wo_single.2.1 32 = .ok (.iconst 0, 1) := by decide +kernel
theorem d_Wo_single_33 : decode m_Wo_single.2.1 33 = .ok (.istore 5, 2) := by decide +kernel
theorem d_Wo_single_35 : decode m_Wo_single.2.1 35 = .ok (.iload 5, 2) := by decide +kernel
theorem d_Wo_single_37 : decode m_Wo_single.2.1 37 = .ok (.iload_n 3, 1) := by decide +kernel
theorem d_Wo_single_38 : decode m_Wo_single.2.1 38 = .ok (.if_icmp .ge 55, 3) := by decide +kernel
theorem d_Wo_single_41 : decode m_Wo_single.2.1 41 = .ok (.aload_n 0, 1) := by decide +kernel
theorem d_Wo_single_42 : decode m_Wo_single.2.1 42 = .ok (.getfield 18, 3) := by decide +kernel
theorem d_Wo_single_45 : decode m_Wo_single.2.1 45 = .ok (.iload_n 2, 1) := by decide +kernel
theorem d_Wo_single_46 : decode m_Wo_single.2.1 46 = .ok (.iload 5, 2) := by decide +kernel
theorem d_Wo_single_48 : decode m_Wo_single.2.1 48 = .ok (.iadd, 1) := by decide +kernel
theorem d_Wo_single_49 : decode m_Wo_single.2.1 49 = .ok (.iaload, 1) := by decide +kernel
theorem d_Wo_single_50 : decode m_Wo_single.2.1 50 = .ok (.iconst 1, 1) := by decide +kernel
theorem d_Wo_single_51 : decode m_Wo_single.2.1 51 = .ok (.ixor, 1) := by decide +kernel
theorem d_Wo_single_52 : decode m_Wo_single.2.1 52 = .ok (.istore 6, 2) := by decide +kernel
theorem d_Wo_single_54 : decode m_Wo_single.2.1 54 = .ok (.aload_n 0, 1) := by decide +kernel
theorem d_Wo_single_55 : decode m_Wo_single.2.1 55 = .ok (.getfield 18, 3) := by decide +kernel
theorem d_Wo_single_58 : decode m_Wo_single.2.1 58 = .ok (.iload_n 2, 1) := by decide +kernel
theorem d_Wo_single_59 : decode m_Wo_single.2.1 59 = .ok (.iload 5, 2) := by decide +kernel
theorem d_Wo_single_61 : decode m_Wo_single.2.1 61 = .ok (.iadd, 1) := by decide +kernel
theorem d_Wo_single_62 : decode m_Wo_single.2.1 62 = .ok (.aload_n 0, 1) := by decide +kernel
theorem d_Wo_single_63 : decode m_Wo_single.2.1 63 = .ok (.getfield 12, 3) := by decide +kernel
theorem d_Wo_single_66 : decode m_Wo_single.2.1 66 = .ok (.iload 6, 2) := by decide +kernel
theorem d_Wo_single_68 : decode m_Wo_single.2.1 68 = .ok (.iload 4, 2) := by decide +kernel
theorem d_Wo_single_70 : decode m_Wo_single.2.1 70 = .ok (.invokevirtual 52, 3) := by decide +kernel
theorem d_Wo_single_73 : decode m_Wo_single.2.1 73 = .ok (.iastore, 1) := by decide +kernel
theorem d_Wo_single_74 : decode m_Wo_single.2.1 74 = .ok (.aload_n 0, 1) := by decide +kernel
theorem d_Wo_single_75 : decode m_Wo_single.2.1 75 = .ok (.getfield 12, 3) := by decide +kernel
theorem d_Wo_single_78 : decode m_Wo_single.2.1 78 = .ok (.iload 6, 2) := by decide +kernel
theorem d_Wo_single_80 : decode m_Wo_single.2.1 80 = .ok (.iload 4, 2) := by decide +kernel
theorem d_Wo_single_82 : decode m_Wo_single.2.1 82 = .ok (.invokevirtual 42, 3) := by decide +kernel
theorem d_Wo_single_85 : decode m_Wo_single.2.1 85 = .ok (.istore 4, 2) := by decide +kernel
theorem d_Wo_single_87 : decode m_Wo_single.2.1 87 = .ok (.iinc 5 1, 3) := by decide +kernel
theorem d_Wo_single_90 : decode m_Wo_single.2.1 90 = .ok (.goto (-55), 3) := by decide +kernel
theorem d_Wo_single_93 : decode m_Wo_single.2.1 93 = .ok (.return_, 1) := by decide +kernel
theorem d_Wo_leave_0 : decode m_Wo_leave.2.1 0 = .ok (.aload_n 0, 1) := by decide +kernel
theorem d_Wo_leave_1 : decode m_Wo_leave.2.1 1 = .ok (.iload_n 1, 1) := by decide +kernel
theorem d_Wo_leave_2 : decode m_Wo_leave.2.1 2 = .ok (.iconst 0, 1) := by decide +kernel
theorem d_Wo_leave_3 : decode m_Wo_leave.2.1 3 = .ok (.invokevirtual 34, 3) := by decide +kernel
theorem d_Wo_leave_6 : decode m_Wo_leave.2.1 6 = .ok (.aload_n 0, 1) := by decide +kernel
theorem d_Wo_leave_7 : decode m_Wo_leave.2.1 7 = .ok (.getfield 18, 3) := by decide +kernel
theorem d_Wo_leave_10 : decode m_Wo_leave.2.1 10 = .ok (.iload_n 1, 1) := by decide +kernel
theorem d_Wo_leave_11 : decode m_Wo_leave.2.1 11 = .ok (.iload_n 2, 1) := by decide +kernel
theorem d_Wo_leave_12 : decode m_Wo_leave.2.1 12 = .ok (.iastore, 1) := by decide +kernel
theorem d_Wo_leave_13 : decode m_Wo_leave.2.1 13 = .ok (.return_, 1) := by decide +kernel
theorem d_Wo_arithmetic_0 : decode m_Wo_arithmetic.2.1 0 = .ok (.iload_n 1, 1) := by decide +kernel
theorem d_Wo_arithmetic_1 : decode m_Wo_arithmetic.2.1 1 = .ok (.tableswitch 82 12 16 #[35, 35, 47, 59, 71], 35) := by decide +kernel
theorem d_Wo_arithmetic_36 : decode m_Wo_arithmetic.2.1 36 = .ok (.aload_n 0, 1) := by decide +kernel
theorem d_Wo_arithmetic_37 : decode m_Wo_arithmetic.2.1 37 = .ok (.iload_n 1, 1) := by decide +kernel
theorem d_Wo_arithmetic_38 : decode m_Wo_arithmetic.2.1 38 = .ok (.iload_n 2, 1) := by decide +kernel
theorem d_Wo_arithmetic_39 : decode m_Wo_arithmetic.2.1 39 = .ok (.iload_n 3, 1) := by decide +kernel
theorem d_Wo_arithmetic_40 : decode m_Wo_arithmetic.2.1 40 = .ok (.iload 4, 2) := by decide +kernel
theorem d_Wo_arithmetic_42 : decode m_Wo_arithmetic.2.1 42 = .ok (.invokevirtual 72, 3) := by decide +kernel
theorem d_Wo_arithmetic_45 : decode m_Wo_arithmetic.2.1 45 = .ok (.goto 47, 3) := by decide +kernel
theorem d_Wo_arithmetic_48 : decode m_Wo_arithmetic.2.1 48 = .ok (.aload_n 0, 1) := by decide +kernel
theorem d_Wo_arithmetic_49 : decode m_Wo_arithmetic.2.1 49 = .ok (.iload_n 2, 1) := by decide +kernel
theorem d_Wo_arithmetic_50 : decode m_Wo_arithmetic.2.1 50 = .ok (.iload_n 3, 1) := by decide +kernel
theorem d_Wo_arithmetic_51 : decode m_Wo_arithmetic.2.1 51 = .ok (.iload 4, 2) := by decide +kernel
theorem d_Wo_arithmetic_53 : decode m_Wo_arithmetic.2.1 53 = .ok (.iconst 1, 1) := by decide +kernel
theorem d_Wo_arithmetic_54 : decode m_Wo_arithmetic.2.1 54 = .ok (.invokevirtual 76, 3) := by decide +kernel
theorem d_Wo_arithmetic_57 : decode m_Wo_arithmetic.2.1 57 = .ok (.goto 35, 3) := by decide +kernel
theorem d_Wo_arithmetic_60 : decode m_Wo_arithmetic.2.1 60 = .ok (.aload_n 0, 1) := by decide +kernel
theorem d_Wo_arithmetic_61 : decode m_Wo_arithmetic.2.1 61 = .ok (.iload_n 2, 1) := by decide +kernel
theorem d_Wo_arithmetic_62 : decode m_Wo_arithmetic.2.1 62 = .ok (.iload_n 3, 1) := by decide +kernel
theorem d_Wo_arithmetic_63 : decode m_Wo_arithmetic.2.1 63 = .ok (.iload 4, 2) := by decide +kernel
theorem d_Wo_arithmetic_65 : decode m_Wo_arithmetic.2.1 65 = .ok (.iconst 0, 1) := by decide +kernel
theorem d_Wo_arithmetic_66 : decode m_Wo_arithmetic.2.1 66 = .ok (.invokevirtual 76, 3) := by decide +kernel
theorem d_Wo_arithmetic_69 : decode m_Wo_arithmetic.2.1 69 = .ok (.goto 23, 3) := by decide +kernel
theorem d_Wo_arithmetic_72 : decode m_Wo_arithmetic.2.1 72 = .ok (.aload_n 0, 1) := by decide +kernel
theorem d_Wo_arithmetic_73 : decode m_Wo_arithmetic.2.1 73 = .ok (.iload_n 2, 1) := by decide +kernel
theorem d_Wo_arithmetic_74 : decode m_Wo_arithmetic.2.1 74 = .ok (.iload_n 3, 1) := by decide +kernel
theorem d_Wo_arithmetic_75 : decode m_Wo_arithmetic.2.1 75 = .ok (.iload 4, 2) := by decide +kernel
theorem d_Wo_arithmetic_77 : decode m_Wo_arithmetic.2.1 77 = .ok (.invokevirtual 79, 3) := by decide +kernel
theorem d_Wo_arithmetic_80 : decode m_Wo_arithmetic.2.1 80 = .ok (.goto 12, 3) := by decide +kernel
theorem d_Wo_arithmetic_83 : decode m_Wo_arithmetic.2.1 83 = .ok (.aload_n 0, 1) := by decide +kernel
theorem d_Wo_arithmetic_84 : decode m_Wo_arithmetic.2.1 84 = .ok (.iload_n 1, 1) := by decide +kernel
theorem d_Wo_arithmetic_85 : decode m_Wo_arithmetic.2.1 85 = .ok (.iload_n 2, 1) := by decide +kernel
theorem d_Wo_arithmetic_86 : decode m_Wo_arithmetic.2.1 86 = .ok (.iload_n 3, 1) := by decide +kernel
theorem d_Wo_arithmetic_87 : decode m_Wo_arithmetic.2.1 87 = .ok (.iload 4, 2) := by decide +kernel
theorem d_Wo_arithmetic_89 : decode m_Wo_arithmetic.2.1 89 = .ok (.invokevirtual 82, 3) := by decide +kernel
theorem d_Wo_arithmetic_92 : decode m_Wo_arithmetic.2.1 92 = .ok (.return_, 1) := by decide +kernel
theorem d_Wo_shift_0 : decode m_Wo_shift.2.1 0 = .ok (.iconst 1, 1) := by decide +kernel
theorem d_Wo_shift_1 : decode m_Wo_shift.2.1 1 = .ok (.istore 5, 2) := by decide +kernel
theorem d_Wo_shift_3 : decode m_Wo_shift.2.1 3 = .ok (.iconst 0, 1) := by decide +kernel
theorem d_Wo_shift_4 : decode m_Wo_shift.2.1 4 = .ok (.istore 6, 2) := by decide +kernel
theorem d_Wo_shift_6 : decode m_Wo_shift.2.1 6 = .ok (.iload 6, 2) := by decide +kernel
theorem d_Wo_shift_8 : decode m_Wo_shift.2.1 8 = .ok (.bipush 8, 2) := by decide +kernel
theorem d_Wo_shift_10 : decode m_Wo_shift.2.1 10 = .ok (.if_icmp .ge 155, 3) := by decide +kernel
theorem d_Wo_shift_13 : decode m_Wo_shift.2.1 13 = .ok (.iconst 1, 1) := by decide +kernel
theorem d_Wo_shift_14 : decode m_Wo_shift.2.1 14 = .ok (.iload 6, 2) := by decide +kernel
theorem d_Wo_shift_16 : decode m_Wo_shift.2.1 16 = .ok (.ishl, 1) := by decide +kernel
theorem d_Wo_shift_17 : decode m_Wo_shift.2.1 17 = .ok (.istore 7, 2) := by decide +kernel
theorem d_Wo_shift_19 : decode m_Wo_shift.2.1 19 = .ok (.aload_n 0, 1) := by decide +kernel
theorem d_Wo_shift_20 : decode m_Wo_shift.2.1 20 = .ok (.getfield 18, 3) := by decide +kernel
theorem d_Wo_shift_23 : decode m_Wo_shift.2.1 23 = .ok (.iload_n 3, 1) := by decide +kernel
theorem d_Wo_shift_24 : decode m_Wo_shift.2.1 24 = .ok (.iload 6, 2) := by decide +kernel
theorem d_Wo_shift_26 : decode m_Wo_shift.2.1 26 = .ok (.iadd, 1) := by decide +kernel
theorem d_Wo_shift_27 : decode m_Wo_shift.2.1 27 = .ok (.iaload, 1) := by decide +kernel
theorem d_Wo_shift_28 : decode m_Wo_shift.2.1 28 = .ok (.istore 8, 2) := by decide +kernel
theorem d_Wo_shift_30 : decode m_Wo_shift.2.1 30 = .ok (.iload 7, 2) := by decide +kernel
theorem d_Wo_shift_32 : decode m_Wo_shift.2.1 32 = .ok (.iload 4, 2) := by decide +kernel
theorem d_Wo_shift_34 : decode m_Wo_shift.2.1 34 = .ok (.if_icmp .lt 19, 3) := by decide +kernel
theorem d_Wo_shift_37 : decode m_Wo_shift.2.1 37 = .ok (.aload_n 0, 1) := by decide +kernel
theorem d_Wo_shift_38 : decode m_Wo_shift.2.1 38 = .ok (.getfield 12, 3) := by decide +kernel
theorem d_Wo_shift_41 : decode m_Wo_shift.2.1 41 = .ok (.iload 5, 2) := by decide +kernel
theorem d_Wo_shift_43 : decode m_Wo_shift.2.1 43 = .ok (.iload 8, 2) := by decide +kernel
theorem d_Wo_shift_45 : decode m_Wo_shift.2.1 45 = .ok (.invokevirtual 59, 3) := by decide +kernel
theorem d_Wo_shift_48 : decode m_Wo_shift.2.1 48 = .ok (.istore 5, 2) := by decide +kernel
theorem d_Wo_shift_50 : decode m_Wo_shift.2.1 50 = .ok (.goto 109, 3) := by decide +kernel
theorem d_Wo_shift_53 : decode m_Wo_shift.2.1 53 = .ok (.iconst 0, 1) := by decide +kernel
theorem d_Wo_shift_54 : decode m_Wo_shift.2.1 54 = .ok (.istore 9, 2) := by decide +kernel
theorem d_Wo_shift_56 : decode m_Wo_shift.2.1 56 = .ok (.iload 9, 2) := by decide +kernel
theorem d_Wo_shift_58 : decode m_Wo_shift.2.1 58 = .ok (.iload 4, 2) := by decide +kernel
theorem d_Wo_shift_60 : decode m_Wo_shift.2.1 60 = .ok (.if_icmp .ge 84, 3) := by decide +kernel
theorem d_Wo_shift_63 : decode m_Wo_shift.2.1 63 = .ok (.iload_n 1, 1) := by decide +kernel
theorem d_Wo_shift_64 : decode m_Wo_shift.2.1 64 = .ok (.bipush 12, 2) := by decide +kernel
theorem d_Wo_shift_66 : decode m_Wo_shift.2.1 66 = .ok (.if_icmp .ne 11, 3) := by decide +kernel
theorem d_Wo_shift_69 : decode m_Wo_shift.2.1 69 = .ok (.iload 9, 2) := by decide +kernel
theorem d_Wo_shift_71 : decode m_Wo_shift.2.1 71 = .ok (.iload 7, 2) := by decide +kernel
theorem d_Wo_shift_73 : decode m_Wo_shift.2.1 73 = .ok (.isub, 1) := by decide +kernel
theorem d_Wo_shift_74 : decode m_Wo_shift.2.1 74 = .ok (.goto 8, 3) := by decide +kernel
theorem d_Wo_shift_77 : decode m_Wo_shift.2.1 77 = .ok (.iload 9, 2) := by decide +kernel
theorem d_Wo_shift_79 : decode m_Wo_shift.2.1 79 = .ok (.iload 7, 2) := by decide +kernel
theorem d_Wo_shift_81 : decode m_Wo_shift.2.1 81 = .ok (.iadd, 1) := by decide +kernel
theorem d_Wo_shift_82 : decode m_Wo_shift.2.1 82 = .ok (.istore 10, 2) := by decide +kernel
theorem d_Wo_shift_84 : decode m_Wo_shift.2.1 84 = .ok (.iload 10, 2) := by decide +kernel
theorem d_Wo_shift_86 : decode m_Wo_shift.2.1 86 = .ok (.ifCond .lt 22, 3) := by decide +kernel
theorem d_Wo_shift_89 : decode m_Wo_shift.2.1 89 = .ok (.iload 10, 2) := by decide +kernel
theorem d_Wo_shift_91 : decode m_Wo_shift.2.1 91 = .ok (.iload 4, 2) := by decide +kernel
theorem d_Wo_shift_93 : decode m_Wo_shift.2.1 93 = .ok (.if_icmp .ge 15, 3) := by decide +kernel
theorem d_Wo_shift_96 : decode m_Wo_shift.2.1 96 = .ok (.aload_n 0, 1) := by decide +kernel
theorem d_Wo_shift_97 : decode m_Wo_shift.2.1 97 = .ok (.getfield 18, 3) := by decide +kernel
theorem d_Wo_shift_100 : decode m_Wo_shift.2.1 100 = .ok (.iload_n 2, 1) := by decide +kernel
theorem d_Wo_shift_101 : decode m_Wo_shift.2.1 101 = .ok (.iload 10, 2) := by decide +kernel
theorem d_Wo_shift_103 : decode m_Wo_shift.2.1 103 = .ok (.iadd, 1) := by decide +kernel
theorem d_Wo_shift_104 : decode m_Wo_shift.2.1 104 = .ok (.iaload, 1) := by decide +kernel
theorem d_Wo_shift_105 : decode m_Wo_shift.2.1 105 = .ok (.goto 4, 3) := by decide +kernel
theorem d_Wo_shift_108 : decode m_Wo_shift.2.1 108 = .ok (.iconst 1, 1) := by decide +kernel
theorem d_Wo_shift_109 : decode m_Wo_shift.2.1 109 = .ok (.istore 11, 2) := by decide +kernel
theorem d_Wo_shift_111 : decode m_Wo_shift.2.1 111 = .ok (.aload_n 0, 1) := by decide +kernel
theorem d_Wo_shift_112 : decode m_Wo_shift.2.1 112 = .ok (.getfield 22, 3) := by decide +kernel
theorem d_Wo_shift_115 : decode m_Wo_shift.2.1 115 = .ok (.iload 9, 2) := by decide +kernel
theorem d_Wo_shift_117 : decode m_Wo_shift.2.1 117 = .ok (.aload_n 0, 1) := by decide +kernel
theorem d_Wo_shift_118 : decode m_Wo_shift.2.1 118 = .ok (.getfield 12, 3) := by decide +kernel
theorem d_Wo_shift_121 : decode m_Wo_shift.2.1 121 = .ok (.iload 8, 2) := by decide +kernel
theorem d_Wo_shift_123 : decode m_Wo_shift.2.1 123 = .ok (.iload 11, 2) := by decide +kernel
theorem d_Wo_shift_125 : decode m_Wo_shift.2.1 125 = .ok (.aload_n 0, 1) := by decide +kernel
theorem d_Wo_shift_126 : decode m_Wo_shift.2.1 126 = .ok (.getfield 18, 3) := by decide +kernel
theorem d_Wo_shift_129 : decode m_Wo_shift.2.1 129 = .ok (.iload_n 2, 1) := by decide +kernel
theorem d_Wo_shift_130 : decode m_Wo_shift.2.1 130 = .ok (.iload 9, 2) := by decide +kernel
theorem d_Wo_shift_132 : decode m_Wo_shift.2.1 132 = .ok (.iadd, 1) := by decide +kernel
theorem d_Wo_shift_133 : decode m_Wo_shift.2.1 133 = .ok (.iaload, 1) := by decide +kernel
theorem d_Wo_shift_134 : decode m_Wo_shift.2.1 134 = .ok (.invokevirtual 55, 3) := by decide +kernel
theorem d_Wo_shift_137 : decode m_Wo_shift.2.1 137 = .ok (.iastore, 1) := by decide +kernel
theorem d_Wo_shift_138 : decode m_Wo_shift.2.1 138 = .ok (.iinc 9 1, 3) := by decide +kernel
theorem d_Wo_shift_141 : decode m_Wo_shift.2.1 141 = .ok (.goto (-85), 3) := by decide +kernel
theorem d_Wo_shift_144 : decode m_Wo_shift.2.1 144 = .ok (.aload_n 0, 1) := by decide +kernel
theorem d_Wo_shift_145 : decode m_Wo_shift.2.1 145 = .ok (.getfield 22, 3) := by decide +kernel
theorem d_Wo_shift_148 : decode m_Wo_shift.2.1 148 = .ok (.iconst 0, 1) := by decide +kernel
theorem d_Wo_shift_149 : decode m_Wo_shift.2.1 149 = .ok (.aload_n 0, 1) := by decide +kernel
theorem d_Wo_shift_150 : decode m_Wo_shift.2.1 150 = .ok (.getfield 18, 3) := by decide +kernel
theorem d_Wo_shift_153 : decode m_Wo_shift.2.1 153 = .ok (.iload_n 2, 1) := by decide +kernel
theorem d_Wo_shift_154 : decode m_Wo_shift.2.1 154 = .ok (.iload 4, 2) := by decide +kernel
theorem d_Wo_shift_156 : decode m_Wo_shift.2.1 156 = .ok (.invokestatic 28, 3) := by decide +kernel
theorem d_Wo_shift_159 : decode m_Wo_shift.2.1 159 = .ok (.iinc 6 1, 3) := by decide +kernel
theorem d_Wo_shift_162 : decode m_Wo_shift.2.1 162 = .ok (.goto (-156), 3) := by decide +kernel
theorem d_Wo_shift_165 : decode m_Wo_shift.2.1 165 = .ok (.iconst 0, 1) := by decide +kernel
theorem d_Wo_shift_166 : decode m_Wo_shift.2.1 166 = .ok (.istore 6, 2) := by decide +kernel
theorem d_Wo_shift_168 : decode m_Wo_shift.2.1 168 = .ok (.iload 6, 2) := by decide +kernel
theorem d_Wo_shift_170 : decode m_Wo_shift.2.1 170 = .ok (.iload 4, 2) := by decide +kernel
theorem d_Wo_shift_172 : decode m_Wo_shift.2.1 172 = .ok (.if_icmp .ge 38, 3) := by decide +kernel
theorem d_Wo_shift_175 : decode m_Wo_shift.2.1 175 = .ok (.aload_n 0, 1) := by decide +kernel
theorem d_Wo_shift_176 : decode m_Wo_shift.2.1 176 = .ok (.getfield 18, 3) := by decide +kernel
theorem d_Wo_shift_179 : decode m_Wo_shift.2.1 179 = .ok (.iload_n 2, 1) := by decide +kernel
theorem d_Wo_shift_180 : decode m_Wo_shift.2.1 180 = .ok (.iload 6, 2) := by decide +kernel
theorem d_Wo_shift_182 : decode m_Wo_shift.2.1 182 = .ok (.iadd, 1) := by decide +kernel
theorem d_Wo_shift_183 : decode m_Wo_shift.2.1 183 = .ok (.aload_n 0, 1) := by decide +kernel
theorem d_Wo_shift_184 : decode m_Wo_shift.2.1 184 = .ok (.getfield 12, 3) := by decide +kernel
theorem d_Wo_shift_187 : decode m_Wo_shift.2.1 187 = .ok (.aload_n 0, 1) := by decide +kernel
theorem d_Wo_shift_188 : decode m_Wo_shift.2.1 188 = .ok (.getfield 18, 3) := by decide +kernel
theorem d_Wo_shift_191 : decode m_Wo_shift.2.1 191 = .ok (.iload_n 2, 1) := by decide +kernel
theorem d_Wo_shift_192 : decode m_Wo_shift.2.1 192 = .ok (.iload 6, 2) := by decide +kernel
theorem d_Wo_shift_194 : decode m_Wo_shift.2.1 194 = .ok (.iadd, 1) := by decide +kernel
theorem d_Wo_shift_195 : decode m_Wo_shift.2.1 195 = .ok (.iaload, 1) := by decide +kernel
theorem d_Wo_shift_196 : decode m_Wo_shift.2.1 196 = .ok (.iload 5, 2) := by decide +kernel
theorem d_Wo_shift_198 : decode m_Wo_shift.2.1 198 = .ok (.iconst 1, 1) := by decide +kernel
theorem d_Wo_shift_199 : decode m_Wo_shift.2.1 199 = .ok (.ixor, 1) := by decide +kernel
theorem d_Wo_shift_200 : decode m_Wo_shift.2.1 200 = .ok (.invokevirtual 42, 3) := by decide +kernel
theorem d_Wo_shift_203 : decode m_Wo_shift.2.1 203 = .ok (.iastore, 1) := by decide +kernel
theorem d_Wo_shift_204 : decode m_Wo_shift.2.1 204 = .ok (.iinc 6 1, 3) := by decide +kernel
theorem d_Wo_shift_207 : decode m_Wo_shift.2.1 207 = .ok (.goto (-39), 3) := by decide +kernel
theorem d_Wo_shift_210 : decode m_Wo_shift.2.1 210 = .ok (.return_, 1) := by decide +kernel
theorem d_Wo_sum_0 : decode m_Wo_sum.2.1 0 = .ok (.iload 4, 2) := by decide +kernel
theorem d_Wo_sum_2 : decode m_Wo_sum.2.1 2 = .ok (.ifCond .ne 7, 3) := by decide +kernel
theorem d_Wo_sum_5 : decode m_Wo_sum.2.1 5 = .ok (.iconst 1, 1) := by decide +kernel
theorem d_Wo_sum_6 : decode m_Wo_sum.2.1 6 = .ok (.goto 4, 3) := by decide +kernel
theorem d_Wo_sum_9 : decode m_Wo_sum.2.1 9 = .ok (.iconst 0, 1) := by decide +kernel
theorem d_Wo_sum_10 : decode m_Wo_sum.2.1 10 = .ok (.istore 5, 2) := by decide +kernel
theorem d_Wo_sum_12 : decode m_Wo_sum.2.1 12 = .ok (.iload 4, 2) := by decide +kernel
theorem d_Wo_sum_14 : decode m_Wo_sum.2.1 14 = .ok (.istore 6, 2) := by decide +kernel
theorem d_Wo_sum_16 : decode m_Wo_sum.2.1 16 = .ok (.iconst 0, 1) := by decide +kernel
theorem d_Wo_sum_17 : decode m_Wo_sum.2.1 17 = .ok (.istore 7, 2) := by decide +kernel
theorem d_Wo_sum_19 : decode m_Wo_sum.2.1 19 = .ok (.iload 7, 2) := by decide +kernel
theorem d_Wo_sum_21 : decode m_Wo_sum.2.1 21 = .ok (.iload_n 3, 1) := by decide +kernel
theorem d_Wo_sum_22 : decode m_Wo_sum.2.1 22 = .ok (.if_icmp .ge 78, 3) := by decide +kernel
theorem d_Wo_sum_25 : decode m_Wo_sum.2.1 25 = .ok (.aload_n 0, 1) := by decide +kernel
theorem d_Wo_sum_26 : decode m_Wo_sum.2.1 26 = .ok (.getfield 18, 3) := by decide +kernel
theorem d_Wo_sum_29 : decode m_Wo_sum.2.1 29 = .ok (.iload_n 1, 1) := by decide +kernel
theorem d_Wo_sum_30 : decode m_Wo_sum.2.1 30 = .ok (.iload 7, 2) := by decide +kernel
theorem d_Wo_sum_32 : decode m_Wo_sum.2.1 32 = .ok (.iadd, 1) := by decide +kernel
theorem d_Wo_sum_33 : decode m_Wo_sum.2.1 33 = .ok (.iaload, 1) := by decide +kernel
theorem d_Wo_sum_34 : decode m_Wo_sum.2.1 34 = .ok (.istore 8, 2) := by decide +kernel
theorem d_Wo_sum_36 : decode m_Wo_sum.2.1 36 = .ok (.aload_n 0, 1) := by decide +kernel
theorem d_Wo_sum_37 : decode m_Wo_sum.2.1 37 = .ok (.getfield 12, 3) := by decide +kernel
theorem d_Wo_sum_40 : decode m_Wo_sum.2.1 40 = .ok (.iload 8, 2) := by decide +kernel
theorem d_Wo_sum_42 : decode m_Wo_sum.2.1 42 = .ok (.aload_n 0, 1) := by decide +kernel
theorem d_Wo_sum_43 : decode m_Wo_sum.2.1 43 = .ok (.getfield 18, 3) := by decide +kernel
theorem d_Wo_sum_46 : decode m_Wo_sum.2.1 46 = .ok (.iload_n 2, 1) := by decide +kernel
theorem d_Wo_sum_47 : decode m_Wo_sum.2.1 47 = .ok (.iload 7, 2) := by decide +kernel
theorem d_Wo_sum_49 : decode m_Wo_sum.2.1 49 = .ok (.iadd, 1) := by decide +kernel
theorem d_Wo_sum_50 : decode m_Wo_sum.2.1 50 = .ok (.iaload, 1) := by decide +kernel
theorem d_Wo_sum_51 : decode m_Wo_sum.2.1 51 = .ok (.iload 5, 2) := by decide +kernel
theorem d_Wo_sum_53 : decode m_Wo_sum.2.1 53 = .ok (.ixor, 1) := by decide +kernel
theorem d_Wo_sum_54 : decode m_Wo_sum.2.1 54 = .ok (.invokevirtual 52, 3) := by decide +kernel
theorem d_Wo_sum_57 : decode m_Wo_sum.2.1 57 = .ok (.istore 9, 2) := by decide +kernel
theorem d_Wo_sum_59 : decode m_Wo_sum.2.1 59 = .ok (.aload_n 0, 1) := by decide +kernel
theorem d_Wo_sum_60 : decode m_Wo_sum.2.1 60 = .ok (.getfield 18, 3) := by decide +kernel
theorem d_Wo_sum_63 : decode m_Wo_sum.2.1 63 = .ok (.iload_n 1, 1) := by decide +kernel
theorem d_Wo_sum_64 : decode m_Wo_sum.2.1 64 = .ok (.iload 7, 2) := by decide +kernel
theorem d_Wo_sum_66 : decode m_Wo_sum.2.1 66 = .ok (.iadd, 1) := by decide +kernel
theorem d_Wo_sum_67 : decode m_Wo_sum.2.1 67 = .ok (.aload_n 0, 1) := by decide +kernel
theorem d_Wo_sum_68 : decode m_Wo_sum.2.1 68 = .ok (.getfield 12, 3) := by decide +kernel
theorem d_Wo_sum_71 : decode m_Wo_sum.2.1 71 = .ok (.iload 9, 2) := by decide +kernel
theorem d_Wo_sum_73 : decode m_Wo_sum.2.1 73 = .ok (.iload 6, 2) := by decide +kernel
theorem d_Wo_sum_75 : decode m_Wo_sum.2.1 75 = .ok (.invokevirtual 52, 3) := by decide +kernel
theorem d_Wo_sum_78 : decode m_Wo_sum.2.1 78 = .ok (.iastore, 1) := by decide +kernel
theorem d_Wo_sum_79 : decode m_Wo_sum.2.1 79 = .ok (.aload_n 0, 1) := by decide +kernel
theorem d_Wo_sum_80 : decode m_Wo_sum.2.1 80 = .ok (.getfield 12, 3) := by decide +kernel
theorem d_Wo_sum_83 : decode m_Wo_sum.2.1 83 = .ok (.iload 9, 2) := by decide +kernel
theorem d_Wo_sum_85 : decode m_Wo_sum.2.1 85 = .ok (.iload 6, 2) := by decide +kernel
theorem d_Wo_sum_87 : decode m_Wo_sum.2.1 87 = .ok (.iload 8, 2) := by decide +kernel
theorem d_Wo_sum_89 : decode m_Wo_sum.2.1 89 = .ok (.invokevirtual 55, 3) := by decide +kernel
theorem d_Wo_sum_92 : decode m_Wo_sum.2.1 92 = .ok (.istore 6, 2) := by decide +kernel
theorem d_Wo_sum_94 : decode m_Wo_sum.2.1 94 = .ok (.iinc 7 1, 3) := by decide +kernel
theorem d_Wo_sum_97 : decode m_Wo_sum.2.1 97 = .ok (.goto (-78), 3) := by decide +kernel
theorem d_Wo_sum_100 : decode m_Wo_sum.2.1 100 = .ok (.return_, 1) := by decide +kernel
theorem d_Wo_multiply_0 : decode m_Wo_multiply.2.1 0 = .ok (.aload_n 0, 1) := by decide +kernel
theorem d_Wo_multiply_1 : decode m_Wo_multiply.2.1 1 = .ok (.getfield 22, 3) := by decide +kernel
theorem d_Wo_multiply_4 : decode m_Wo_multiply.2.1 4 = .ok (.iconst 1, 1) := by decide +kernel
theorem d_Wo_multiply_5 : decode m_Wo_multiply.2.1 5 = .ok (.invokestatic 85, 3) := by decide +kernel
theorem d_Wo_multiply_8 : decode m_Wo_multiply.2.1 8 = .ok (.iconst 0, 1) := by decide +kernel
theorem d_Wo_multiply_9 : decode m_Wo_multiply.2.1 9 = .ok (.istore 4, 2) := by decide +kernel
theorem d_Wo_multiply_11 : decode m_Wo_multiply.2.1 11 = .ok (.iload 4, 2) := by decide +kernel
theorem d_Wo_multiply_13 : decode m_Wo_multiply.2.1 13 = .ok (.iload_n 3, 1) := by decide +kernel
theorem d_Wo_multiply_14 : decode m_Wo_multiply.2.1 14 = .ok (.if_icmp .ge 109, 3) := by decide +kernel
theorem d_Wo_multiply_17 : decode m_Wo_multiply.2.1 17 = .ok (.iconst 1, 1) := by decide +kernel
theorem d_Wo_multiply_18 : decode m_Wo_multiply.2.1 18 = .ok (.istore 5, 2) := by decide +kernel
theorem d_Wo_multiply_20 : decode m_Wo_multiply.2.1 20 = .ok (.iload 4, 2) := by decide +kernel
theorem d_Wo_multiply_22 : decode m_Wo_multiply.2.1 22 = .ok (.istore 6, 2) := by decide +kernel
theorem d_Wo_multiply_24 : decode m_Wo_multiply.2.1 24 = .ok (.iload 6, 2) := by decide +kernel
theorem d_Wo_multiply_26 : decode m_Wo_multiply.2.1 26 = .ok (.iload_n 3, 1) := by decide +kernel
theorem d_Wo_multiply_27 : decode m_Wo_multiply.2.1 27 = .ok (.if_icmp .ge 90, 3) := by decide +kernel
theorem d_Wo_multiply_30 : decode m_Wo_multiply.2.1 30 = .ok (.aload_n 0, 1) := by decide +kernel
theorem d_Wo_multiply_31 : decode m_Wo_multiply.2.1 31 = .ok (.getfield 22, 3) := by decide +kernel
theorem d_Wo_multiply_34 : decode m_Wo_multiply.2.1 34 = .ok (.iload 6, 2) := by decide +kernel
theorem d_Wo_multiply_36 : decode m_Wo_multiply.2.1 36 = .ok (.iaload, 1) := by decide +kernel
theorem d_Wo_multiply_37 : decode m_Wo_multiply.2.1 37 = .ok (.istore 7, 2) := by decide +kernel
theorem d_Wo_multiply_39 : decode m_Wo_multiply.2.1 39 = .ok (.aload_n 0, 1) := by decide +kernel
theorem d_Wo_multiply_40 : decode m_Wo_multiply.2.1 40 = .ok (.getfield 12, 3) := by decide +kernel
theorem d_Wo_multiply_43 : decode m_Wo_multiply.2.1 43 = .ok (.iload 7, 2) := by decide +kernel
theorem d_Wo_multiply_45 : decode m_Wo_multiply.2.1 45 = .ok (.aload_n 0, 1) := by decide +kernel
theorem d_Wo_multiply_46 : decode m_Wo_multiply.2.1 46 = .ok (.getfield 12, 3) := by decide +kernel
theorem d_Wo_multiply_49 : decode m_Wo_multiply.2.1 49 = .ok (.aload_n 0, 1) := by decide +kernel
theorem d_Wo_multiply_50 : decode m_Wo_multiply.2.1 50 = .ok (.getfield 18, 3) := by decide +kernel
theorem d_Wo_multiply_53 : decode m_Wo_multiply.2.1 53 = .ok (.iload_n 1, 1) := by decide +kernel
theorem d_Wo_multiply_54 : decode m_Wo_multiply.2.1 54 = .ok (.iload 6, 2) := by decide +kernel
theorem d_Wo_multiply_56 : decode m_Wo_multiply.2.1 56 = .ok (.iadd, 1) := by decide +kernel
theorem d_Wo_multiply_57 : decode m_Wo_multiply.2.1 57 = .ok (.iload 4, 2) := by decide +kernel
theorem d_Wo_multiply_59 : decode m_Wo_multiply.2.1 59 = .ok (.isub, 1) := by decide +kernel
theorem d_Wo_multiply_60 : decode m_Wo_multiply.2.1 60 = .ok (.iaload, 1) := by decide +kernel
theorem d_Wo_multiply_61 : decode m_Wo_multiply.2.1 61 = .ok (.aload_n 0, 1) := by decide +kernel
theorem d_Wo_multiply_62 : decode m_Wo_multiply.2.1 62 = .ok (.getfield 18, 3) := by decide +kernel
theorem d_Wo_multiply_65 : decode m_Wo_multiply.2.1 65 = .ok (.iload_n 2, 1) := by decide +kernel
theorem d_Wo_multiply_66 : decode m_Wo_multiply.2.1 66 = .ok (.iload 4, 2) := by decide +kernel
theorem d_Wo_multiply_68 : decode m_Wo_multiply.2.1 68 = .ok (.iadd, 1) := by decide +kernel
theorem d_Wo_multiply_69 : decode m_Wo_multiply.2.1 69 = .ok (.iaload, 1) := by decide +kernel
theorem d_Wo_multiply_70 : decode m_Wo_multiply.2.1 70 = .ok (.invokevirtual 42, 3) := by decide +kernel
theorem d_Wo_multiply_73 : decode m_Wo_multiply.2.1 73 = .ok (.invokevirtual 52, 3) := by decide +kernel
theorem d_Wo_multiply_76 : decode m_Wo_multiply.2.1 76 = .ok (.istore 8, 2) := by decide +kernel
theorem d_Wo_multiply_78 : decode m_Wo_multiply.2.1 78 = .ok (.aload_n 0, 1) := by decide +kernel
theorem d_Wo_multiply_79 : decode m_Wo_multiply.2.1 79 = .ok (.getfield 22, 3) := by decide +kernel
theorem d_Wo_multiply_82 : decode m_Wo_multiply.2.1 82 = .ok (.iload 6, 2) := by decide +kernel
theorem d_Wo_multiply_84 : decode m_Wo_multiply.2.1 84 = .ok (.aload_n 0, 1) := by decide +kernel
theorem d_Wo_multiply_85 : decode m_Wo_multiply.2.1 85 = .ok (.getfield 12, 3) := by decide +kernel
theorem d_Wo_multiply_88 : decode m_Wo_multiply.2.1 88 = .ok (.iload 8, 2) := by decide +kernel
theorem d_Wo_multiply_90 : decode m_Wo_multiply.2.1 90 = .ok (.iload 5, 2) := by decide +kernel
theorem d_Wo_multiply_92 : decode m_Wo_multiply.2.1 92 = .ok (.invokevirtual 52, 3) := by decide +kernel
theorem d_Wo_multiply_95 : decode m_Wo_multiply.2.1 95 = .ok (.iastore, 1) := by decide +kernel
theorem d_Wo_multiply_96 : decode m_Wo_multiply.2.1 96 = .ok (.aload_n 0, 1) := by decide +kernel
theorem d_Wo_multiply_97 : decode m_Wo_multiply.2.1 97 = .ok (.getfield 12, 3) := by decide +kernel
theorem d_Wo_multiply_100 : decode m_Wo_multiply.2.1 100 = .ok (.iload 8, 2) := by decide +kernel
theorem d_Wo_multiply_102 : decode m_Wo_multiply.2.1 102 = .ok (.iload 5, 2) := by decide +kernel
theorem d_Wo_multiply_104 : decode m_Wo_multiply.2.1 104 = .ok (.iload 7, 2) := by decide +kernel
theorem d_Wo_multiply_106 : decode m_Wo_multiply.2.1 106 = .ok (.invokevirtual 55, 3) := by decide +kernel
theorem d_Wo_multiply_109 : decode m_Wo_multiply.2.1 109 = .ok (.istore 5, 2) := by decide +kernel
theorem d_Wo_multiply_111 : decode m_Wo_multiply.2.1 111 = .ok (.iinc 6 1, 3) := by decide +kernel
theorem d_Wo_multiply_114 : decode m_Wo_multiply.2.1 114 = .ok (.goto (-90), 3) := by decide +kernel
theorem d_Wo_multiply_117 : decode m_Wo_multiply.2.1 117 = .ok (.iinc 4 1, 3) := by decide +kernel
theorem d_Wo_multiply_120 : decode m_Wo_multiply.2.1 120 = .ok (.goto (-109), 3) := by decide +kernel
theorem d_Wo_multiply_123 : decode m_Wo_multiply.2.1 123 = .ok (.aload_n 0, 1) := by decide +kernel
theorem d_Wo_multiply_124 : decode m_Wo_multiply.2.1 124 = .ok (.getfield 22, 3) := by decide +kernel
theorem d_Wo_multiply_127 : decode m_Wo_multiply.2.1 127 = .ok (.iconst 0, 1) := by decide +kernel
theorem d_Wo_multiply_128 : decode m_Wo_multiply.2.1 128 = .ok (.aload_n 0, 1) := by decide +kernel
theorem d_Wo_multiply_129 : decode m_Wo_multiply.2.1 129 = .ok (.getfield 18, 3) := by decide +kernel
theorem d_Wo_multiply_132 : decode m_Wo_multiply.2.1 132 = .ok (.iload_n 1, 1) := by decide +kernel
theorem d_Wo_multiply_133 : decode m_Wo_multiply.2.1 133 = .ok (.bipush 8, 2) := by decide +kernel
theorem d_Wo_multiply_135 : decode m_Wo_multiply.2.1 135 = .ok (.invokestatic 28, 3) := by decide +kernel
theorem d_Wo_multiply_138 : decode m_Wo_multiply.2.1 138 = .ok (.return_, 1) := by decide +kernel
theorem d_Wo_divide_0 : decode m_Wo_divide.2.1 0 = .ok (.iload 4, 2) := by decide +kernel
theorem d_Wo_divide_2 : decode m_Wo_divide.2.1 2 = .ok (.iconst 1, 1) := by decide +kernel
theorem d_Wo_divide_3 : decode m_Wo_divide.2.1 3 = .ok (.isub, 1) := by decide +kernel
theorem d_Wo_divide_4 : decode m_Wo_divide.2.1 4 = .ok (.istore 5, 2) := by decide +kernel
theorem d_Wo_divide_6 : decode m_Wo_divide.2.1 6 = .ok (.iload 5, 2) := by decide +kernel
theorem d_Wo_divide_8 : decode m_Wo_divide.2.1 8 = .ok (.ifCond .lt 210, 3) := by decide +kernel
theorem d_Wo_divide_11 : decode m_Wo_divide.2.1 11 = .ok (.iload 4, 2) := by decide +kernel
theorem d_Wo_divide_13 : decode m_Wo_divide.2.1 13 = .ok (.iload 5, 2) := by decide +kernel
theorem d_Wo_divide_15 : decode m_Wo_divide.2.1 15 = .ok (.isub, 1) := by decide +kernel
theorem d_Wo_divide_16 : decode m_Wo_divide.2.1 16 = .ok (.istore 6, 2) := by decide +kernel
theorem d_Wo_divide_18 : decode m_Wo_divide.2.1 18 = .ok (.aload_n 0, 1) := by decide +kernel
theorem d_Wo_divide_19 : decode m_Wo_divide.2.1 19 = .ok (.getfield 22, 3) := by decide +kernel
theorem d_Wo_divide_22 : decode m_Wo_divide.2.1 22 = .ok (.iconst 0, 1) := by decide +kernel
theorem d_Wo_divide_23 : decode m_Wo_divide.2.1 23 = .ok (.aload_n 0, 1) := by decide +kernel
theorem d_Wo_divide_24 : decode m_Wo_divide.2.1 24 = .ok (.getfield 22, 3) := by decide +kernel
theorem d_Wo_divide_27 : decode m_Wo_divide.2.1 27 = .ok (.iconst 1, 1) := by decide +kernel
theorem d_Wo_divide_28 : decode m_Wo_divide.2.1 28 = .ok (.bipush 7, 2) := by decide +kernel
theorem d_Wo_divide_30 : decode m_Wo_divide.2.1 30 = .ok (.invokestatic 28, 3) := by decide +kernel
theorem d_Wo_divide_33 : decode m_Wo_divide.2.1 33 = .ok (.aload_n 0, 1) := by decide +kernel
theorem d_Wo_divide_34 : decode m_Wo_divide.2.1 34 = .ok (.getfield 22, 3) := by decide +kernel
theorem d_Wo_divide_37 : decode m_Wo_divide.2.1 37 = .ok (.iconst 0, 1) := by decide +kernel
theorem d_Wo_divide_38 : decode m_Wo_divide.2.1 38 = .ok (.aload_n 0, 1) := by decide +kernel
theorem d_Wo_divide_39 : decode m_Wo_divide.2.1 39 = .ok (.getfield 18, 3) := by decide +kernel
theorem d_Wo_divide_42 : decode m_Wo_divide.2.1 42 = .ok (.iload_n 2, 1) := by decide +kernel
theorem d_Wo_divide_43 : decode m_Wo_divide.2.1 43 = .ok (.iload 5, 2) := by decide +kernel
theorem d_Wo_divide_45 : decode m_Wo_divide.2.1 45 = .ok (.iadd, 1) := by decide +kernel
theorem d_Wo_divide_46 : decode m_Wo_divide.2.1 46 = .ok (.iaload, 1) := by decide +kernel
theorem d_Wo_divide_47 : decode m_Wo_divide.2.1 47 = .ok (.iastore, 1) := by decide +kernel
theorem d_Wo_divide_48 : decode m_Wo_divide.2.1 48 = .ok (.iconst 0, 1) := by decide +kernel
theorem d_Wo_divide_49 : decode m_Wo_divide.2.1 49 = .ok (.istore 7, 2) := by decide +kernel
theorem d_Wo_divide_51 : decode m_Wo_divide.2.1 51 = .ok (.iconst 0, 1) := by decide +kernel
theorem d_Wo_divide_52 : decode m_Wo_divide.2.1 52 = .ok (.istore 8, 2) := by decide +kernel
theorem d_Wo_divide_54 : decode m_Wo_divide.2.1 54 = .ok (.iload 8, 2) := by decide +kernel
theorem d_Wo_divide_56 : decode m_Wo_divide.2.1 56 = .ok (.iload 6, 2) := by decide +kernel
theorem d_Wo_divide_58 : decode m_Wo_divide.2.1 58 = .ok (.if_icmp .ge 73, 3) := by decide +kernel
theorem d_Wo_divide_61 : decode m_Wo_divide.2.1 61 = .ok (.aload_n 0, 1) := by decide +kernel
theorem d_Wo_divide_62 : decode m_Wo_divide.2.1 62 = .ok (.getfield 22, 3) := by decide +kernel
theorem d_Wo_divide_65 : decode m_Wo_divide.2.1 65 = .ok (.iload 8, 2) := by decide +kernel
theorem d_Wo_divide_67 : decode m_Wo_divide.2.1 67 = .ok (.iaload, 1) := by decide +kernel
theorem d_Wo_divide_68 : decode m_Wo_divide.2.1 68 = .ok (.istore 9, 2) := by decide +kernel
theorem d_Wo_divide_70 : decode m_Wo_divide.2.1 70 = .ok (.aload_n 0, 1) := by decide +kernel
theorem d_Wo_divide_71 : decode m_Wo_divide.2.1 71 = .ok (.getfield 12, 3) := by decide +kernel
theorem d_Wo_divide_74 : decode m_Wo_divide.2.1 74 = .ok (.iload 9, 2) := by decide +kernel
theorem d_Wo_divide_76 : decode m_Wo_divide.2.1 76 = .ok (.aload_n 0, 1) := by decide +kernel
theorem d_Wo_divide_77 : decode m_Wo_divide.2.1 77 = .ok (.getfield 18, 3) := by decide +kernel
theorem d_Wo_divide_80 : decode m_Wo_divide.2.1 80 = .ok (.iload_n 3, 1) := by decide +kernel
theorem d_Wo_divide_81 : decode m_Wo_divide.2.1 81 = .ok (.iload 8, 2) := by decide +kernel
theorem d_Wo_divide_83 : decode m_Wo_divide.2.1 83 = .ok (.iadd, 1) := by decide +kernel
theorem d_Wo_divide_84 : decode m_Wo_divide.2.1 84 = .ok (.iaload, 1) := by decide +kernel
theorem d_Wo_divide_85 : decode m_Wo_divide.2.1 85 = .ok (.iconst 1, 1) := by decide +kernel
theorem d_Wo_divide_86 : decode m_Wo_divide.2.1 86 = .ok (.ixor, 1) := by decide +kernel
theorem d_Wo_divide_87 : decode m_Wo_divide.2.1 87 = .ok (.invokevirtual 52, 3) := by decide +kernel
theorem d_Wo_divide_90 : decode m_Wo_divide.2.1 90 = .ok (.istore 10, 2) := by decide +kernel
theorem d_Wo_divide_92 : decode m_Wo_divide.2.1 92 = .ok (.aload_n 0, 1) := by decide +kernel
theorem d_Wo_divide_93 : decode m_Wo_divide.2.1 93 = .ok (.getfield 25, 3) := by decide +kernel
theorem d_Wo_divide_96 : decode m_Wo_divide.2.1 96 = .ok (.iload 8, 2) := by decide +kernel
theorem d_Wo_divide_98 : decode m_Wo_divide.2.1 98 = .ok (.aload_n 0, 1) := by decide +kernel
theorem d_Wo_divide_99 : decode m_Wo_divide.2.1 99 = .ok (.getfield 12, 3) := by decide +kernel
theorem d_Wo_divide_102 : decode m_Wo_divide.2.1 102 = .ok (.iload 10, 2) := by decide +kernel
theorem d_Wo_divide_104 : decode m_Wo_divide.2.1 104 = .ok (.iload 7, 2) := by decide +kernel
theorem d_Wo_divide_106 : decode m_Wo_divide.2.1 106 = .ok (.invokevirtual 52, 3) := by decide +kernel
theorem d_Wo_divide_109 : decode m_Wo_divide.2.1 109 = .ok (.iastore, 1) := by decide +kernel
theorem d_Wo_divide_110 : decode m_Wo_divide.2.1 110 = .ok (.aload_n 0, 1) := by decide +kernel
theorem d_Wo_divide_111 : decode m_Wo_divide.2.1 111 = .ok (.getfield 12, 3) := by decide +kernel
theorem d_Wo_divide_114 : decode m_Wo_divide.2.1 114 = .ok (.iload 10, 2) := by decide +kernel
theorem d_Wo_divide_116 : decode m_Wo_divide.2.1 116 = .ok (.iload 7, 2) := by decide +kernel
theorem d_Wo_divide_118 : decode m_Wo_divide.2.1 118 = .ok (.iload 9, 2) := by decide +kernel
theorem d_Wo_divide_120 : decode m_Wo_divide.2.1 120 = .ok (.invokevirtual 55, 3) := by decide +kernel
theorem d_Wo_divide_123 : decode m_Wo_divide.2.1 123 = .ok (.istore 7, 2) := by decide +kernel
theorem d_Wo_divide_125 : decode m_Wo_divide.2.1 125 = .ok (.iinc 8 1, 3) := by decide +kernel
theorem d_Wo_divide_128 : decode m_Wo_divide.2.1 128 = .ok (.goto (-74), 3) := by decide +kernel
theorem d_Wo_divide_131 : decode m_Wo_divide.2.1 131 = .ok (.aload_n 0, 1) := by decide +kernel
theorem d_Wo_divide_132 : decode m_Wo_divide.2.1 132 = .ok (.getfield 12, 3) := by decide +kernel
theorem d_Wo_divide_135 : decode m_Wo_divide.2.1 135 = .ok (.iload 7, 2) := by decide +kernel
theorem d_Wo_divide_137 : decode m_Wo_divide.2.1 137 = .ok (.aload_n 0, 1) := by decide +kernel
theorem d_Wo_divide_138 : decode m_Wo_divide.2.1 138 = .ok (.iload_n 3, 1) := by decide +kernel
theorem d_Wo_divide_139 : decode m_Wo_divide.2.1 139 = .ok (.iload 6, 2) := by decide +kernel
theorem d_Wo_divide_141 : decode m_Wo_divide.2.1 141 = .ok (.iadd, 1) := by decide +kernel
theorem d_Wo_divide_142 : decode m_Wo_divide.2.1 142 = .ok (.iload 4, 2) := by decide +kernel
theorem d_Wo_divide_144 : decode m_Wo_divide.2.1 144 = .ok (.iload 6, 2) := by decide +kernel
theorem d_Wo_divide_146 : decode m_Wo_divide.2.1 146 = .ok (.isub, 1) := by decide +kernel
theorem d_Wo_divide_147 : decode m_Wo_divide.2.1 147 = .ok (.invokevirtual 38, 3) := by decide +kernel
theorem d_Wo_divide_150 : decode m_Wo_divide.2.1 150 = .ok (.invokevirtual 42, 3) := by decide +kernel
theorem d_Wo_divide_153 : decode m_Wo_divide.2.1 153 = .ok (.istore 7, 2) := by decide +kernel
theorem d_Wo_divide_155 : decode m_Wo_divide.2.1 155 = .ok (.iconst 0, 1) := by decide +kernel
theorem d_Wo_divide_156 : decode m_Wo_divide.2.1 156 = .ok (.istore 8, 2) := by decide +kernel
theorem d_Wo_divide_158 : decode m_Wo_divide.2.1 158 = .ok (.iload 8, 2) := by decide +kernel
theorem d_Wo_divide_160 : decode m_Wo_divide.2.1 160 = .ok (.iload 6, 2) := by decide +kernel
theorem d_Wo_divide_162 : decode m_Wo_divide.2.1 162 = .ok (.if_icmp .ge 39, 3) := by decide +kernel
theorem d_Wo_divide_165 : decode m_Wo_divide.2.1 165 = .ok (.aload_n 0, 1) := by decide +kernel
theorem d_Wo_divide_166 : decode m_Wo_divide.2.1 166 = .ok (.getfield 22, 3) := by decide +kernel
theorem d_Wo_divide_169 : decode m_Wo_divide.2.1 169 = .ok (.iload 8, 2) := by decide +kernel
theorem d_Wo_divide_171 : decode m_Wo_divide.2.1 171 = .ok (.aload_n 0, 1) := by decide +kernel
theorem d_Wo_divide_172 : decode m_Wo_divide.2.1 172 = .ok (.getfield 12, 3) := by decide +kernel
theorem d_Wo_divide_175 : decode m_Wo_divide.2.1 175 = .ok (.iload 7, 2) := by decide +kernel
theorem d_Wo_divide_177 : decode m_Wo_divide.2.1 177 = .ok (.aload_n 0, 1) := by decide +kernel
theorem d_Wo_divide_178 : decode m_Wo_divide.2.1 178 = .ok (.getfield 25, 3) := by decide +kernel
theorem d_Wo_divide_181 : decode m_Wo_divide.2.1 181 = .ok (.iload 8, 2) := by decide +kernel
theorem d_Wo_divide_183 : decode m_Wo_divide.2.1 183 = .ok (.iaload, 1) := by decide +kernel
theorem d_Wo_divide_184 : decode m_Wo_divide.2.1 184 = .ok (.aload_n 0, 1) := by decide +kernel
theorem d_Wo_divide_185 : decode m_Wo_divide.2.1 185 = .ok (.getfield 22, 3) := by decide +kernel
theorem d_Wo_divide_188 : decode m_Wo_divide.2.1 188 = .ok (.iload 8, 2) := by decide +kernel
theorem d_Wo_divide_190 : decode m_Wo_divide.2.1 190 = .ok (.iaload, 1) := by decide +kernel
theorem d_Wo_divide_191 : decode m_Wo_divide.2.1 191 = .ok (.invokevirtual 55, 3) := by decide +kernel
theorem d_Wo_divide_194 : decode m_Wo_divide.2.1 194 = .ok (.iastore, 1) := by decide +kernel
theorem d_Wo_divide_195 : decode m_Wo_divide.2.1 195 = .ok (.iinc 8 1, 3) := by decide +kernel
theorem d_Wo_divide_198 : decode m_Wo_divide.2.1 198 = .ok (.goto (-40), 3) := by decide +kernel
theorem d_Wo_divide_201 : decode m_Wo_divide.2.1 201 = .ok (.aload_n 0, 1) := by decide +kernel
theorem d_Wo_divide_202 : decode m_Wo_divide.2.1 202 = .ok (.getfield 18, 3) := by decide +kernel
theorem d_Wo_divide_205 : decode m_Wo_divide.2.1 205 = .ok (.iload_n 2, 1) := by decide +kernel
theorem d_Wo_divide_206 : decode m_Wo_divide.2.1 206 = .ok (.iload 5, 2) := by decide +kernel
theorem d_Wo_divide_208 : decode m_Wo_divide.2.1 208 = .ok (.iadd, 1) := by decide +kernel
theorem d_Wo_divide_209 : decode m_Wo_divide.2.1 209 = .ok (.iload 7, 2) := by decide +kernel
theorem d_Wo_divide_211 : decode m_Wo_divide.2.1 211 = .ok (.iastore, 1) := by decide +kernel
theorem d_Wo_divide_212 : decode m_Wo_divide.2.1 212 = .ok (.iinc 5 (-1), 3) := by decide +kernel
theorem d_Wo_divide_215 : decode m_Wo_divide.2.1 215 = .ok (.goto (-209), 3) := by decide +kernel
theorem d_Wo_divide_218 : decode m_Wo_divide.2.1 218 = .ok (.iload_n 1, 1) := by decide +kernel
theorem d_Wo_divide_219 : decode m_Wo_divide.2.1 219 = .ok (.bipush 18, 2) := by decide +kernel
theorem d_Wo_divide_221 : decode m_Wo_divide.2.1 221 = .ok (.if_icmp .ne 18, 3) := by decide +kernel
theorem d_Wo_divide_224 : decode m_Wo_divide.2.1 224 = .ok (.aload_n 0, 1) := by decide +kernel
theorem d_Wo_divide_225 : decode m_Wo_divide.2.1 225 = .ok (.getfield 22, 3) := by decide +kernel
theorem d_Wo_divide_228 : decode m_Wo_divide.2.1 228 = .ok (.iconst 0, 1) := by decide +kernel
theorem d_Wo_divide_229 : decode m_Wo_divide.2.1 229 = .ok (.aload_n 0, 1) := by decide +kernel
theorem d_Wo_divide_230 : decode m_Wo_divide.2.1 230 = .ok (.getfield 18, 3) := by decide +kernel
theorem d_Wo_divide_233 : decode m_Wo_divide.2.1 233 = .ok (.iload_n 2, 1) := by decide +kernel
theorem d_Wo_divide_234 : decode m_Wo_divide.2.1 234 = .ok (.iload 4, 2) := by decide +kernel
theorem d_Wo_divide_236 : decode m_Wo_divide.2.1 236 = .ok (.invokestatic 28, 3) := by decide +kernel
theorem d_Wo_divide_239 : decode m_Wo_divide.2.1 239 = .ok (.return_, 1) := by decide +kernel
theorem d_Wo_logic_0 : decode m_Wo_logic.2.1 0 = .ok (.iload_n 1, 1) := by decide +kernel
theorem d_Wo_logic_1 : decode m_Wo_logic.2.1 1 = .ok (.tableswitch 199 1 11 #[59, 84, 199, 199, 199, 109, 123, 139, 153, 169, 183], 59) := by decide +kernel
theorem d_Wo_logic_60 : decode m_Wo_logic.2.1 60 = .ok (.aload_n 0, 1) := by decide +kernel
theorem d_Wo_logic_61 : decode m_Wo_logic.2.1 61 = .ok (.iload_n 2, 1) := by decide +kernel
theorem d_Wo_logic_62 : decode m_Wo_logic.2.1 62 = .ok (.aload_n 0, 1) := by decide +kernel
theorem d_Wo_logic_63 : decode m_Wo_logic.2.1 63 = .ok (.getfield 12, 3) := by decide +kernel
theorem d_Wo_logic_66 : decode m_Wo_logic.2.1 66 = .ok (.aload_n 0, 1) := by decide +kernel
theorem d_Wo_logic_67 : decode m_Wo_logic.2.1 67 = .ok (.iload_n 2, 1) := by decide +kernel
theorem d_Wo_logic_68 : decode m_Wo_logic.2.1 68 = .ok (.invokevirtual 45, 3) := by decide +kernel
theorem d_Wo_logic_71 : decode m_Wo_logic.2.1 71 = .ok (.aload_n 0, 1) := by decide +kernel
theorem d_Wo_logic_72 : decode m_Wo_logic.2.1 72 = .ok (.iload_n 3, 1) := by decide +kernel
theorem d_Wo_logic_73 : decode m_Wo_logic.2.1 73 = .ok (.invokevirtual 45, 3) := by decide +kernel
theorem d_Wo_logic_76 : decode m_Wo_logic.2.1 76 = .ok (.invokevirtual 59, 3) := by decide +kernel
theorem d_Wo_logic_79 : decode m_Wo_logic.2.1 79 = .ok (.invokevirtual 49, 3) := by decide +kernel
theorem d_Wo_logic_82 : decode m_Wo_logic.2.1 82 = .ok (.goto 125, 3) := by decide +kernel
theorem d_Wo_logic_85 : decode m_Wo_logic.2.1 85 = .ok (.aload_n 0, 1) := by decide +kernel
theorem d_Wo_logic_86 : decode m_Wo_logic.2.1 86 = .ok (.iload_n 2, 1) := by decide +kernel
theorem d_Wo_logic_87 : decode m_Wo_logic.2.1 87 = .ok (.aload_n 0, 1) := by decide +kernel
theorem d_Wo_logic_88 : decode m_Wo_logic.2.1 88 = .ok (.getfield 12, 3) := by decide +kernel
theorem d_Wo_logic_91 : decode m_Wo_logic.2.1 91 = .ok (.aload_n 0, 1) := by decide +kernel
theorem d_Wo_logic_92 : decode m_Wo_logic.2.1 92 = .ok (.iload_n 2, 1) := by decide +kernel
theorem d_Wo_logic_93 : decode m_Wo_logic.2.1 93 = .ok (.invokevirtual 45, 3) := by decide +kernel
theorem d_Wo_logic_96 : decode m_Wo_logic.2.1 96 = .ok (.aload_n 0, 1) := by decide +kernel
theorem d_Wo_logic_97 : decode m_Wo_logic.2.1 97 = .ok (.iload_n 3, 1) := by decide +kernel
theorem d_Wo_logic_98 : decode m_Wo_logic.2.1 98 = .ok (.invokevirtual 45, 3) := by decide +kernel
theorem d_Wo_logic_101 : decode m_Wo_logic.2.1 101 = .ok (.invokevirtual 42, 3) := by decide +kernel
theorem d_Wo_logic_104 : decode m_Wo_logic.2.1 104 = .ok (.invokevirtual 49, 3) := by decide +kernel
theorem d_Wo_logic_107 : decode m_Wo_logic.2.1 107 = .ok (.goto 100, 3) := by decide +kernel
theorem d_Wo_logic_110 : decode m_Wo_logic.2.1 110 = .ok (.aload_n 0, 1) := by decide +kernel
theorem d_Wo_logic_111 : decode m_Wo_logic.2.1 111 = .ok (.iload_n 2, 1) := by decide +kernel
theorem d_Wo_logic_112 : decode m_Wo_logic.2.1 112 = .ok (.aload_n 0, 1) := by decide +kernel
theorem d_Wo_logic_113 : decode m_Wo_logic.2.1 113 = .ok (.iload_n 2, 1) := by decide +kernel
theorem d_Wo_logic_114 : decode m_Wo_logic.2.1 114 = .ok (.iload_n 3, 1) := by decide +kernel
theorem d_Wo_logic_115 : decode m_Wo_logic.2.1 115 = .ok (.invokevirtual 62, 3) := by decide +kernel
theorem d_Wo_logic_118 : decode m_Wo_logic.2.1 118 = .ok (.invokevirtual 49, 3) := by decide +kernel
theorem d_Wo_logic_121 : decode m_Wo_logic.2.1 121 = .ok (.goto 86, 3) := by decide +kernel
theorem d_Wo_logic_124 : decode m_Wo_logic.2.1 124 = .ok (.aload_n 0, 1) := by decide +kernel
theorem d_Wo_logic_125 : decode m_Wo_logic.2.1 125 = .ok (.iload_n 2, 1) := by decide +kernel
theorem d_Wo_logic_126 : decode m_Wo_logic.2.1 126 = .ok (.aload_n 0, 1) := by decide +kernel
theorem d_Wo_logic_127 : decode m_Wo_logic.2.1 127 = .ok (.iload_n 2, 1) := by decide +kernel
theorem d_Wo_logic_128 : decode m_Wo_logic.2.1 128 = .ok (.iload_n 3, 1) := by decide +kernel
theorem d_Wo_logic_129 : decode m_Wo_logic.2.1 129 = .ok (.invokevirtual 62, 3) := by decide +kernel
theorem d_Wo_logic_132 : decode m_Wo_logic.2.1 132 = .ok (.iconst 1, 1) := by decide +kernel
theorem d_Wo_logic_133 : decode m_Wo_logic.2.1 133 = .ok (.ixor, 1) := by decide +kernel
theorem d_Wo_logic_134 : decode m_Wo_logic.2.1 134 = .ok (.invokevirtual 49, 3) := by decide +kernel
theorem d_Wo_logic_137 : decode m_Wo_logic.2.1 137 = .ok (.goto 70, 3) := by decide +kernel
theorem d_Wo_logic_140 : decode m_Wo_logic.2.1 140 = .ok (.aload_n 0, 1) := by decide +kernel
theorem d_Wo_logic_141 : decode m_Wo_logic.2.1 141 = .ok (.iload_n 2, 1) := by decide +kernel
theorem d_Wo_logic_142 : decode m_Wo_logic.2.1 142 = .ok (.aload_n 0, 1) := by decide +kernel
theorem d_Wo_logic_143 : decode m_Wo_logic.2.1 143 = .ok (.iload_n 2, 1) := by decide +kernel
theorem d_Wo_logic_144 : decode m_Wo_logic.2.1 144 = .ok (.iload_n 3, 1) := by decide +kernel
theorem d_Wo_logic_145 : decode m_Wo_logic.2.1 145 = .ok (.invokevirtual 65, 3) := by decide +kernel
theorem d_Wo_logic_148 : decode m_Wo_logic.2.1 148 = .ok (.invokevirtual 49, 3) := by decide +kernel
theorem d_Wo_logic_151 : decode m_Wo_logic.2.1 151 = .ok (.goto 56, 3) := by decide +kernel
theorem d_Wo_logic_154 : decode m_Wo_logic.2.1 154 = .ok (.aload_n 0, 1) := by decide +kernel
theorem d_Wo_logic_155 : decode m_Wo_logic.2.1 155 = .ok (.iload_n 2, 1) := by decide +kernel
theorem d_Wo_logic_156 : decode m_Wo_logic.2.1 156 = .ok (.aload_n 0, 1) := by decide +kernel
theorem d_Wo_logic_157 : decode m_Wo_logic.2.1 157 = .ok (.iload_n 3, 1) := by decide +kernel
theorem d_Wo_logic_158 : decode m_Wo_logic.2.1 158 = .ok (.iload_n 2, 1) := by decide +kernel
theorem d_Wo_logic_159 : decode m_Wo_logic.2.1 159 = .ok (.invokevirtual 65, 3) := by decide +kernel
theorem d_Wo_logic_162 : decode m_Wo_logic.2.1 162 = .ok (.iconst 1, 1) := by decide +kernel
theorem d_Wo_logic_163 : decode m_Wo_logic.2.1 163 = .ok (.ixor, 1) := by decide +kernel
theorem d_Wo_logic_164 : decode m_Wo_logic.2.1 164 = .ok (.invokevirtual 49, 3) := by decide +kernel
theorem d_Wo_logic_167 : decode m_Wo_logic.2.1 167 = .ok (.goto 40, 3) := by decide +kernel
theorem d_Wo_logic_170 : decode m_Wo_logic.2.1 170 = .ok (.aload_n 0, 1) := by decide +kernel
theorem d_Wo_logic_171 : decode m_Wo_logic.2.1 171 = .ok (.iload_n 2, 1) := by decide +kernel
theorem d_Wo_logic_172 : decode m_Wo_logic.2.1 172 = .ok (.aload_n 0, 1) := by decide +kernel
theorem d_Wo_logic_173 : decode m_Wo_logic.2.1 173 = .ok (.iload_n 3, 1) := by decide +kernel
theorem d_Wo_logic_174 : decode m_Wo_logic.2.1 174 = .ok (.iload_n 2, 1) := by decide +kernel
theorem d_Wo_logic_175 : decode m_Wo_logic.2.1 175 = .ok (.invokevirtual 65, 3) := by decide +kernel
theorem d_Wo_logic_178 : decode m_Wo_logic.2.1 178 = .ok (.invokevirtual 49, 3) := by decide +kernel
theorem d_Wo_logic_181 : decode m_Wo_logic.2.1 181 = .ok (.goto 26, 3) := by decide +kernel
theorem d_Wo_logic_184 : decode m_Wo_logic.2.1 184 = .ok (.aload_n 0, 1) := by decide +kernel
theorem d_Wo_logic_185 : decode m_Wo_logic.2.1 185 = .ok (.iload_n 2, 1) := by decide +kernel
theorem d_Wo_logic_186 : decode m_Wo_logic.2.1 186 = .ok (.aload_n 0, 1) := by decide +kernel
theorem d_Wo_logic_187 : decode m_Wo_logic.2.1 187 = .ok (.iload_n 2, 1) := by decide +kernel
theorem d_Wo_logic_188 : decode m_Wo_logic.2.1 188 = .ok (.iload_n 3, 1) := by decide +kernel
theorem d_Wo_logic_189 : decode m_Wo_logic.2.1 189 = .ok (.invokevirtual 65, 3) := by decide +kernel
theorem d_Wo_logic_192 : decode m_Wo_logic.2.1 192 = .ok (.iconst 1, 1) := by decide +kernel
theorem d_Wo_logic_193 : decode m_Wo_logic.2.1 193 = .ok (.ixor, 1) := by decide +kernel
theorem d_Wo_logic_194 : decode m_Wo_logic.2.1 194 = .ok (.invokevirtual 49, 3) := by decide +kernel
theorem d_Wo_logic_197 : decode m_Wo_logic.2.1 197 = .ok (.goto 10, 3) := by decide +kernel
theorem d_Wo_logic_200 : decode m_Wo_logic.2.1 200 = .ok (.aload_n 0, 1) := by decide +kernel
theorem d_Wo_logic_201 : decode m_Wo_logic.2.1 201 = .ok (.iload_n 1, 1) := by decide +kernel
theorem d_Wo_logic_202 : decode m_Wo_logic.2.1 202 = .ok (.iload_n 2, 1) := by decide +kernel
theorem d_Wo_logic_203 : decode m_Wo_logic.2.1 203 = .ok (.iload_n 3, 1) := by decide +kernel
theorem d_Wo_logic_204 : decode m_Wo_logic.2.1 204 = .ok (.invokevirtual 68, 3) := by decide +kernel
theorem d_Wo_logic_207 : decode m_Wo_logic.2.1 207 = .ok (.return_, 1) := by decide +kernel
theorem d_Wo_same_0 : decode m_Wo_same.2.1 0 = .ok (.iconst 0, 1) := by decide +kernel
theorem d_Wo_same_1 : decode m_Wo_same.2.1 1 = .ok (.istore_n 3, 1) := by decide +kernel
theorem d_Wo_same_2 : decode m_Wo_same.2.1 2 = .ok (.iconst 0, 1) := by decide +kernel
theorem d_Wo_same_3 : decode m_Wo_same.2.1 3 = .ok (.istore 4, 2) := by decide +kernel
theorem d_Wo_same_5 : decode m_Wo_same.2.1 5 = .ok (.iload 4, 2) := by decide +kernel
theorem d_Wo_same_7 : decode m_Wo_same.2.1 7 = .ok (.bipush 8, 2) := by decide +kernel
theorem d_Wo_same_9 : decode m_Wo_same.2.1 9 = .ok (.if_icmp .ge 45, 3) := by decide +kernel
theorem d_Wo_same_12 : decode m_Wo_same.2.1 12 = .ok (.aload_n 0, 1) := by decide +kernel
theorem d_Wo_same_13 : decode m_Wo_same.2.1 13 = .ok (.getfield 12, 3) := by decide +kernel
theorem d_Wo_same_16 : decode m_Wo_same.2.1 16 = .ok (.iload_n 3, 1) := by decide +kernel
theorem d_Wo_same_17 : decode m_Wo_same.2.1 17 = .ok (.aload_n 0, 1) := by decide +kernel
theorem d_Wo_same_18 : decode m_Wo_same.2.1 18 = .ok (.getfield 12, 3) := by decide +kernel
theorem d_Wo_same_21 : decode m_Wo_same.2.1 21 = .ok (.aload_n 0, 1) := by decide +kernel
theorem d_Wo_same_22 : decode m_Wo_same.2.1 22 = .ok (.getfield 18, 3) := by decide +kernel
theorem d_Wo_same_25 : decode m_Wo_same.2.1 25 = .ok (.iload_n 1, 1) := by decide +kernel
theorem d_Wo_same_26 : decode m_Wo_same.2.1 26 = .ok (.iload 4, 2) := by decide +kernel
theorem d_Wo_same_28 : decode m_Wo_same.2.1 28 = .ok (.iadd, 1) := by decide +kernel
theorem d_Wo_same_29 : decode m_Wo_same.2.1 29 = .ok (.iaload, 1) := by decide +kernel
theorem d_Wo_same_30 : decode m_Wo_same.2.1 30 = .ok (.aload_n 0, 1) := by decide +kernel
theorem d_Wo_same_31 : decode m_Wo_same.2.1 31 = .ok (.getfield 18, 3) := by decide +kernel
theorem d_Wo_same_34 : decode m_Wo_same.2.1 34 = .ok (.iload_n 2, 1) := by decide +kernel
theorem d_Wo_same_35 : decode m_Wo_same.2.1 35 = .ok (.iload 4, 2) := by decide +kernel
theorem d_Wo_same_37 : decode m_Wo_same.2.1 37 = .ok (.iadd, 1) := by decide +kernel
theorem d_Wo_same_38 : decode m_Wo_same.2.1 38 = .ok (.iaload, 1) := by decide +kernel
theorem d_Wo_same_39 : decode m_Wo_same.2.1 39 = .ok (.invokevirtual 52, 3) := by decide +kernel
theorem d_Wo_same_42 : decode m_Wo_same.2.1 42 = .ok (.iconst 1, 1) := by decide +kernel
theorem d_Wo_same_43 : decode m_Wo_same.2.1 43 = .ok (.ixor, 1) := by decide +kernel
theorem d_Wo_same_44 : decode m_Wo_same.2.1 44 = .ok (.invokevirtual 42, 3) := by decide +kernel
theorem d_Wo_same_47 : decode m_Wo_same.2.1 47 = .ok (.istore_n 3, 1) := by decide +kernel
theorem d_Wo_same_48 : decode m_Wo_same.2.1 48 = .ok (.iinc 4 1, 3) := by decide +kernel
theorem d_Wo_same_51 : decode m_Wo_same.2.1 51 = .ok (.goto (-46), 3) := by decide +kernel
theorem d_Wo_same_54 : decode m_Wo_same.2.1 54 = .ok (.iload_n 3, 1) := by decide +kernel
theorem d_Wo_same_55 : decode m_Wo_same.2.1 55 = .ok (.ireturn, 1) := by decide +kernel
theorem d_Wo_below_0 : decode m_Wo_below.2.1 0 = .ok (.iconst 1, 1) := by decide +kernel
theorem d_Wo_below_1 : decode m_Wo_below.2.1 1 = .ok (.istore_n 3, 1) := by decide +kernel
theorem d_Wo_below_2 : decode m_Wo_below.2.1 2 = .ok (.iconst 0, 1) := by decide +kernel
theorem d_Wo_below_3 : decode m_Wo_below.2.1 3 = .ok (.istore 4, 2) := by decide +kernel
theorem d_Wo_below_5 : decode m_Wo_below.2.1 5 = .ok (.iload 4, 2) := by decide +kernel
theorem d_Wo_below_7 : decode m_Wo_below.2.1 7 = .ok (.bipush 8, 2) := by decide +kernel
theorem d_Wo_below_9 : decode m_Wo_below.2.1 9 = .ok (.if_icmp .ge 49, 3) := by decide +kernel
theorem d_Wo_below_12 : decode m_Wo_below.2.1 12 = .ok (.aload_n 0, 1) := by decide +kernel
theorem d_Wo_below_13 : decode m_Wo_below.2.1 13 = .ok (.getfield 18, 3) := by decide +kernel
theorem d_Wo_below_16 : decode m_Wo_below.2.1 16 = .ok (.iload_n 2, 1) := by decide +kernel
theorem d_Wo_below_17 : decode m_Wo_below.2.1 17 = .ok (.iload 4, 2) := by decide +kernel
theorem d_Wo_below_19 : decode m_Wo_below.2.1 19 = .ok (.iadd, 1) := by decide +kernel
theorem d_Wo_below_20 : decode m_Wo_below.2.1 20 = .ok (.iaload, 1) := by decide +kernel
theorem d_Wo_below_21 : decode m_Wo_below.2.1 21 = .ok (.istore 5, 2) := by decide +kernel
theorem d_Wo_below_23 : decode m_Wo_below.2.1 23 = .ok (.aload_n 0, 1) := by decide +kernel
theorem d_Wo_below_24 : decode m_Wo_below.2.1 24 = .ok (.getfield 12, 3) := by decide +kernel
theorem d_Wo_below_27 : decode m_Wo_below.2.1 27 = .ok (.aload_n 0, 1) := by decide +kernel
theorem d_Wo_below_28 : decode m_Wo_below.2.1 28 = .ok (.getfield 12, 3) := by decide +kernel
theorem d_Wo_below_31 : decode m_Wo_below.2.1 31 = .ok (.aload_n 0, 1) := by decide +kernel
theorem d_Wo_below_32 : decode m_Wo_below.2.1 32 = .ok (.getfield 18, 3) := by decide +kernel
theorem d_Wo_below_35 : decode m_Wo_below.2.1 35 = .ok (.iload_n 1, 1) := by decide +kernel
theorem d_Wo_below_36 : decode m_Wo_below.2.1 36 = .ok (.iload 4, 2) := by decide +kernel
theorem d_Wo_below_38 : decode m_Wo_below.2.1 38 = .ok (.iadd, 1) := by decide +kernel
theorem d_Wo_below_39 : decode m_Wo_below.2.1 39 = .ok (.iaload, 1) := by decide +kernel
theorem d_Wo_below_40 : decode m_Wo_below.2.1 40 = .ok (.iload 5, 2) := by decide +kernel
theorem d_Wo_below_42 : decode m_Wo_below.2.1 42 = .ok (.invokevirtual 52, 3) := by decide +kernel
theorem d_Wo_below_45 : decode m_Wo_below.2.1 45 = .ok (.iload 5, 2) := by decide +kernel
theorem d_Wo_below_47 : decode m_Wo_below.2.1 47 = .ok (.iload_n 3, 1) := by decide +kernel
theorem d_Wo_below_48 : decode m_Wo_below.2.1 48 = .ok (.invokevirtual 55, 3) := by decide +kernel
theorem d_Wo_below_51 : decode m_Wo_below.2.1 51 = .ok (.istore_n 3, 1) := by decide +kernel
theorem d_Wo_below_52 : decode m_Wo_below.2.1 52 = .ok (.iinc 4 1, 3) := by decide +kernel
theorem d_Wo_below_55 : decode m_Wo_below.2.1 55 = .ok (.goto (-50), 3) := by decide +kernel
theorem d_Wo_below_58 : decode m_Wo_below.2.1 58 = .ok (.iload_n 3, 1) := by decide +kernel
theorem d_Wo_below_59 : decode m_Wo_below.2.1 59 = .ok (.ireturn, 1) := by decide +kernel
theorem d_Wo_bitwise_0 : decode m_Wo_bitwise.2.1 0 = .ok (.iconst 0, 1) := by decide +kernel
theorem d_Wo_bitwise_1 : decode m_Wo_bitwise.2.1 1 = .ok (.istore 4, 2) := by decide +kernel
theorem d_Wo_bitwise_3 : decode m_Wo_bitwise.2.1 3 = .ok (.iload 4, 2) := by decide +kernel
theorem d_Wo_bitwise_5 : decode m_Wo_bitwise.2.1 5 = .ok (.bipush 8, 2) := by decide +kernel
theorem d_Wo_bitwise_7 : decode m_Wo_bitwise.2.1 7 = .ok (.if_icmp .ge 89, 3) := by decide +kernel
theorem d_Wo_bitwise_10 : decode m_Wo_bitwise.2.1 10 = .ok (.aload_n 0, 1) := by decide +kernel
theorem d_Wo_bitwise_11 : decode m_Wo_bitwise.2.1 11 = .ok (.getfield 18, 3) := by decide +kernel
theorem d_Wo_bitwise_14 : decode m_Wo_bitwise.2.1 14 = .ok (.iload_n 2, 1) := by decide +kernel
theorem d_Wo_bitwise_15 : decode m_Wo_bitwise.2.1 15 = .ok (.iload 4, 2) := by decide +kernel
theorem d_Wo_bitwise_17 : decode m_Wo_bitwise.2.1 17 = .ok (.iadd, 1) := by decide +kernel
theorem d_Wo_bitwise_18 : decode m_Wo_bitwise.2.1 18 = .ok (.iaload, 1) := by decide +kernel
theorem d_Wo_bitwise_19 : decode m_Wo_bitwise.2.1 19 = .ok (.istore 5, 2) := by decide +kernel
theorem d_Wo_bitwise_21 : decode m_Wo_bitwise.2.1 21 = .ok (.aload_n 0, 1) := by decide +kernel
theorem d_Wo_bitwise_22 : decode m_Wo_bitwise.2.1 22 = .ok (.getfield 18, 3) := by decide +kernel
theorem d_Wo_bitwise_25 : decode m_Wo_bitwise.2.1 25 = .ok (.iload_n 3, 1) := by decide +kernel
theorem d_Wo_bitwise_26 : decode m_Wo_bitwise.2.1 26 = .ok (.iload 4, 2) := by decide +kernel
theorem d_Wo_bitwise_28 : decode m_Wo_bitwise.2.1 28 = .ok (.iadd, 1) := by decide +kernel
theorem d_Wo_bitwise_29 : decode m_Wo_bitwise.2.1 29 = .ok (.iaload, 1) := by decide +kernel
theorem d_Wo_bitwise_30 : decode m_Wo_bitwise.2.1 30 = .ok (.istore 6, 2) := by decide +kernel
theorem d_Wo_bitwise_32 : decode m_Wo_bitwise.2.1 32 = .ok (.aload_n 0, 1) := by decide +kernel
theorem d_Wo_bitwise_33 : decode m_Wo_bitwise.2.1 33 = .ok (.getfield 18, 3) := by decide +kernel
theorem d_Wo_bitwise_36 : decode m_Wo_bitwise.2.1 36 = .ok (.iload_n 2, 1) := by decide +kernel
theorem d_Wo_bitwise_37 : decode m_Wo_bitwise.2.1 37 = .ok (.iload 4, 2) := by decide +kernel
theorem d_Wo_bitwise_39 : decode m_Wo_bitwise.2.1 39 = .ok (.iadd, 1) := by decide +kernel
theorem d_Wo_bitwise_40 : decode m_Wo_bitwise.2.1 40 = .ok (.iload_n 1, 1) := by decide +kernel
theorem d_Wo_bitwise_41 : decode m_Wo_bitwise.2.1 41 = .ok (.iconst 4, 1) := by decide +kernel
theorem d_Wo_bitwise_42 : decode m_Wo_bitwise.2.1 42 = .ok (.if_icmp .ne 17, 3) := by decide +kernel
theorem d_Wo_bitwise_45 : decode m_Wo_bitwise.2.1 45 = .ok (.aload_n 0, 1) := by decide +kernel
theorem d_Wo_bitwise_46 : decode m_Wo_bitwise.2.1 46 = .ok (.getfield 12, 3) := by decide +kernel
theorem d_Wo_bitwise_49 : decode m_Wo_bitwise.2.1 49 = .ok (.iload 5, 2) := by decide +kernel
theorem d_Wo_bitwise_51 : decode m_Wo_bitwise.2.1 51 = .ok (.iload 6, 2) := by decide +kernel
theorem d_Wo_bitwise_53 : decode m_Wo_bitwise.2.1 53 = .ok (.invokevirtual 52, 3) := by decide +kernel
theorem d_Wo_bitwise_56 : decode m_Wo_bitwise.2.1 56 = .ok (.goto 33, 3) := by decide +kernel
theorem d_Wo_bitwise_59 : decode m_Wo_bitwise.2.1 59 = .ok (.iload_n 1, 1) := by decide +kernel
theorem d_Wo_bitwise_60 : decode m_Wo_bitwise.2.1 60 = .ok (.iconst 5, 1) := by decide +kernel
theorem d_Wo_bitwise_61 : decode m_Wo_bitwise.2.1 61 = .ok (.if_icmp .ne 17, 3) := by decide +kernel
theorem d_Wo_bitwise_64 : decode m_Wo_bitwise.2.1 64 = .ok (.aload_n 0, 1) := by decide +kernel
theorem d_Wo_bitwise_65 : decode m_Wo_bitwise.2.1 65 = .ok (.getfield 12, 3) := by decide +kernel
theorem d_Wo_bitwise_68 : decode m_Wo_bitwise.2.1 68 = .ok (.iload 5, 2) := by decide +kernel
theorem d_Wo_bitwise_70 : decode m_Wo_bitwise.2.1 70 = .ok (.iload 6, 2) := by decide +kernel
theorem d_Wo_bitwise_72 : decode m_Wo_bitwise.2.1 72 = .ok (.invokevirtual 42, 3) := by decide +kernel
theorem d_Wo_bitwise_75 : decode m_Wo_bitwise.2.1 75 = .ok (.goto 14, 3) := by decide +kernel
theorem d_Wo_bitwise_78 : decode m_Wo_bitwise.2.1 78 = .ok (.aload_n 0, 1) := by decide +kernel
theorem d_Wo_bitwise_79 : decode m_Wo_bitwise.2.1 79 = .ok (.getfield 12, 3) := by decide +kernel
theorem d_Wo_bitwise_82 : decode m_Wo_bitwise.2.1 82 = .ok (.iload 5, 2) := by decide +kernel
theorem d_Wo_bitwise_84 : decode m_Wo_bitwise.2.1 84 = .ok (.iload 6, 2) := by decide +kernel
theorem d_Wo_bitwise_86 : decode m_Wo_bitwise.2.1 86 = .ok (.invokevirtual 59, 3) := by decide +kernel
theorem d_Wo_bitwise_89 : decode m_Wo_bitwise.2.1 89 = .ok (.iastore, 1) := by decide +kernel
theorem d_Wo_bitwise_90 : decode m_Wo_bitwise.2.1 90 = .ok (.iinc 4 1, 3) := by decide +kernel
theorem d_Wo_bitwise_93 : decode m_Wo_bitwise.2.1 93 = .ok (.goto (-90), 3) := by decide +kernel
theorem d_Wo_bitwise_96 : decode m_Wo_bitwise.2.1 96 = .ok (.return_, 1) := by decide +kernel
theorem f_Wo_18 : q_FR "ProofHall$Words" 18 6 1 := ⟨"[I", by decide, ⟨_, _, _, rfl, by decide, rfl, Or.inl (List.mem_of_getElem? (i := 401) (by decide +kernel))⟩⟩
theorem cd_Wo_truth : q_cd m_Wo_truth := ⟨by decide +kernel, List.mem_of_getElem? (i := 12) (by decide +kernel), Or.inl ⟨rfl, List.mem_of_getElem? (i := 1048) (by decide +kernel)⟩⟩
theorem cV_Wo_45 : q_CV "ProofHall$Words" 45 6 m_Wo_truth 1 := ⟨⟨cd_Wo_truth, by decide, by decide, by decide, by decide +kernel⟩, Or.inl (List.mem_of_getElem? (i := 1045) (by decide +kernel)), List.mem_of_getElem? (i := 1046) (by decide +kernel), _, _, _, rfl, List.mem_append_right _ (List.mem_of_getElem? (i := 1047) (by decide +kernel))⟩
theorem f_Wo_12 : q_FR "ProofHall$Words" 12 6 0 := ⟨"LProofHall$Circuit;", by decide, ⟨_, _, _, rfl, by decide, rfl, Or.inl (List.mem_of_getElem? (i := 399) (by decide +kernel))⟩⟩
theorem cd_Ci_pick : q_cd m_Ci_pick := ⟨by decide +kernel, List.mem_of_getElem? (i := 13) (by decide +kernel), Or.inl ⟨rfl, List.mem_of_getElem? (i := 1069) (by decide +kernel)⟩⟩
theorem cV_Wo_55 : q_CV "ProofHall$Words" 55 5 m_Ci_pick 3 := ⟨⟨cd_Ci_pick, by decide, by decide, by decide, by decide +kernel⟩, Or.inl (List.mem_of_getElem? (i := 1066) (by decide +kernel)), List.mem_of_getElem? (i := 1067) (by decide +kernel), _, _, _, rfl, List.mem_append_right _ (List.mem_of_getElem? (i := 1068) (by decide +kernel))⟩
theorem cd_Wo_none : q_cd m_Wo_none := ⟨by decide +kernel, List.mem_of_getElem? (i := 12) (by decide +kernel), Or.inl ⟨rfl, List.mem_of_getElem? (i := 1052) (by decide +kernel)⟩⟩
theorem cV_Wo_38 : q_CV "ProofHall$Words" 38 6 m_Wo_none 2 := ⟨⟨cd_Wo_none, by decide, by decide, by decide, by decide +kernel⟩, Or.inl (List.mem_of_getElem? (i := 1049) (by decide +kernel)), List.mem_of_getElem? (i := 1051) (by decide +kernel), _, _, _, rfl, by decide +kernel⟩
theorem cV_Wo_42 : q_CV "ProofHall$Words" 42 5 m_Ci_and 2 := ⟨⟨cd_Ci_and, by decide, by decide, by decide, by decide +kernel⟩, Or.inl (List.mem_of_getElem? (i := 1053) (by decide +kernel)), List.mem_of_getElem? (i := 1054) (by decide +kernel), _, _, _, rfl, List.mem_append_right _ (List.mem_of_getElem? (i := 1055) (by decide +kernel))⟩
theorem cV_Wo_52 : q_CV "ProofHall$Words" 52 5 m_Ci_xor 2 := ⟨⟨cd_Ci_xor, by decide, by decide, by decide, by decide +kernel⟩, Or.inl (List.mem_of_getElem? (i := 1084) (by decide +kernel)), List.mem_of_getElem? (i := 1071) (by decide +kernel), _, _, _, rfl, List.mem_append_right _ (List.mem_of_getElem? (i := 1072) (by decide +kernel))⟩
theorem cd_Wo_leave : q_cd m_Wo_leave := ⟨by decide +kernel, List.mem_of_getElem? (i := 12) (by decide +kernel), Or.inl ⟨rfl, List.mem_of_getElem? (i := 1082) (by decide +kernel)⟩⟩
theorem cV_Wo_49 : q_CV "ProofHall$Words" 49 6 m_Wo_leave 2 := ⟨⟨cd_Wo_leave, by decide, by decide, by decide, by decide +kernel⟩, Or.inl (List.mem_of_getElem? (i := 1079) (by decide +kernel)), List.mem_of_getElem? (i := 1081) (by decide +kernel), _, _, _, rfl, by decide +kernel⟩
theorem cd_Wo_loadNumber : q_cd m_Wo_loadNumber := ⟨by decide +kernel, List.mem_of_getElem? (i := 12) (by decide +kernel), Or.inl ⟨rfl, List.mem_of_getElem? (i := 1033) (by decide +kernel)⟩⟩
theorem cV_Wo_34 : q_CV "ProofHall$Words" 34 6 m_Wo_loadNumber 2 := ⟨⟨cd_Wo_loadNumber, by decide, by decide, by decide, by decide +kernel⟩, Or.inl (List.mem_of_getElem? (i := 1083) (by decide +kernel)), List.mem_of_getElem? (i := 1031) (by decide +kernel), _, _, _, rfl, List.mem_append_right _ (List.mem_of_getElem? (i := 1032) (by decide +kernel))⟩
theorem cd_Wo_shift : q_cd m_Wo_shift := ⟨by decide +kernel, List.mem_of_getElem? (i := 12) (by decide +kernel), Or.inl ⟨rfl, List.mem_of_getElem? (i := 1092) (by decide +kernel)⟩⟩
theorem cV_Wo_72 : q_CV "ProofHall$Words" 72 6 m_Wo_shift 4 := ⟨⟨cd_Wo_shift, by decide, by decide, by decide, by decide +kernel⟩, Or.inl (List.mem_of_getElem? (i := 1089) (by decide +kernel)), List.mem_of_getElem? (i := 1091) (by decide +kernel), _, _, _, rfl, by decide +kernel⟩
theorem cd_Wo_sum : q_cd m_Wo_sum := ⟨by decide +kernel, List.mem_of_getElem? (i := 12) (by decide +kernel), Or.inl ⟨rfl, List.mem_of_getElem? (i := 1100) (by decide +kernel)⟩⟩
theorem cV_Wo_76 : q_CV "ProofHall$Words" 76 6 m_Wo_sum 4 := ⟨⟨cd_Wo_sum, by decide, by decide, by decide, by decide +kernel⟩, Or.inl (List.mem_of_getElem? (i := 1097) (by decide +kernel)), List.mem_of_getElem? (i := 1099) (by decide +kernel), _, _, _, rfl, by decide +kernel⟩
theorem cd_Wo_multiply : q_cd m_Wo_multiply := ⟨by decide +kernel, List.mem_of_getElem? (i := 12) (by decide +kernel), Or.inl ⟨rfl, List.mem_of_getElem? (i := 1104) (by decide +kernel)⟩⟩
theorem cV_Wo_79 : q_CV "ProofHall$Words" 79 6 m_Wo_multiply 3 := ⟨⟨cd_Wo_multiply, by decide, by decide, by decide, by decide +kernel⟩, Or.inl (List.mem_of_getElem? (i := 1101) (by decide +kernel)), List.mem_of_getElem? (i := 1103) (by decide +kernel), _, _, _, rfl, by decide +kernel⟩
theorem cd_Wo_divide : q_cd m_Wo_divide := ⟨by decide +kernel, List.mem_of_getElem? (i := 12) (by decide +kernel), Or.inl ⟨rfl, List.mem_of_getElem? (i := 1109) (by decide +kernel)⟩⟩
theorem cV_Wo_82 : q_CV "ProofHall$Words" 82 6 m_Wo_divide 4 := ⟨⟨cd_Wo_divide, by decide, by decide, by decide, by decide +kernel⟩, Or.inl (List.mem_of_getElem? (i := 1106) (by decide +kernel)), List.mem_of_getElem? (i := 1108) (by decide +kernel), _, _, _, rfl, by decide +kernel⟩
theorem cd_Ci_or : q_cd m_Ci_or := ⟨by decide +kernel, List.mem_of_getElem? (i := 13) (by decide +kernel), Or.inl ⟨rfl, List.mem_of_getElem? (i := 1096) (by decide +kernel)⟩⟩
theorem cV_Wo_59 : q_CV "ProofHall$Words" 59 5 m_Ci_or 2 := ⟨⟨cd_Ci_or, by decide, by decide, by decide, by decide +kernel⟩, Or.inl (List.mem_of_getElem? (i := 1093) (by decide +kernel)), List.mem_of_getElem? (i := 1094) (by decide +kernel), _, _, _, rfl, List.mem_append_right _ (List.mem_of_getElem? (i := 1095) (by decide +kernel))⟩
theorem f_Wo_22 : q_FR "ProofHall$Words" 22 6 2 := ⟨"[I", by decide, ⟨_, _, _, rfl, by decide, rfl, Or.inl (List.mem_of_getElem? (i := 403) (by decide +kernel))⟩⟩
theorem cS_Wo_85 : q_CS "ProofHall$Words" 85 m_JA_fill 2 := ⟨⟨cd_JA_fill, by decide, by decide, by decide, by decide +kernel⟩, Or.inl (List.mem_of_getElem? (i := 1105) (by decide +kernel)), List.mem_of_getElem? (i := 992) (by decide +kernel)⟩
theorem f_Wo_25 : q_FR "ProofHall$Words" 25 6 3 := ⟨"[I", by decide, ⟨_, _, _, rfl, by decide, rfl, Or.inl (List.mem_of_getElem? (i := 404) (by decide +kernel))⟩⟩
theorem cd_Wo_same : q_cd m_Wo_same := ⟨by decide +kernel, List.mem_of_getElem? (i := 12) (by decide +kernel), Or.inl ⟨rfl, List.mem_of_getElem? (i := 1117) (by decide +kernel)⟩⟩
theorem cV_Wo_62 : q_CV "ProofHall$Words" 62 6 m_Wo_same 2 := ⟨⟨cd_Wo_same, by decide, by decide, by decide, by decide +kernel⟩, Or.inl (List.mem_of_getElem? (i := 1114) (by decide +kernel)), List.mem_of_getElem? (i := 1116) (by decide +kernel), _, _, _, rfl, by decide +kernel⟩
theorem cd_Wo_below : q_cd m_Wo_below := ⟨by decide +kernel, List.mem_of_getElem? (i := 12) (by decide +kernel), Or.inl ⟨rfl, List.mem_of_getElem? (i := 1121) (by decide +kernel)⟩⟩
theorem cV_Wo_65 : q_CV "ProofHall$Words" 65 6 m_Wo_below 2 := ⟨⟨cd_Wo_below, by decide, by decide, by decide, by decide +kernel⟩, Or.inl (List.mem_of_getElem? (i := 1118) (by decide +kernel)), List.mem_of_getElem? (i := 1120) (by decide +kernel), _, _, _, rfl, by decide +kernel⟩
theorem cd_Wo_bitwise : q_cd m_Wo_bitwise := ⟨by decide +kernel, List.mem_of_getElem? (i := 12) (by decide +kernel), Or.inl ⟨rfl, List.mem_of_getElem? (i := 1125) (by decide +kernel)⟩⟩
theorem cV_Wo_68 : q_CV "ProofHall$Words" 68 6 m_Wo_bitwise 3 := ⟨⟨cd_Wo_bitwise, by decide, by decide, by decide, by decide +kernel⟩, Or.inl (List.mem_of_getElem? (i := 1122) (by decide +kernel)), List.mem_of_getElem? (i := 1124) (by decide +kernel), _, _, _, rfl, by decide +kernel⟩
set_option maxHeartbeats 2000000 in
theorem b_Wo_loadNumber_0 {ω : q_W} {σ : q_H} {Q : q_R → q_H → Prop} {d mc ms : Nat} {x1 : Int} {x2 : Int}  (hE : q_E σ) (h : (J ω m_Wo_loadNumber d mc ms 0 0 2 [(0, .ref 49), (1, .int (zI x1)), (2, .int (zI x2)), (3, .int (zI 0))] [] σ Q)) : J ω m_Wo_loadNumber d mc ms 0 0 0 [(0, .ref 49), (1, .int (zI x1)), (2, .int (zI x2))] [] σ Q := by
  refine j_iconst (v := zI 0) d_Wo_loadNumber_0 (by decide) ?_
  refine j_istore_n (L' := [(3, .int (zI 0)), (0, .ref 49), (1, .int (zI x1)), (2, .int (zI x2))]) d_Wo_loadNumber_1 (by decide) rfl ?_
  exact j_sel [1, 2, 3, 0] rfl h
set_option maxHeartbeats 2000000 in
theorem b_Wo_loadNumber_2 {ω : q_W} {σ : q_H} {Q : q_R → q_H → Prop} {d mc ms : Nat} {x1 : Int} {x2 : Int} {x3 : Int}  (hE : q_E σ) (h : inR x3 ∧ q_imp (x3 ≥ 8) ((Q (.inl none) σ)) ∧ q_imp (x3 < 8) (q_imp ((zAnd (zShr x2 x3) 1) ≠ 1) ((0 ≤ (x1 + x3) ∧ (x1 + x3) < 3200) ∧ (J ω m_Wo_loadNumber d mc ms 0 0 2 [(0, .ref 49), (1, .int (zI x1)), (2, .int (zI x2)), (3, .int (zI (x3 + 1)))] [] (zs σ 58 (x1 + x3).toNat 1) Q)) ∧ q_imp ((zAnd (zShr x2 x3) 1) = 1) ((0 ≤ (x1 + x3) ∧ (x1 + x3) < 3200) ∧ (J ω m_Wo_loadNumber d mc ms 0 0 2 [(0, .ref 49), (1, .int (zI x1)), (2, .int (zI x2)), (3, .int (zI (x3 + 1)))] [] (zs σ 58 (x1 + x3).toNat 0) Q)))) : J ω m_Wo_loadNumber d mc ms 0 0 2 [(0, .ref 49), (1, .int (zI x1)), (2, .int (zI x2)), (3, .int (zI x3))] [] σ Q := by
  refine j_iload_n d_Wo_loadNumber_2 3 rfl ?_
  refine j_bipush (v := zI 8) d_Wo_loadNumber_3 (by decide) ?_
  obtain ⟨r1, h⟩ := h
  obtain ⟨h1, h2⟩ := h
  refine zj_icmp_ge 36 d_Wo_loadNumber_5 (by decide) r1 ⟨by decide, by decide⟩ (fun k2 => ?_) (fun k2 => ?_)
  · have h := h1 k2
    exact j_vret d_Wo_loadNumber_36 rfl (Nat.zero_le _) (Nat.zero_le _) h
  · have h := h2 k2
    refine j_aload_n d_Wo_loadNumber_8 0 rfl ?_
    refine j_getR 58 f_Wo_18 d_Wo_loadNumber_9 (tg_49 hE) (q_okE hE (by decide)) (rf_49_1 hE) (by decide) ?_
    refine j_iload_n d_Wo_loadNumber_12 1 rfl ?_
    refine j_iload_n d_Wo_loadNumber_13 3 rfl ?_
    refine zj_iadd (x1 + x3) rfl d_Wo_loadNumber_14 ?_
    refine j_iload_n d_Wo_loadNumber_15 2 rfl ?_
    refine j_iload_n d_Wo_loadNumber_16 3 rfl ?_
    refine zj_ishr d_Wo_loadNumber_17 ?_
    refine j_iconst (v := zI 1) d_Wo_loadNumber_18 (by decide) ?_
    refine zj_iand d_Wo_loadNumber_19 ?_
    refine j_iconst (v := zI 1) d_Wo_loadNumber_20 (by decide) ?_
    obtain ⟨h1, h2⟩ := h
    refine zj_icmp_ne 28 d_Wo_loadNumber_21 (by decide) (inR_of _) ⟨by decide, by decide⟩ (fun k3 => ?_) (fun k3 => ?_)
    · have h := h1 k3
      refine j_iconst (v := zI 1) d_Wo_loadNumber_28 (by decide) ?_
      obtain ⟨c4, h⟩ := h
      refine zj_iast d_Wo_loadNumber_29 (tg_58 hE) (q_okE hE (by decide)) c4 (by decide) ?_
      refine zj_iinc (L' := [(3, .int (zI (x3 + 1))), (0, .ref 49), (1, .int (zI x1)), (2, .int (zI x2))]) (x3 + 1) d_Wo_loadNumber_30 3 rfl (by omega) (by decide) rfl ?_
      refine j_goto 2 d_Wo_loadNumber_33 (by decide) ?_
      exact j_sel [1, 2, 3, 0] rfl h
    · have h := h2 k3
      refine j_iconst (v := zI 0) d_Wo_loadNumber_24 (by decide) ?_
      refine j_goto 29 d_Wo_loadNumber_25 (by decide) ?_
      obtain ⟨c5, h⟩ := h
      refine zj_iast d_Wo_loadNumber_29 (tg_58 hE) (q_okE hE (by decide)) c5 (by decide) ?_
      refine zj_iinc (L' := [(3, .int (zI (x3 + 1))), (0, .ref 49), (1, .int (zI x1)), (2, .int (zI x2))]) (x3 + 1) d_Wo_loadNumber_30 3 rfl (by omega) (by decide) rfl ?_
      refine j_goto 2 d_Wo_loadNumber_33 (by decide) ?_
      exact j_sel [1, 2, 3, 0] rfl h
set_option maxHeartbeats 2000000 in
theorem b_Wo_load_0 {ω : q_W} {σ : q_H} {Q : q_R → q_H → Prop} {d mc ms : Nat} {x1 : Int} {x3 : Int} {b : Nat} (hb : b = 61 ∨ b = 62) (hE : q_E σ) (h : ((0 : Int) ≤ x3 ∧ (0 : Int) ≤ x1 ∧ (0 : Int) ≤ 8 ∧ (x3 : Int) + 8 ≤ ((96 : Nat) : Int) ∧ (x1 : Int) + 8 ≤ ((3200 : Nat) : Int)) ∧ (Q (.inl none) (zcp σ b x3.toNat 58 x1.toNat 8))) : J ω m_Wo_load (d + 1) mc ms 0 0 0 [(0, .ref 49), (1, .int (zI x1)), (2, .ref b), (3, .int (zI x3))] [] σ Q := by
  refine j_aload_n d_Wo_load_0 2 rfl ?_
  refine j_iload_n d_Wo_load_1 3 rfl ?_
  refine j_aload_n d_Wo_load_2 0 rfl ?_
  refine j_getR 58 f_Wo_18 d_Wo_load_3 (tg_49 hE) (q_okE hE (by decide)) (rf_49_1 hE) (by decide) ?_
  refine j_iload_n d_Wo_load_6 1 rfl ?_
  refine j_bipush (v := zI 8) d_Wo_load_7 (by decide) ?_
  obtain ⟨c1, h⟩ := h
  refine zj_copy (List.mem_of_getElem? (i := 1038) (by decide +kernel)) d_Wo_load_9 (tY_b_0 hE hb) (q_okE hE (by omega)) (tg_58 hE) (q_okE hE (by decide)) c1 (by decide) (by decide) (Nat.succ_le_succ (Nat.zero_le _)) (Nat.le_of_ble_eq_true rfl) ?_
  exact j_vret d_Wo_load_12 rfl (Nat.zero_le _) (Nat.zero_le _) h
set_option maxHeartbeats 2000000 in
theorem b_Wo_choose_0 {ω : q_W} {σ : q_H} {Q : q_R → q_H → Prop} {d mc ms : Nat} {x1 : Int} {x2 : Int} {x3 : Int}  (hE : q_E σ) (h : (J ω m_Wo_truth d 0 0 0 0 0 [(0, .ref 49), (1, .int (zI x1))] [] σ (q_ki (fun v τ => J ω m_Wo_choose (d + 1) mc ms 0 0 5 [(0, .ref 49), (1, .int (zI x1)), (2, .int (zI x2)), (3, .int (zI x3))] [.int (zI v)] τ Q)))) : J ω m_Wo_choose (d + 1) mc ms 0 0 0 [(0, .ref 49), (1, .int (zI x1)), (2, .int (zI x2)), (3, .int (zI x3))] [] σ Q := by
  refine j_aload_n d_Wo_choose_0 0 rfl ?_
  refine j_iload_n d_Wo_choose_1 1 rfl ?_
  refine j_callV m_Wo_truth [.int (zI x1)] [] d 0 0 cV_Wo_45 d_Wo_choose_2 rfl rfl (tg_49 hE) (q_okE hE (by decide)) (Nat.le_of_ble_eq_true rfl) (Nat.le_refl _) (Nat.le_of_ble_eq_true rfl) (Nat.zero_le _) (Nat.zero_le _) h (fun v τ h => ?_) (fun x τ h => ?_)
  · obtain ⟨v, hv, e1, h⟩ := h; cases e1; exact j_sel [0, 1, 2, 3] rfl h
  · obtain ⟨v, hv, e1, h⟩ := h; cases e1
set_option maxHeartbeats 2000000 in
theorem b_Wo_choose_5 {ω : q_W} {σ : q_H} {Q : q_R → q_H → Prop} {d mc ms : Nat} {x1 : Int} {x2 : Int} {x3 : Int} {y0 : Int}  (hE : q_E σ) (h : (J ω m_Wo_choose (d + 1) mc ms 0 0 10 [(0, .ref 49), (1, .int (zI x1)), (2, .int (zI x2)), (3, .int (zI x3)), (4, .int (zI y0)), (5, .int (zI 0))] [] σ Q)) : J ω m_Wo_choose (d + 1) mc ms 0 0 5 [(0, .ref 49), (1, .int (zI x1)), (2, .int (zI x2)), (3, .int (zI x3))] [.int (zI y0)] σ Q := by
  refine j_istore (L' := [(4, .int (zI y0)), (0, .ref 49), (1, .int (zI x1)), (2, .int (zI x2)), (3, .int (zI x3))]) d_Wo_choose_5 (by decide) rfl ?_
  refine j_iconst (v := zI 0) d_Wo_choose_7 (by decide) ?_
  refine j_istore (L' := [(5, .int (zI 0)), (4, .int (zI y0)), (0, .ref 49), (1, .int (zI x1)), (2, .int (zI x2)), (3, .int (zI x3))]) d_Wo_choose_8 (by decide) rfl ?_
  exact j_sel [2, 3, 4, 5, 1, 0] rfl h
set_option maxHeartbeats 2000000 in
theorem b_Wo_choose_10 {ω : q_W} {σ : q_H} {Q : q_R → q_H → Prop} {d mc ms : Nat} {x1 : Int} {x2 : Int} {x3 : Int} {x4 : Int} {x5 : Int}  (hE : q_E σ) (h : inR x5 ∧ q_imp (x5 ≥ 8) ((Q (.inl none) σ)) ∧ q_imp (x5 < 8) ((0 ≤ (x2 + x5) ∧ (x2 + x5) < 3200) ∧ (0 ≤ (x3 + x5) ∧ (x3 + x5) < 3200) ∧ (J ω m_Ci_pick d 0 0 0 0 0 [(0, .ref 50), (1, .int (zI x4)), (2, .int (zI (z σ 58 (x2 + x5).toNat))), (3, .int (zI (z σ 58 (x3 + x5).toNat)))] [] σ (q_ki (fun v τ => J ω m_Wo_choose (d + 1) mc ms 0 0 52 [(0, .ref 49), (1, .int (zI x1)), (2, .int (zI x2)), (3, .int (zI x3)), (4, .int (zI x4)), (5, .int (zI x5))] [.int (zI v), .int (zI (x1 + x5)), .ref 58] τ Q))))) : J ω m_Wo_choose (d + 1) mc ms 0 0 10 [(0, .ref 49), (1, .int (zI x1)), (2, .int (zI x2)), (3, .int (zI x3)), (4, .int (zI x4)), (5, .int (zI x5))] [] σ Q := by
  refine j_iload d_Wo_choose_10 5 rfl ?_
  refine j_bipush (v := zI 8) d_Wo_choose_12 (by decide) ?_
  obtain ⟨r1, h⟩ := h
  obtain ⟨h1, h2⟩ := h
  refine zj_icmp_ge 59 d_Wo_choose_14 (by decide) r1 ⟨by decide, by decide⟩ (fun k2 => ?_) (fun k2 => ?_)
  · have h := h1 k2
    exact j_vret d_Wo_choose_59 rfl (Nat.zero_le _) (Nat.zero_le _) h
  · have h := h2 k2
    refine j_aload_n d_Wo_choose_17 0 rfl ?_
    refine j_getR 58 f_Wo_18 d_Wo_choose_18 (tg_49 hE) (q_okE hE (by decide)) (rf_49_1 hE) (by decide) ?_
    refine j_iload_n d_Wo_choose_21 1 rfl ?_
    refine j_iload d_Wo_choose_22 5 rfl ?_
    refine zj_iadd (x1 + x5) rfl d_Wo_choose_24 ?_
    refine j_aload_n d_Wo_choose_25 0 rfl ?_
    refine j_getR 50 f_Wo_12 d_Wo_choose_26 (tg_49 hE) (q_okE hE (by decide)) (rf_49_0 hE) (by decide) ?_
    refine j_iload d_Wo_choose_29 4 rfl ?_
    refine j_aload_n d_Wo_choose_31 0 rfl ?_
    refine j_getR 58 f_Wo_18 d_Wo_choose_32 (tg_49 hE) (q_okE hE (by decide)) (rf_49_1 hE) (by decide) ?_
    refine j_iload_n d_Wo_choose_35 2 rfl ?_
    refine j_iload d_Wo_choose_36 5 rfl ?_
    refine zj_iadd (x2 + x5) rfl d_Wo_choose_38 ?_
    obtain ⟨c3, h⟩ := h
    refine zj_iald (z σ 58 (x2 + x5).toNat) d_Wo_choose_39 (tg_58 hE) (q_okE hE (by decide)) c3 (by decide) (q_z _ _ _) ?_
    refine j_aload_n d_Wo_choose_40 0 rfl ?_
    refine j_getR 58 f_Wo_18 d_Wo_choose_41 (tg_49 hE) (q_okE hE (by decide)) (rf_49_1 hE) (by decide) ?_
    refine j_iload_n d_Wo_choose_44 3 rfl ?_
    refine j_iload d_Wo_choose_45 5 rfl ?_
    refine zj_iadd (x3 + x5) rfl d_Wo_choose_47 ?_
    obtain ⟨c4, h⟩ := h
    refine zj_iald (z σ 58 (x3 + x5).toNat) d_Wo_choose_48 (tg_58 hE) (q_okE hE (by decide)) c4 (by decide) (q_z _ _ _) ?_
    refine j_callV m_Ci_pick [.int (zI x4), .int (zI (z σ 58 (x2 + x5).toNat)), .int (zI (z σ 58 (x3 + x5).toNat))] [.int (zI (x1 + x5)), .ref 58] d 0 0 cV_Wo_55 d_Wo_choose_49 rfl rfl (tg_50 hE) (q_okE hE (by decide)) (Nat.le_of_ble_eq_true rfl) (Nat.le_refl _) (Nat.le_of_ble_eq_true rfl) (Nat.zero_le _) (Nat.zero_le _) h (fun v τ h => ?_) (fun x τ h => ?_)
    · obtain ⟨v, hv, e1, h⟩ := h; cases e1; exact j_sel [0, 1, 2, 3, 4, 5] rfl h
    · obtain ⟨v, hv, e1, h⟩ := h; cases e1
set_option maxHeartbeats 2000000 in
theorem b_Wo_choose_52 {ω : q_W} {σ : q_H} {Q : q_R → q_H → Prop} {d mc ms : Nat} {x1 : Int} {x2 : Int} {x3 : Int} {x4 : Int} {x5 : Int} {y0 : Int} {y1 : Int}  (hE : q_E σ) (h : (0 ≤ y1 ∧ y1 < 3200) ∧ (J ω m_Wo_choose (d + 1) mc ms 0 0 10 [(0, .ref 49), (1, .int (zI x1)), (2, .int (zI x2)), (3, .int (zI x3)), (4, .int (zI x4)), (5, .int (zI (x5 + 1)))] [] (zs σ 58 y1.toNat y0) Q)) : J ω m_Wo_choose (d + 1) mc ms 0 0 52 [(0, .ref 49), (1, .int (zI x1)), (2, .int (zI x2)), (3, .int (zI x3)), (4, .int (zI x4)), (5, .int (zI x5))] [.int (zI y0), .int (zI y1), .ref 58] σ Q := by
  obtain ⟨c5, h⟩ := h
  refine zj_iast d_Wo_choose_52 (tg_58 hE) (q_okE hE (by decide)) c5 (by decide) ?_
  refine zj_iinc (L' := [(5, .int (zI (x5 + 1))), (0, .ref 49), (1, .int (zI x1)), (2, .int (zI x2)), (3, .int (zI x3)), (4, .int (zI x4))]) (x5 + 1) d_Wo_choose_53 5 rfl (by omega) (by decide) rfl ?_
  refine j_goto 10 d_Wo_choose_56 (by decide) ?_
  exact j_sel [1, 2, 3, 4, 5, 0] rfl h
set_option maxHeartbeats 2000000 in
theorem b_Wo_truth_0 {ω : q_W} {σ : q_H} {Q : q_R → q_H → Prop} {d mc ms : Nat} {x1 : Int}  (hE : q_E σ) (h : (J ω m_Wo_none d 0 0 0 0 0 [(0, .ref 49), (1, .int (zI x1)), (2, .int (zI 8))] [] σ (q_ki (fun v τ => J ω m_Wo_truth (d + 1) mc ms 0 0 7 [] [.int (zI v)] τ Q)))) : J ω m_Wo_truth (d + 1) mc ms 0 0 0 [(0, .ref 49), (1, .int (zI x1))] [] σ Q := by
  refine j_aload_n d_Wo_truth_0 0 rfl ?_
  refine j_iload_n d_Wo_truth_1 1 rfl ?_
  refine j_bipush (v := zI 8) d_Wo_truth_2 (by decide) ?_
  refine j_callV m_Wo_none [.int (zI x1), .int (zI 8)] [] d 0 0 cV_Wo_38 d_Wo_truth_4 rfl rfl (tg_49 hE) (q_okE hE (by decide)) (Nat.le_of_ble_eq_true rfl) (Nat.le_refl _) (Nat.le_of_ble_eq_true rfl) (Nat.zero_le _) (Nat.zero_le _) h (fun v τ h => ?_) (fun x τ h => ?_)
  · obtain ⟨v, hv, e1, h⟩ := h; cases e1; exact j_sel [] rfl h
  · obtain ⟨v, hv, e1, h⟩ := h; cases e1
set_option maxHeartbeats 2000000 in
theorem b_Wo_truth_7 {ω : q_W} {σ : q_H} {Q : q_R → q_H → Prop} {d mc ms : Nat} {y0 : Int}  (hE : q_E σ) (h : (Q (.inl (some (.int (zI (zXor y0 1))))) σ)) : J ω m_Wo_truth (d + 1) mc ms 0 0 7 [] [.int (zI y0)] σ Q := by
  refine j_iconst (v := zI 1) d_Wo_truth_7 (by decide) ?_
  refine zj_ixor d_Wo_truth_8 ?_
  exact zj_iret d_Wo_truth_9 rfl (Nat.zero_le _) (Nat.zero_le _) h
set_option maxHeartbeats 2000000 in
theorem b_Wo_none_0 {ω : q_W} {σ : q_H} {Q : q_R → q_H → Prop} {d mc ms : Nat} {x1 : Int} {x2 : Int}  (hE : q_E σ) (h : (J ω m_Wo_none (d + 1) mc ms 0 0 7 [(0, .ref 49), (1, .int (zI x1)), (3, .int (zI 0)), (4, .int (zI (x2 - 1)))] [] σ Q)) : J ω m_Wo_none (d + 1) mc ms 0 0 0 [(0, .ref 49), (1, .int (zI x1)), (2, .int (zI x2))] [] σ Q := by
  refine j_iconst (v := zI 0) d_Wo_none_0 (by decide) ?_
  refine j_istore_n (L' := [(3, .int (zI 0)), (0, .ref 49), (1, .int (zI x1)), (2, .int (zI x2))]) d_Wo_none_1 (by decide) rfl ?_
  refine j_iload_n d_Wo_none_2 3 rfl ?_
  refine j_iconst (v := zI 1) d_Wo_none_3 (by decide) ?_
  refine zj_isub (x2 - 1) (by omega) d_Wo_none_4 ?_
  refine j_istore (L' := [(4, .int (zI (x2 - 1))), (3, .int (zI 0)), (0, .ref 49), (1, .int (zI x1)), (2, .int (zI x2))]) d_Wo_none_5 (by decide) rfl ?_
  exact j_sel [2, 3, 1, 0] rfl h
set_option maxHeartbeats 2000000 in
theorem b_Wo_none_7 {ω : q_W} {σ : q_H} {Q : q_R → q_H → Prop} {d mc ms : Nat} {x1 : Int} {x3 : Int} {x4 : Int}  (hE : q_E σ) (h : inR x4 ∧ q_imp (x4 < 0) ((Q (.inl (some (.int (zI x3)))) σ)) ∧ q_imp (0 ≤ x4) ((0 ≤ (x1 + x4) ∧ (x1 + x4) < 3200) ∧ (J ω m_Ci_and d 0 0 0 0 0 [(0, .ref 50), (1, .int (zI x3)), (2, .int (zI (zXor (z σ 58 (x1 + x4).toNat) 1)))] [] σ (q_ki (fun v τ => J ω m_Wo_none (d + 1) mc ms 0 0 31 [(0, .ref 49), (1, .int (zI x1)), (4, .int (zI x4))] [.int (zI v)] τ Q))))) : J ω m_Wo_none (d + 1) mc ms 0 0 7 [(0, .ref 49), (1, .int (zI x1)), (3, .int (zI x3)), (4, .int (zI x4))] [] σ Q := by
  refine j_iload d_Wo_none_7 3 rfl ?_
  obtain ⟨r1, h⟩ := h
  obtain ⟨h1, h2⟩ := h
  refine zj_if_lt 38 d_Wo_none_9 (by decide) r1 (fun k2 => ?_) (fun k2 => ?_)
  · have h := h1 k2
    refine j_iload_n d_Wo_none_38 2 rfl ?_
    exact zj_iret d_Wo_none_39 rfl (Nat.zero_le _) (Nat.zero_le _) h
  · have h := h2 k2
    refine j_aload_n d_Wo_none_12 0 rfl ?_
    refine j_getR 50 f_Wo_12 d_Wo_none_13 (tg_49 hE) (q_okE hE (by decide)) (rf_49_0 hE) (by decide) ?_
    refine j_iload_n d_Wo_none_16 2 rfl ?_
    refine j_aload_n d_Wo_none_17 0 rfl ?_
    refine j_getR 58 f_Wo_18 d_Wo_none_18 (tg_49 hE) (q_okE hE (by decide)) (rf_49_1 hE) (by decide) ?_
    refine j_iload_n d_Wo_none_21 1 rfl ?_
    refine j_iload d_Wo_none_22 3 rfl ?_
    refine zj_iadd (x1 + x4) rfl d_Wo_none_24 ?_
    obtain ⟨c3, h⟩ := h
    refine zj_iald (z σ 58 (x1 + x4).toNat) d_Wo_none_25 (tg_58 hE) (q_okE hE (by decide)) c3 (by decide) (q_z _ _ _) ?_
    refine j_iconst (v := zI 1) d_Wo_none_26 (by decide) ?_
    refine zj_ixor d_Wo_none_27 ?_
    refine j_callV m_Ci_and [.int (zI x3), .int (zI (zXor (z σ 58 (x1 + x4).toNat) 1))] [] d 0 0 cV_Wo_42 d_Wo_none_28 rfl rfl (tg_50 hE) (q_okE hE (by decide)) (Nat.le_of_ble_eq_true rfl) (Nat.le_refl _) (Nat.le_of_ble_eq_true rfl) (Nat.zero_le _) (Nat.zero_le _) h (fun v τ h => ?_) (fun x τ h => ?_)
    · obtain ⟨v, hv, e1, h⟩ := h; cases e1; exact j_sel [0, 1, 3] rfl h
    · obtain ⟨v, hv, e1, h⟩ := h; cases e1
set_option maxHeartbeats 2000000 in
theorem b_Wo_none_31 {ω : q_W} {σ : q_H} {Q : q_R → q_H → Prop} {d mc ms : Nat} {x1 : Int} {x4 : Int} {y0 : Int}  (hE : q_E σ) (h : (J ω m_Wo_none (d + 1) mc ms 0 0 7 [(0, .ref 49), (1, .int (zI x1)), (3, .int (zI y0)), (4, .int (zI (x4 - 1)))] [] σ Q)) : J ω m_Wo_none (d + 1) mc ms 0 0 31 [(0, .ref 49), (1, .int (zI x1)), (4, .int (zI x4))] [.int (zI y0)] σ Q := by
  refine j_istore_n (L' := [(3, .int (zI y0)), (0, .ref 49), (1, .int (zI x1)), (4, .int (zI x4))]) d_Wo_none_31 (by decide) rfl ?_
  refine zj_iinc (L' := [(4, .int (zI (x4 - 1))), (3, .int (zI y0)), (0, .ref 49), (1, .int (zI x1))]) (x4 - 1) d_Wo_none_32 3 rfl (by omega) (by decide) rfl ?_
  refine j_goto 7 d_Wo_none_35 (by decide) ?_
  exact j_sel [2, 3, 1, 0] rfl h
set_option maxHeartbeats 2000000 in
theorem b_Wo_single_0 {ω : q_W} {σ : q_H} {Q : q_R → q_H → Prop} {d mc ms : Nat} {x1 : Int} {x2 : Int} {x3 : Int}  (hE : q_E σ) (h : inR x1 ∧ q_imp (x1 ≠ 19) (q_imp (x1 ≠ 21) ((J ω m_Wo_single (d + 1) mc ms 0 0 35 [(0, .ref 49), (2, .int (zI x2)), (3, .int (zI x3)), (4, .int (zI 1)), (5, .int (zI 0))] [] σ Q)) ∧ q_imp (x1 = 21) ((J ω m_Wo_single (d + 1) mc ms 0 0 35 [(0, .ref 49), (2, .int (zI x2)), (3, .int (zI x3)), (4, .int (zI 0)), (5, .int (zI 0))] [] σ Q))) ∧ q_imp (x1 = 19) ((J ω m_Wo_truth d 0 0 0 0 0 [(0, .ref 49), (1, .int (zI x2))] [] σ (q_ki (fun v τ => J ω m_Wo_single (d + 1) mc ms 0 0 13 [] [.int (zI v), .int (zI x2), .ref 49] τ Q))))) : J ω m_Wo_single (d + 1) mc ms 0 0 0 [(0, .ref 49), (1, .int (zI x1)), (2, .int (zI x2)), (3, .int (zI x3))] [] σ Q := by
  refine j_iload_n d_Wo_single_0 1 rfl ?_
  refine j_bipush (v := zI 19) d_Wo_single_1 (by decide) ?_
  obtain ⟨r1, h⟩ := h
  obtain ⟨h1, h2⟩ := h
  refine zj_icmp_ne 19 d_Wo_single_3 (by decide) r1 ⟨by decide, by decide⟩ (fun k2 => ?_) (fun k2 => ?_)
  · have h := h1 k2
    refine j_iload_n d_Wo_single_19 1 rfl ?_
    refine j_bipush (v := zI 21) d_Wo_single_20 (by decide) ?_
    obtain ⟨h1, h2⟩ := h
    refine zj_icmp_ne 29 d_Wo_single_22 (by decide) r1 ⟨by decide, by decide⟩ (fun k3 => ?_) (fun k3 => ?_)
    · have h := h1 k3
      refine j_iconst (v := zI 1) d_Wo_single_29 (by decide) ?_
      refine j_istore (L' := [(4, .int (zI 1)), (0, .ref 49), (1, .int (zI x1)), (2, .int (zI x2)), (3, .int (zI x3))]) d_Wo_single_30 (by decide) rfl ?_
      refine j_iconst (v := zI 0) d_Wo_single_32 (by decide) ?_
      refine j_istore (L' := [(5, .int (zI 0)), (4, .int (zI 1)), (0, .ref 49), (1, .int (zI x1)), (2, .int (zI x2)), (3, .int (zI x3))]) d_Wo_single_33 (by decide) rfl ?_
      exact j_sel [2, 4, 5, 1, 0] rfl h
    · have h := h2 k3
      refine j_iconst (v := zI 0) d_Wo_single_25 (by decide) ?_
      refine j_goto 30 d_Wo_single_26 (by decide) ?_
      refine j_istore (L' := [(4, .int (zI 0)), (0, .ref 49), (1, .int (zI x1)), (2, .int (zI x2)), (3, .int (zI x3))]) d_Wo_single_30 (by decide) rfl ?_
      refine j_iconst (v := zI 0) d_Wo_single_32 (by decide) ?_
      refine j_istore (L' := [(5, .int (zI 0)), (4, .int (zI 0)), (0, .ref 49), (1, .int (zI x1)), (2, .int (zI x2)), (3, .int (zI x3))]) d_Wo_single_33 (by decide) rfl ?_
      exact j_sel [2, 4, 5, 1, 0] rfl h
  · have h := h2 k2
    refine j_aload_n d_Wo_single_6 0 rfl ?_
    refine j_iload_n d_Wo_single_7 2 rfl ?_
    refine j_aload_n d_Wo_single_8 0 rfl ?_
    refine j_iload_n d_Wo_single_9 2 rfl ?_
    refine j_callV m_Wo_truth [.int (zI x2)] [.int (zI x2), .ref 49] d 0 0 cV_Wo_45 d_Wo_single_10 rfl rfl (tg_49 hE) (q_okE hE (by decide)) (Nat.le_of_ble_eq_true rfl) (Nat.le_refl _) (Nat.le_of_ble_eq_true rfl) (Nat.zero_le _) (Nat.zero_le _) h (fun v τ h => ?_) (fun x τ h => ?_)
    · obtain ⟨v, hv, e1, h⟩ := h; cases e1; exact j_sel [] rfl h
    · obtain ⟨v, hv, e1, h⟩ := h; cases e1
set_option maxHeartbeats 2000000 in
theorem b_Wo_single_35 {ω : q_W} {σ : q_H} {Q : q_R → q_H → Prop} {d mc ms : Nat} {x2 : Int} {x3 : Int} {x4 : Int} {x5 : Int}  (hE : q_E σ) (h : inR x5 ∧ inR x3 ∧ q_imp (x5 ≥ x3) ((Q (.inl none) σ)) ∧ q_imp (x5 < x3) ((0 ≤ (x2 + x5) ∧ (x2 + x5) < 3200) ∧ (J ω m_Ci_xor d 0 0 0 0 0 [(0, .ref 50), (1, .int (zI (zXor (z σ 58 (x2 + x5).toNat) 1))), (2, .int (zI x4))] [] σ (q_ki (fun v τ => J ω m_Wo_single (d + 1) mc ms 0 0 73 [(0, .ref 49), (2, .int (zI x2)), (3, .int (zI x3)), (4, .int (zI x4)), (5, .int (zI x5)), (6, .int (zI (zXor (z σ 58 (x2 + x5).toNat) 1)))] [.int (zI v), .int (zI (x2 + x5)), .ref 58] τ Q))))) : J ω m_Wo_single (d + 1) mc ms 0 0 35 [(0, .ref 49), (2, .int (zI x2)), (3, .int (zI x3)), (4, .int (zI x4)), (5, .int (zI x5))] [] σ Q := by
  refine j_iload d_Wo_single_35 4 rfl ?_
  refine j_iload_n d_Wo_single_37 2 rfl ?_
  obtain ⟨r4, h⟩ := h
  obtain ⟨r5, h⟩ := h
  obtain ⟨h1, h2⟩ := h
  refine zj_icmp_ge 93 d_Wo_single_38 (by decide) r4 r5 (fun k6 => ?_) (fun k6 => ?_)
  · have h := h1 k6
    exact j_vret d_Wo_single_93 rfl (Nat.zero_le _) (Nat.zero_le _) h
  · have h := h2 k6
    refine j_aload_n d_Wo_single_41 0 rfl ?_
    refine j_getR 58 f_Wo_18 d_Wo_single_42 (tg_49 hE) (q_okE hE (by decide)) (rf_49_1 hE) (by decide) ?_
    refine j_iload_n d_Wo_single_45 1 rfl ?_
    refine j_iload d_Wo_single_46 4 rfl ?_
    refine zj_iadd (x2 + x5) rfl d_Wo_single_48 ?_
    obtain ⟨c7, h⟩ := h
    refine zj_iald (z σ 58 (x2 + x5).toNat) d_Wo_single_49 (tg_58 hE) (q_okE hE (by decide)) c7 (by decide) (q_z _ _ _) ?_
    refine j_iconst (v := zI 1) d_Wo_single_50 (by decide) ?_
    refine zj_ixor d_Wo_single_51 ?_
    refine j_istore (L' := [(6, .int (zI (zXor (z σ 58 (x2 + x5).toNat) 1))), (0, .ref 49), (2, .int (zI x2)), (3, .int (zI x3)), (4, .int (zI x4)), (5, .int (zI x5))]) d_Wo_single_52 (by decide) rfl ?_
    refine j_aload_n d_Wo_single_54 1 rfl ?_
    refine j_getR 58 f_Wo_18 d_Wo_single_55 (tg_49 hE) (q_okE hE (by decide)) (rf_49_1 hE) (by decide) ?_
    refine j_iload_n d_Wo_single_58 2 rfl ?_
    refine j_iload d_Wo_single_59 5 rfl ?_
    refine zj_iadd (x2 + x5) rfl d_Wo_single_61 ?_
    refine j_aload_n d_Wo_single_62 1 rfl ?_
    refine j_getR 50 f_Wo_12 d_Wo_single_63 (tg_49 hE) (q_okE hE (by decide)) (rf_49_0 hE) (by decide) ?_
    refine j_iload d_Wo_single_66 0 rfl ?_
    refine j_iload d_Wo_single_68 4 rfl ?_
    refine j_callV m_Ci_xor [.int (zI (zXor (z σ 58 (x2 + x5).toNat) 1)), .int (zI x4)] [.int (zI (x2 + x5)), .ref 58] d 0 0 cV_Wo_52 d_Wo_single_70 rfl rfl (tg_50 hE) (q_okE hE (by decide)) (Nat.le_of_ble_eq_true rfl) (Nat.le_refl _) (Nat.le_of_ble_eq_true rfl) (Nat.zero_le _) (Nat.zero_le _) h (fun v τ h => ?_) (fun x τ h => ?_)
    · obtain ⟨v, hv, e1, h⟩ := h; cases e1; exact j_sel [1, 2, 3, 4, 5, 0] rfl h
    · obtain ⟨v, hv, e1, h⟩ := h; cases e1
set_option maxHeartbeats 2000000 in
theorem b_Wo_single_13 {ω : q_W} {σ : q_H} {Q : q_R → q_H → Prop} {d mc ms : Nat} {y0 : Int} {y1 : Int}  (hE : q_E σ) (h : (J ω m_Wo_leave d 0 0 0 0 0 [(0, .ref 49), (1, .int (zI y1)), (2, .int (zI (zXor y0 1)))] [] σ (q_kv (fun τ => J ω m_Wo_single (d + 1) mc ms 0 0 18 [] [] τ Q)))) : J ω m_Wo_single (d + 1) mc ms 0 0 13 [] [.int (zI y0), .int (zI y1), .ref 49] σ Q := by
  refine j_iconst (v := zI 1) d_Wo_single_13 (by decide) ?_
  refine zj_ixor d_Wo_single_14 ?_
  refine j_callV m_Wo_leave [.int (zI y1), .int (zI (zXor y0 1))] [] d 0 0 cV_Wo_49 d_Wo_single_15 rfl rfl (tg_49 hE) (q_okE hE (by decide)) (Nat.le_of_ble_eq_true rfl) (Nat.le_refl _) (Nat.le_of_ble_eq_true rfl) (Nat.zero_le _) (Nat.zero_le _) h (fun v τ h => ?_) (fun x τ h => ?_)
  · obtain ⟨e1, h⟩ := h; cases e1; exact j_sel [] rfl h
  · obtain ⟨e1, h⟩ := h; cases e1
set_option maxHeartbeats 2000000 in
theorem b_Wo_single_73 {ω : q_W} {σ : q_H} {Q : q_R → q_H → Prop} {d mc ms : Nat} {x2 : Int} {x3 : Int} {x4 : Int} {x5 : Int} {x6 : Int} {y0 : Int} {y1 : Int}  (hE : q_E σ) (h : (0 ≤ y1 ∧ y1 < 3200) ∧ (J ω m_Ci_and d 0 0 0 0 0 [(0, .ref 50), (1, .int (zI x6)), (2, .int (zI x4))] [] (zs σ 58 y1.toNat y0) (q_ki (fun v τ => J ω m_Wo_single (d + 1) mc ms 0 0 85 [(0, .ref 49), (2, .int (zI x2)), (3, .int (zI x3)), (5, .int (zI x5))] [.int (zI v)] τ Q)))) : J ω m_Wo_single (d + 1) mc ms 0 0 73 [(0, .ref 49), (2, .int (zI x2)), (3, .int (zI x3)), (4, .int (zI x4)), (5, .int (zI x5)), (6, .int (zI x6))] [.int (zI y0), .int (zI y1), .ref 58] σ Q := by
  obtain ⟨c8, h⟩ := h
  refine zj_iast d_Wo_single_73 (tg_58 hE) (q_okE hE (by decide)) c8 (by decide) ?_
  refine j_aload_n d_Wo_single_74 0 rfl ?_
  refine j_getR 50 f_Wo_12 d_Wo_single_75 (tg_49 (zs_E hE)) (q_okE (zs_E hE) (by decide)) (rf_49_0 (zs_E hE)) (by decide) ?_
  refine j_iload d_Wo_single_78 5 rfl ?_
  refine j_iload d_Wo_single_80 3 rfl ?_
  refine j_callV m_Ci_and [.int (zI x6), .int (zI x4)] [] d 0 0 cV_Wo_42 d_Wo_single_82 rfl rfl (tg_50 (zs_E hE)) (q_okE (zs_E hE) (by decide)) (Nat.le_of_ble_eq_true rfl) (Nat.le_refl _) (Nat.le_of_ble_eq_true rfl) (Nat.zero_le _) (Nat.zero_le _) h (fun v τ h => ?_) (fun x τ h => ?_)
  · obtain ⟨v, hv, e1, h⟩ := h; cases e1; exact j_sel [0, 1, 2, 4] rfl h
  · obtain ⟨v, hv, e1, h⟩ := h; cases e1
set_option maxHeartbeats 2000000 in
theorem b_Wo_single_18 {ω : q_W} {σ : q_H} {Q : q_R → q_H → Prop} {d mc ms : Nat}   (hE : q_E σ) (h : (Q (.inl none) σ)) : J ω m_Wo_single (d + 1) mc ms 0 0 18 [] [] σ Q := by
  exact j_vret d_Wo_single_18 rfl (Nat.zero_le _) (Nat.zero_le _) h
set_option maxHeartbeats 2000000 in
theorem b_Wo_single_85 {ω : q_W} {σ : q_H} {Q : q_R → q_H → Prop} {d mc ms : Nat} {x2 : Int} {x3 : Int} {x5 : Int} {y0 : Int}  (hE : q_E σ) (h : (J ω m_Wo_single (d + 1) mc ms 0 0 35 [(0, .ref 49), (2, .int (zI x2)), (3, .int (zI x3)), (4, .int (zI y0)), (5, .int (zI (x5 + 1)))] [] σ Q)) : J ω m_Wo_single (d + 1) mc ms 0 0 85 [(0, .ref 49), (2, .int (zI x2)), (3, .int (zI x3)), (5, .int (zI x5))] [.int (zI y0)] σ Q := by
  refine j_istore (L' := [(4, .int (zI y0)), (0, .ref 49), (2, .int (zI x2)), (3, .int (zI x3)), (5, .int (zI x5))]) d_Wo_single_85 (by decide) rfl ?_
  refine zj_iinc (L' := [(5, .int (zI (x5 + 1))), (4, .int (zI y0)), (0, .ref 49), (2, .int (zI x2)), (3, .int (zI x3))]) (x5 + 1) d_Wo_single_87 4 rfl (by omega) (by decide) rfl ?_
  refine j_goto 35 d_Wo_single_90 (by decide) ?_
  exact j_sel [2, 3, 4, 1, 0] rfl h
set_option maxHeartbeats 2000000 in
theorem b_Wo_leave_0 {ω : q_W} {σ : q_H} {Q : q_R → q_H → Prop} {d mc ms : Nat} {x1 : Int} {x2 : Int}  (hE : q_E σ) (h : (J ω m_Wo_loadNumber d 0 0 0 0 0 [(0, .ref 49), (1, .int (zI x1)), (2, .int (zI 0))] [] σ (q_kv (fun τ => J ω m_Wo_leave (d + 1) mc ms 0 0 6 [(0, .ref 49), (1, .int (zI x1)), (2, .int (zI x2))] [] τ Q)))) : J ω m_Wo_leave (d + 1) mc ms 0 0 0 [(0, .ref 49), (1, .int (zI x1)), (2, .int (zI x2))] [] σ Q := by
  refine j_aload_n d_Wo_leave_0 0 rfl ?_
  refine j_iload_n d_Wo_leave_1 1 rfl ?_
  refine j_iconst (v := zI 0) d_Wo_leave_2 (by decide) ?_
  refine j_callV m_Wo_loadNumber [.int (zI x1), .int (zI 0)] [] d 0 0 cV_Wo_34 d_Wo_leave_3 rfl rfl (tg_49 hE) (q_okE hE (by decide)) (Nat.le_of_ble_eq_true rfl) (Nat.le_refl _) (Nat.le_of_ble_eq_true rfl) (Nat.zero_le _) (Nat.zero_le _) h (fun v τ h => ?_) (fun x τ h => ?_)
  · obtain ⟨e1, h⟩ := h; cases e1; exact j_sel [0, 1, 2] rfl h
  · obtain ⟨e1, h⟩ := h; cases e1
set_option maxHeartbeats 2000000 in
theorem b_Wo_leave_6 {ω : q_W} {σ : q_H} {Q : q_R → q_H → Prop} {d mc ms : Nat} {x1 : Int} {x2 : Int}  (hE : q_E σ) (h : (0 ≤ x1 ∧ x1 < 3200) ∧ (Q (.inl none) (zs σ 58 x1.toNat x2))) : J ω m_Wo_leave (d + 1) mc ms 0 0 6 [(0, .ref 49), (1, .int (zI x1)), (2, .int (zI x2))] [] σ Q := by
  refine j_aload_n d_Wo_leave_6 0 rfl ?_
  refine j_getR 58 f_Wo_18 d_Wo_leave_7 (tg_49 hE) (q_okE hE (by decide)) (rf_49_1 hE) (by decide) ?_
  refine j_iload_n d_Wo_leave_10 1 rfl ?_
  refine j_iload_n d_Wo_leave_11 2 rfl ?_
  obtain ⟨c1, h⟩ := h
  refine zj_iast d_Wo_leave_12 (tg_58 hE) (q_okE hE (by decide)) c1 (by decide) ?_
  exact j_vret d_Wo_leave_13 rfl (Nat.zero_le _) (Nat.zero_le _) h
theorem o_Wo_arithmetic_1 {x : Int} (cs12 : ¬ x = 12) (cs13 : ¬ x = 13) (cs14 : ¬ x = 14) (cs15 : ¬ x = 15) (cs16 : ¬ x = 16) : x < 12 ∨ 16 < x := by omega
set_option maxHeartbeats 2000000 in
theorem b_Wo_arithmetic_0 {ω : q_W} {σ : q_H} {Q : q_R → q_H → Prop} {d mc ms : Nat} {x1 : Int} {x2 : Int} {x3 : Int} {x4 : Int}  (hE : q_E σ) (h : inR x1 ∧ q_imp (x1 = 12 ∨ x1 = 13) ((J ω m_Wo_shift d 0 0 0 0 0 [(0, .ref 49), (1, .int (zI x1)), (2, .int (zI x2)), (3, .int (zI x3)), (4, .int (zI x4))] [] σ (q_kv (fun τ => J ω m_Wo_arithmetic (d + 1) mc ms 0 0 45 [] [] τ Q)))) ∧ q_imp (x1 = 14) ((J ω m_Wo_sum d 0 0 0 0 0 [(0, .ref 49), (1, .int (zI x2)), (2, .int (zI x3)), (3, .int (zI x4)), (4, .int (zI 1))] [] σ (q_kv (fun τ => J ω m_Wo_arithmetic (d + 1) mc ms 0 0 57 [] [] τ Q)))) ∧ q_imp (x1 = 15) ((J ω m_Wo_sum d 0 0 0 0 0 [(0, .ref 49), (1, .int (zI x2)), (2, .int (zI x3)), (3, .int (zI x4)), (4, .int (zI 0))] [] σ (q_kv (fun τ => J ω m_Wo_arithmetic (d + 1) mc ms 0 0 69 [] [] τ Q)))) ∧ q_imp (x1 = 16) ((J ω m_Wo_multiply d 0 0 0 0 0 [(0, .ref 49), (1, .int (zI x2)), (2, .int (zI x3)), (3, .int (zI x4))] [] σ (q_kv (fun τ => J ω m_Wo_arithmetic (d + 1) mc ms 0 0 80 [] [] τ Q)))) ∧ q_imp (x1 ≠ 12 ∧ x1 ≠ 13 ∧ x1 ≠ 14 ∧ x1 ≠ 15 ∧ x1 ≠ 16) ((J ω m_Wo_divide d 0 0 0 0 0 [(0, .ref 49), (1, .int (zI x1)), (2, .int (zI x2)), (3, .int (zI x3)), (4, .int (zI x4))] [] σ (q_kv (fun τ => J ω m_Wo_arithmetic (d + 1) mc ms 0 0 92 [] [] τ Q))))) : J ω m_Wo_arithmetic (d + 1) mc ms 0 0 0 [(0, .ref 49), (1, .int (zI x1)), (2, .int (zI x2)), (3, .int (zI x3)), (4, .int (zI x4))] [] σ Q := by
  refine j_iload_n d_Wo_arithmetic_0 1 rfl ?_
  obtain ⟨r1, h⟩ := h
  obtain ⟨g36, g48, g60, g72, gD⟩ := h
  have jg36 : q_imp (x1 = 12 ∨ x1 = 13) (J ω m_Wo_arithmetic (d + 1) mc ms 0 0 36 [(0, .ref 49), (1, .int (zI x1)), (2, .int (zI x2)), (3, .int (zI x3)), (4, .int (zI x4))] [] σ Q) := by
    intro c
    have h := g36 c
    refine j_aload_n d_Wo_arithmetic_36 0 rfl ?_
    refine j_iload_n d_Wo_arithmetic_37 1 rfl ?_
    refine j_iload_n d_Wo_arithmetic_38 2 rfl ?_
    refine j_iload_n d_Wo_arithmetic_39 3 rfl ?_
    refine j_iload d_Wo_arithmetic_40 4 rfl ?_
    refine j_callV m_Wo_shift [.int (zI x1), .int (zI x2), .int (zI x3), .int (zI x4)] [] d 0 0 cV_Wo_72 d_Wo_arithmetic_42 rfl rfl (tg_49 hE) (q_okE hE (by decide)) (Nat.le_of_ble_eq_true rfl) (Nat.le_refl _) (Nat.le_of_ble_eq_true rfl) (Nat.zero_le _) (Nat.zero_le _) h (fun v τ h => ?_) (fun x τ h => ?_)
    · obtain ⟨e1, h⟩ := h; cases e1; exact j_sel [] rfl h
    · obtain ⟨e1, h⟩ := h; cases e1
  have jg48 : q_imp (x1 = 14) (J ω m_Wo_arithmetic (d + 1) mc ms 0 0 48 [(0, .ref 49), (1, .int (zI x1)), (2, .int (zI x2)), (3, .int (zI x3)), (4, .int (zI x4))] [] σ Q) := by
    intro c
    have h := g48 c
    refine j_aload_n d_Wo_arithmetic_48 0 rfl ?_
    refine j_iload_n d_Wo_arithmetic_49 2 rfl ?_
    refine j_iload_n d_Wo_arithmetic_50 3 rfl ?_
    refine j_iload d_Wo_arithmetic_51 4 rfl ?_
    refine j_iconst (v := zI 1) d_Wo_arithmetic_53 (by decide) ?_
    refine j_callV m_Wo_sum [.int (zI x2), .int (zI x3), .int (zI x4), .int (zI 1)] [] d 0 0 cV_Wo_76 d_Wo_arithmetic_54 rfl rfl (tg_49 hE) (q_okE hE (by decide)) (Nat.le_of_ble_eq_true rfl) (Nat.le_refl _) (Nat.le_of_ble_eq_true rfl) (Nat.zero_le _) (Nat.zero_le _) h (fun v τ h => ?_) (fun x τ h => ?_)
    · obtain ⟨e1, h⟩ := h; cases e1; exact j_sel [] rfl h
    · obtain ⟨e1, h⟩ := h; cases e1
  have jg60 : q_imp (x1 = 15) (J ω m_Wo_arithmetic (d + 1) mc ms 0 0 60 [(0, .ref 49), (1, .int (zI x1)), (2, .int (zI x2)), (3, .int (zI x3)), (4, .int (zI x4))] [] σ Q) := by
    intro c
    have h := g60 c
    refine j_aload_n d_Wo_arithmetic_60 0 rfl ?_
    refine j_iload_n d_Wo_arithmetic_61 2 rfl ?_
    refine j_iload_n d_Wo_arithmetic_62 3 rfl ?_
    refine j_iload d_Wo_arithmetic_63 4 rfl ?_
    refine j_iconst (v := zI 0) d_Wo_arithmetic_65 (by decide) ?_
    refine j_callV m_Wo_sum [.int (zI x2), .int (zI x3), .int (zI x4), .int (zI 0)] [] d 0 0 cV_Wo_76 d_Wo_arithmetic_66 rfl rfl (tg_49 hE) (q_okE hE (by decide)) (Nat.le_of_ble_eq_true rfl) (Nat.le_refl _) (Nat.le_of_ble_eq_true rfl) (Nat.zero_le _) (Nat.zero_le _) h (fun v τ h => ?_) (fun x τ h => ?_)
    · obtain ⟨e1, h⟩ := h; cases e1; exact j_sel [] rfl h
    · obtain ⟨e1, h⟩ := h; cases e1
  have jg72 : q_imp (x1 = 16) (J ω m_Wo_arithmetic (d + 1) mc ms 0 0 72 [(0, .ref 49), (1, .int (zI x1)), (2, .int (zI x2)), (3, .int (zI x3)), (4, .int (zI x4))] [] σ Q) := by
    intro c
    have h := g72 c
    refine j_aload_n d_Wo_arithmetic_72 0 rfl ?_
    refine j_iload_n d_Wo_arithmetic_73 2 rfl ?_
    refine j_iload_n d_Wo_arithmetic_74 3 rfl ?_
    refine j_iload d_Wo_arithmetic_75 4 rfl ?_
    refine j_callV m_Wo_multiply [.int (zI x2), .int (zI x3), .int (zI x4)] [] d 0 0 cV_Wo_79 d_Wo_arithmetic_77 rfl rfl (tg_49 hE) (q_okE hE (by decide)) (Nat.le_of_ble_eq_true rfl) (Nat.le_refl _) (Nat.le_of_ble_eq_true rfl) (Nat.zero_le _) (Nat.zero_le _) h (fun v τ h => ?_) (fun x τ h => ?_)
    · obtain ⟨e1, h⟩ := h; cases e1; exact j_sel [] rfl h
    · obtain ⟨e1, h⟩ := h; cases e1
  have jgD : q_imp (x1 ≠ 12 ∧ x1 ≠ 13 ∧ x1 ≠ 14 ∧ x1 ≠ 15 ∧ x1 ≠ 16) (J ω m_Wo_arithmetic (d + 1) mc ms 0 0 83 [(0, .ref 49), (1, .int (zI x1)), (2, .int (zI x2)), (3, .int (zI x3)), (4, .int (zI x4))] [] σ Q) := by
    intro c
    have h := gD c
    refine j_aload_n d_Wo_arithmetic_83 0 rfl ?_
    refine j_iload_n d_Wo_arithmetic_84 1 rfl ?_
    refine j_iload_n d_Wo_arithmetic_85 2 rfl ?_
    refine j_iload_n d_Wo_arithmetic_86 3 rfl ?_
    refine j_iload d_Wo_arithmetic_87 4 rfl ?_
    refine j_callV m_Wo_divide [.int (zI x1), .int (zI x2), .int (zI x3), .int (zI x4)] [] d 0 0 cV_Wo_82 d_Wo_arithmetic_89 rfl rfl (tg_49 hE) (q_okE hE (by decide)) (Nat.le_of_ble_eq_true rfl) (Nat.le_refl _) (Nat.le_of_ble_eq_true rfl) (Nat.zero_le _) (Nat.zero_le _) h (fun v τ h => ?_) (fun x τ h => ?_)
    · obtain ⟨e1, h⟩ := h; cases e1; exact j_sel [] rfl h
    · obtain ⟨e1, h⟩ := h; cases e1
  by_cases cs12 : x1 = 12
  · exact j_topE (v := zI 12) (by rw [cs12]) (j_tabIn 36 d_Wo_arithmetic_1 (by decide) (by decide) rfl (by decide) (jg36 (Or.inl cs12)))
  by_cases cs13 : x1 = 13
  · exact j_topE (v := zI 13) (by rw [cs13]) (j_tabIn 36 d_Wo_arithmetic_1 (by decide) (by decide) rfl (by decide) (jg36 (Or.inr (cs13))))
  by_cases cs14 : x1 = 14
  · exact j_topE (v := zI 14) (by rw [cs14]) (j_tabIn 48 d_Wo_arithmetic_1 (by decide) (by decide) rfl (by decide) (jg48 cs14))
  by_cases cs15 : x1 = 15
  · exact j_topE (v := zI 15) (by rw [cs15]) (j_tabIn 60 d_Wo_arithmetic_1 (by decide) (by decide) rfl (by decide) (jg60 cs15))
  by_cases cs16 : x1 = 16
  · exact j_topE (v := zI 16) (by rw [cs16]) (j_tabIn 72 d_Wo_arithmetic_1 (by decide) (by decide) rfl (by decide) (jg72 cs16))
  exact j_tabOut 83 d_Wo_arithmetic_1 (by rw [zI_toInt r1]; exact o_Wo_arithmetic_1 cs12 cs13 cs14 cs15 cs16) (by decide) (jgD ⟨cs12, cs13, cs14, cs15, cs16⟩)
set_option maxHeartbeats 2000000 in
theorem b_Wo_arithmetic_45 {ω : q_W} {σ : q_H} {Q : q_R → q_H → Prop} {d mc ms : Nat}   (hE : q_E σ) (h : (Q (.inl none) σ)) : J ω m_Wo_arithmetic (d + 1) mc ms 0 0 45 [] [] σ Q := by
  refine j_goto 92 d_Wo_arithmetic_45 (by decide) ?_
  exact j_vret d_Wo_arithmetic_92 rfl (Nat.zero_le _) (Nat.zero_le _) h
set_option maxHeartbeats 2000000 in
theorem b_Wo_arithmetic_57 {ω : q_W} {σ : q_H} {Q : q_R → q_H → Prop} {d mc ms : Nat}   (hE : q_E σ) (h : (Q (.inl none) σ)) : J ω m_Wo_arithmetic (d + 1) mc ms 0 0 57 [] [] σ Q := by
  refine j_goto 92 d_Wo_arithmetic_57 (by decide) ?_
  exact j_vret d_Wo_arithmetic_92 rfl (Nat.zero_le _) (Nat.zero_le _) h
set_option maxHeartbeats 2000000 in
theorem b_Wo_arithmetic_69 {ω : q_W} {σ : q_H} {Q : q_R → q_H → Prop} {d mc ms : Nat}   (hE : q_E σ) (h : (Q (.inl none) σ)) : J ω m_Wo_arithmetic (d + 1) mc ms 0 0 69 [] [] σ Q := by
  refine j_goto 92 d_Wo_arithmetic_69 (by decide) ?_
  exact j_vret d_Wo_arithmetic_92 rfl (Nat.zero_le _) (Nat.zero_le _) h
set_option maxHeartbeats 2000000 in
theorem b_Wo_arithmetic_80 {ω : q_W} {σ : q_H} {Q : q_R → q_H → Prop} {d mc ms : Nat}   (hE : q_E σ) (h : (Q (.inl none) σ)) : J ω m_Wo_arithmetic (d + 1) mc ms 0 0 80 [] [] σ Q := by
  refine j_goto 92 d_Wo_arithmetic_80 (by decide) ?_
  exact j_vret d_Wo_arithmetic_92 rfl (Nat.zero_le _) (Nat.zero_le _) h
set_option maxHeartbeats 2000000 in
theorem b_Wo_arithmetic_92 {ω : q_W} {σ : q_H} {Q : q_R → q_H → Prop} {d mc ms : Nat}   (hE : q_E σ) (h : (Q (.inl none) σ)) : J ω m_Wo_arithmetic (d + 1) mc ms 0 0 92 [] [] σ Q := by
  exact j_vret d_Wo_arithmetic_92 rfl (Nat.zero_le _) (Nat.zero_le _) h
set_option maxHeartbeats 2000000 in
theorem b_Wo_shift_0 {ω : q_W} {σ : q_H} {Q : q_R → q_H → Prop} {d mc ms : Nat} {x1 : Int} {x2 : Int} {x3 : Int} {x4 : Int}  (hE : q_E σ) (h : (J ω m_Wo_shift (d + 1) mc ms 0 0 6 [(0, .ref 49), (1, .int (zI x1)), (2, .int (zI x2)), (3, .int (zI x3)), (4, .int (zI x4)), (5, .int (zI 1)), (6, .int (zI 0))] [] σ Q)) : J ω m_Wo_shift (d + 1) mc ms 0 0 0 [(0, .ref 49), (1, .int (zI x1)), (2, .int (zI x2)), (3, .int (zI x3)), (4, .int (zI x4))] [] σ Q := by
  refine j_iconst (v := zI 1) d_Wo_shift_0 (by decide) ?_
  refine j_istore (L' := [(5, .int (zI 1)), (0, .ref 49), (1, .int (zI x1)), (2, .int (zI x2)), (3, .int (zI x3)), (4, .int (zI x4))]) d_Wo_shift_1 (by decide) rfl ?_
  refine j_iconst (v := zI 0) d_Wo_shift_3 (by decide) ?_
  refine j_istore (L' := [(6, .int (zI 0)), (5, .int (zI 1)), (0, .ref 49), (1, .int (zI x1)), (2, .int (zI x2)), (3, .int (zI x3)), (4, .int (zI x4))]) d_Wo_shift_4 (by decide) rfl ?_
  exact j_sel [2, 3, 4, 5, 6, 1, 0] rfl h
set_option maxHeartbeats 2000000 in
theorem b_Wo_shift_6 {ω : q_W} {σ : q_H} {Q : q_R → q_H → Prop} {d mc ms : Nat} {x1 : Int} {x2 : Int} {x3 : Int} {x4 : Int} {x5 : Int} {x6 : Int}  (hE : q_E σ) (h : inR x6 ∧ q_imp (x6 ≥ 8) ((J ω m_Wo_shift (d + 1) mc ms 0 0 168 [(0, .ref 49), (2, .int (zI x2)), (4, .int (zI x4)), (5, .int (zI x5)), (6, .int (zI 0))] [] σ Q)) ∧ q_imp (x6 < 8) ((0 ≤ (x3 + x6) ∧ (x3 + x6) < 3200) ∧ inR x4 ∧ q_imp ((zShl 1 x6) < x4) ((J ω m_Wo_shift (d + 1) mc ms 0 0 56 [(0, .ref 49), (1, .int (zI x1)), (2, .int (zI x2)), (3, .int (zI x3)), (4, .int (zI x4)), (5, .int (zI x5)), (6, .int (zI x6)), (7, .int (zI (zShl 1 x6))), (8, .int (zI (z σ 58 (x3 + x6).toNat))), (9, .int (zI 0))] [] σ Q)) ∧ q_imp ((zShl 1 x6) ≥ x4) ((J ω m_Ci_or d 0 0 0 0 0 [(0, .ref 50), (1, .int (zI x5)), (2, .int (zI (z σ 58 (x3 + x6).toNat)))] [] σ (q_ki (fun v τ => J ω m_Wo_shift (d + 1) mc ms 0 0 48 [(0, .ref 49), (1, .int (zI x1)), (2, .int (zI x2)), (3, .int (zI x3)), (4, .int (zI x4)), (6, .int (zI x6))] [.int (zI v)] τ Q)))))) : J ω m_Wo_shift (d + 1) mc ms 0 0 6 [(0, .ref 49), (1, .int (zI x1)), (2, .int (zI x2)), (3, .int (zI x3)), (4, .int (zI x4)), (5, .int (zI x5)), (6, .int (zI x6))] [] σ Q := by
  refine j_iload d_Wo_shift_6 6 rfl ?_
  refine j_bipush (v := zI 8) d_Wo_shift_8 (by decide) ?_
  obtain ⟨r1, h⟩ := h
  obtain ⟨h1, h2⟩ := h
  refine zj_icmp_ge 165 d_Wo_shift_10 (by decide) r1 ⟨by decide, by decide⟩ (fun k2 => ?_) (fun k2 => ?_)
  · have h := h1 k2
    refine j_iconst (v := zI 0) d_Wo_shift_165 (by decide) ?_
    refine j_istore (L' := [(6, .int (zI 0)), (0, .ref 49), (1, .int (zI x1)), (2, .int (zI x2)), (3, .int (zI x3)), (4, .int (zI x4)), (5, .int (zI x5))]) d_Wo_shift_166 (by decide) rfl ?_
    exact j_sel [1, 3, 5, 6, 0] rfl h
  · have h := h2 k2
    refine j_iconst (v := zI 1) d_Wo_shift_13 (by decide) ?_
    refine j_iload d_Wo_shift_14 6 rfl ?_
    refine zj_ishl d_Wo_shift_16 ?_
    refine j_istore (L' := [(7, .int (zI (zShl 1 x6))), (0, .ref 49), (1, .int (zI x1)), (2, .int (zI x2)), (3, .int (zI x3)), (4, .int (zI x4)), (5, .int (zI x5)), (6, .int (zI x6))]) d_Wo_shift_17 (by decide) rfl ?_
    refine j_aload_n d_Wo_shift_19 1 rfl ?_
    refine j_getR 58 f_Wo_18 d_Wo_shift_20 (tg_49 hE) (q_okE hE (by decide)) (rf_49_1 hE) (by decide) ?_
    refine j_iload_n d_Wo_shift_23 4 rfl ?_
    refine j_iload d_Wo_shift_24 7 rfl ?_
    refine zj_iadd (x3 + x6) rfl d_Wo_shift_26 ?_
    obtain ⟨c3, h⟩ := h
    refine zj_iald (z σ 58 (x3 + x6).toNat) d_Wo_shift_27 (tg_58 hE) (q_okE hE (by decide)) c3 (by decide) (q_z _ _ _) ?_
    refine j_istore (L' := [(8, .int (zI (z σ 58 (x3 + x6).toNat))), (7, .int (zI (zShl 1 x6))), (0, .ref 49), (1, .int (zI x1)), (2, .int (zI x2)), (3, .int (zI x3)), (4, .int (zI x4)), (5, .int (zI x5)), (6, .int (zI x6))]) d_Wo_shift_28 (by decide) rfl ?_
    refine j_iload d_Wo_shift_30 1 rfl ?_
    refine j_iload d_Wo_shift_32 6 rfl ?_
    obtain ⟨r4, h⟩ := h
    obtain ⟨h1, h2⟩ := h
    refine zj_icmp_lt 53 d_Wo_shift_34 (by decide) (inR_of _) r4 (fun k5 => ?_) (fun k5 => ?_)
    · have h := h1 k5
      refine j_iconst (v := zI 0) d_Wo_shift_53 (by decide) ?_
      refine j_istore (L' := [(9, .int (zI 0)), (8, .int (zI (z σ 58 (x3 + x6).toNat))), (7, .int (zI (zShl 1 x6))), (0, .ref 49), (1, .int (zI x1)), (2, .int (zI x2)), (3, .int (zI x3)), (4, .int (zI x4)), (5, .int (zI x5)), (6, .int (zI x6))]) d_Wo_shift_54 (by decide) rfl ?_
      exact j_sel [3, 4, 5, 6, 7, 8, 9, 2, 1, 0] rfl h
    · have h := h2 k5
      refine j_aload_n d_Wo_shift_37 2 rfl ?_
      refine j_getR 50 f_Wo_12 d_Wo_shift_38 (tg_49 hE) (q_okE hE (by decide)) (rf_49_0 hE) (by decide) ?_
      refine j_iload d_Wo_shift_41 7 rfl ?_
      refine j_iload d_Wo_shift_43 0 rfl ?_
      refine j_callV m_Ci_or [.int (zI x5), .int (zI (z σ 58 (x3 + x6).toNat))] [] d 0 0 cV_Wo_59 d_Wo_shift_45 rfl rfl (tg_50 hE) (q_okE hE (by decide)) (Nat.le_of_ble_eq_true rfl) (Nat.le_refl _) (Nat.le_of_ble_eq_true rfl) (Nat.zero_le _) (Nat.zero_le _) h (fun v τ h => ?_) (fun x τ h => ?_)
      · obtain ⟨v, hv, e1, h⟩ := h; cases e1; exact j_sel [2, 3, 4, 5, 6, 8] rfl h
      · obtain ⟨v, hv, e1, h⟩ := h; cases e1
set_option maxHeartbeats 2000000 in
theorem b_Wo_shift_168 {ω : q_W} {σ : q_H} {Q : q_R → q_H → Prop} {d mc ms : Nat} {x2 : Int} {x4 : Int} {x5 : Int} {x6 : Int}  (hE : q_E σ) (h : inR x6 ∧ inR x4 ∧ q_imp (x6 ≥ x4) ((Q (.inl none) σ)) ∧ q_imp (x6 < x4) ((0 ≤ (x2 + x6) ∧ (x2 + x6) < 3200) ∧ (J ω m_Ci_and d 0 0 0 0 0 [(0, .ref 50), (1, .int (zI (z σ 58 (x2 + x6).toNat))), (2, .int (zI (zXor x5 1)))] [] σ (q_ki (fun v τ => J ω m_Wo_shift (d + 1) mc ms 0 0 203 [(0, .ref 49), (2, .int (zI x2)), (4, .int (zI x4)), (5, .int (zI x5)), (6, .int (zI x6))] [.int (zI v), .int (zI (x2 + x6)), .ref 58] τ Q))))) : J ω m_Wo_shift (d + 1) mc ms 0 0 168 [(0, .ref 49), (2, .int (zI x2)), (4, .int (zI x4)), (5, .int (zI x5)), (6, .int (zI x6))] [] σ Q := by
  refine j_iload d_Wo_shift_168 4 rfl ?_
  refine j_iload d_Wo_shift_170 2 rfl ?_
  obtain ⟨r6, h⟩ := h
  obtain ⟨r7, h⟩ := h
  obtain ⟨h1, h2⟩ := h
  refine zj_icmp_ge 210 d_Wo_shift_172 (by decide) r6 r7 (fun k8 => ?_) (fun k8 => ?_)
  · have h := h1 k8
    exact j_vret d_Wo_shift_210 rfl (Nat.zero_le _) (Nat.zero_le _) h
  · have h := h2 k8
    refine j_aload_n d_Wo_shift_175 0 rfl ?_
    refine j_getR 58 f_Wo_18 d_Wo_shift_176 (tg_49 hE) (q_okE hE (by decide)) (rf_49_1 hE) (by decide) ?_
    refine j_iload_n d_Wo_shift_179 1 rfl ?_
    refine j_iload d_Wo_shift_180 4 rfl ?_
    refine zj_iadd (x2 + x6) rfl d_Wo_shift_182 ?_
    refine j_aload_n d_Wo_shift_183 0 rfl ?_
    refine j_getR 50 f_Wo_12 d_Wo_shift_184 (tg_49 hE) (q_okE hE (by decide)) (rf_49_0 hE) (by decide) ?_
    refine j_aload_n d_Wo_shift_187 0 rfl ?_
    refine j_getR 58 f_Wo_18 d_Wo_shift_188 (tg_49 hE) (q_okE hE (by decide)) (rf_49_1 hE) (by decide) ?_
    refine j_iload_n d_Wo_shift_191 1 rfl ?_
    refine j_iload d_Wo_shift_192 4 rfl ?_
    refine zj_iadd (x2 + x6) rfl d_Wo_shift_194 ?_
    obtain ⟨c9, h⟩ := h
    refine zj_iald (z σ 58 (x2 + x6).toNat) d_Wo_shift_195 (tg_58 hE) (q_okE hE (by decide)) c9 (by decide) (q_z _ _ _) ?_
    refine j_iload d_Wo_shift_196 3 rfl ?_
    refine j_iconst (v := zI 1) d_Wo_shift_198 (by decide) ?_
    refine zj_ixor d_Wo_shift_199 ?_
    refine j_callV m_Ci_and [.int (zI (z σ 58 (x2 + x6).toNat)), .int (zI (zXor x5 1))] [.int (zI (x2 + x6)), .ref 58] d 0 0 cV_Wo_42 d_Wo_shift_200 rfl rfl (tg_50 hE) (q_okE hE (by decide)) (Nat.le_of_ble_eq_true rfl) (Nat.le_refl _) (Nat.le_of_ble_eq_true rfl) (Nat.zero_le _) (Nat.zero_le _) h (fun v τ h => ?_) (fun x τ h => ?_)
    · obtain ⟨v, hv, e1, h⟩ := h; cases e1; exact j_sel [0, 1, 2, 3, 4] rfl h
    · obtain ⟨v, hv, e1, h⟩ := h; cases e1
set_option maxHeartbeats 2000000 in
theorem b_Wo_shift_56 {ω : q_W} {σ : q_H} {Q : q_R → q_H → Prop} {d mc ms : Nat} {x1 : Int} {x2 : Int} {x3 : Int} {x4 : Int} {x5 : Int} {x6 : Int} {x7 : Int} {x8 : Int} {x9 : Int}  (hE : q_E σ) (h : inR x9 ∧ inR x4 ∧ q_imp (x9 ≥ x4) (((0 : Int) ≤ 0 ∧ (0 : Int) ≤ x2 ∧ (0 : Int) ≤ x4 ∧ (0 : Int) + x4 ≤ ((8 : Nat) : Int) ∧ (x2 : Int) + x4 ≤ ((3200 : Nat) : Int)) ∧ (J ω m_Wo_shift (d + 1) mc ms 0 0 6 [(0, .ref 49), (1, .int (zI x1)), (2, .int (zI x2)), (3, .int (zI x3)), (4, .int (zI x4)), (5, .int (zI x5)), (6, .int (zI (x6 + 1)))] [] (zcp σ 59 0 58 x2.toNat x4.toNat) Q)) ∧ q_imp (x9 < x4) (inR x1 ∧ q_imp (x1 ≠ 12) ((J ω m_Wo_shift (d + 1) mc ms 0 0 82 [(0, .ref 49), (1, .int (zI x1)), (2, .int (zI x2)), (3, .int (zI x3)), (4, .int (zI x4)), (5, .int (zI x5)), (6, .int (zI x6)), (7, .int (zI x7)), (8, .int (zI x8)), (9, .int (zI x9))] [.int (zI (x9 + x7))] σ Q)) ∧ q_imp (x1 = 12) ((J ω m_Wo_shift (d + 1) mc ms 0 0 82 [(0, .ref 49), (1, .int (zI x1)), (2, .int (zI x2)), (3, .int (zI x3)), (4, .int (zI x4)), (5, .int (zI x5)), (6, .int (zI x6)), (7, .int (zI x7)), (8, .int (zI x8)), (9, .int (zI x9))] [.int (zI (x9 - x7))] σ Q)))) : J ω m_Wo_shift (d + 1) mc ms 0 0 56 [(0, .ref 49), (1, .int (zI x1)), (2, .int (zI x2)), (3, .int (zI x3)), (4, .int (zI x4)), (5, .int (zI x5)), (6, .int (zI x6)), (7, .int (zI x7)), (8, .int (zI x8)), (9, .int (zI x9))] [] σ Q := by
  refine j_iload d_Wo_shift_56 9 rfl ?_
  refine j_iload d_Wo_shift_58 4 rfl ?_
  obtain ⟨r10, h⟩ := h
  obtain ⟨r11, h⟩ := h
  obtain ⟨h1, h2⟩ := h
  refine zj_icmp_ge 144 d_Wo_shift_60 (by decide) r10 r11 (fun k12 => ?_) (fun k12 => ?_)
  · have h := h1 k12
    refine j_aload_n d_Wo_shift_144 0 rfl ?_
    refine j_getR 59 f_Wo_22 d_Wo_shift_145 (tg_49 hE) (q_okE hE (by decide)) (rf_49_2 hE) (by decide) ?_
    refine j_iconst (v := zI 0) d_Wo_shift_148 (by decide) ?_
    refine j_aload_n d_Wo_shift_149 0 rfl ?_
    refine j_getR 58 f_Wo_18 d_Wo_shift_150 (tg_49 hE) (q_okE hE (by decide)) (rf_49_1 hE) (by decide) ?_
    refine j_iload_n d_Wo_shift_153 2 rfl ?_
    refine j_iload d_Wo_shift_154 4 rfl ?_
    obtain ⟨c13, h⟩ := h
    refine zj_copy (List.mem_of_getElem? (i := 1038) (by decide +kernel)) d_Wo_shift_156 (tg_59 hE) (q_okE hE (by decide)) (tg_58 hE) (q_okE hE (by decide)) c13 (by decide) (by decide) (Nat.succ_le_succ (Nat.zero_le _)) (Nat.le_of_ble_eq_true rfl) ?_
    refine zj_iinc (L' := [(6, .int (zI (x6 + 1))), (0, .ref 49), (1, .int (zI x1)), (2, .int (zI x2)), (3, .int (zI x3)), (4, .int (zI x4)), (5, .int (zI x5)), (7, .int (zI x7)), (8, .int (zI x8)), (9, .int (zI x9))]) (x6 + 1) d_Wo_shift_159 6 rfl (by omega) (by decide) rfl ?_
    refine j_goto 6 d_Wo_shift_162 (by decide) ?_
    exact j_sel [1, 2, 3, 4, 5, 6, 0] rfl h
  · have h := h2 k12
    refine j_iload_n d_Wo_shift_63 1 rfl ?_
    refine j_bipush (v := zI 12) d_Wo_shift_64 (by decide) ?_
    obtain ⟨r14, h⟩ := h
    obtain ⟨h1, h2⟩ := h
    refine zj_icmp_ne 77 d_Wo_shift_66 (by decide) r14 ⟨by decide, by decide⟩ (fun k15 => ?_) (fun k15 => ?_)
    · have h := h1 k15
      refine j_iload d_Wo_shift_77 9 rfl ?_
      refine j_iload d_Wo_shift_79 7 rfl ?_
      refine zj_iadd (x9 + x7) rfl d_Wo_shift_81 ?_
      exact j_sel [0, 1, 2, 3, 4, 5, 6, 7, 8, 9] rfl h
    · have h := h2 k15
      refine j_iload d_Wo_shift_69 9 rfl ?_
      refine j_iload d_Wo_shift_71 7 rfl ?_
      refine zj_isub (x9 - x7) rfl d_Wo_shift_73 ?_
      refine j_goto 82 d_Wo_shift_74 (by decide) ?_
      exact j_sel [0, 1, 2, 3, 4, 5, 6, 7, 8, 9] rfl h
set_option maxHeartbeats 2000000 in
theorem b_Wo_shift_48 {ω : q_W} {σ : q_H} {Q : q_R → q_H → Prop} {d mc ms : Nat} {x1 : Int} {x2 : Int} {x3 : Int} {x4 : Int} {x6 : Int} {y0 : Int}  (hE : q_E σ) (h : (J ω m_Wo_shift (d + 1) mc ms 0 0 6 [(0, .ref 49), (1, .int (zI x1)), (2, .int (zI x2)), (3, .int (zI x3)), (4, .int (zI x4)), (5, .int (zI y0)), (6, .int (zI (x6 + 1)))] [] σ Q)) : J ω m_Wo_shift (d + 1) mc ms 0 0 48 [(0, .ref 49), (1, .int (zI x1)), (2, .int (zI x2)), (3, .int (zI x3)), (4, .int (zI x4)), (6, .int (zI x6))] [.int (zI y0)] σ Q := by
  refine j_istore (L' := [(5, .int (zI y0)), (0, .ref 49), (1, .int (zI x1)), (2, .int (zI x2)), (3, .int (zI x3)), (4, .int (zI x4)), (6, .int (zI x6))]) d_Wo_shift_48 (by decide) rfl ?_
  refine j_goto 159 d_Wo_shift_50 (by decide) ?_
  refine zj_iinc (L' := [(6, .int (zI (x6 + 1))), (5, .int (zI y0)), (0, .ref 49), (1, .int (zI x1)), (2, .int (zI x2)), (3, .int (zI x3)), (4, .int (zI x4))]) (x6 + 1) d_Wo_shift_159 6 rfl (by omega) (by decide) rfl ?_
  refine j_goto 6 d_Wo_shift_162 (by decide) ?_
  exact j_sel [2, 3, 4, 5, 6, 1, 0] rfl h
set_option maxHeartbeats 2000000 in
theorem b_Wo_shift_203 {ω : q_W} {σ : q_H} {Q : q_R → q_H → Prop} {d mc ms : Nat} {x2 : Int} {x4 : Int} {x5 : Int} {x6 : Int} {y0 : Int} {y1 : Int}  (hE : q_E σ) (h : (0 ≤ y1 ∧ y1 < 3200) ∧ (J ω m_Wo_shift (d + 1) mc ms 0 0 168 [(0, .ref 49), (2, .int (zI x2)), (4, .int (zI x4)), (5, .int (zI x5)), (6, .int (zI (x6 + 1)))] [] (zs σ 58 y1.toNat y0) Q)) : J ω m_Wo_shift (d + 1) mc ms 0 0 203 [(0, .ref 49), (2, .int (zI x2)), (4, .int (zI x4)), (5, .int (zI x5)), (6, .int (zI x6))] [.int (zI y0), .int (zI y1), .ref 58] σ Q := by
  obtain ⟨c16, h⟩ := h
  refine zj_iast d_Wo_shift_203 (tg_58 hE) (q_okE hE (by decide)) c16 (by decide) ?_
  refine zj_iinc (L' := [(6, .int (zI (x6 + 1))), (0, .ref 49), (2, .int (zI x2)), (4, .int (zI x4)), (5, .int (zI x5))]) (x6 + 1) d_Wo_shift_204 4 rfl (by omega) (by decide) rfl ?_
  refine j_goto 168 d_Wo_shift_207 (by decide) ?_
  exact j_sel [1, 2, 3, 4, 0] rfl h
set_option maxHeartbeats 2000000 in
theorem b_Wo_shift_82 {ω : q_W} {σ : q_H} {Q : q_R → q_H → Prop} {d mc ms : Nat} {x1 : Int} {x2 : Int} {x3 : Int} {x4 : Int} {x5 : Int} {x6 : Int} {x7 : Int} {x8 : Int} {x9 : Int} {y0 : Int}  (hE : q_E σ) (h : inR y0 ∧ q_imp (y0 < 0) ((J ω m_Wo_shift (d + 1) mc ms 0 0 109 [(0, .ref 49), (1, .int (zI x1)), (2, .int (zI x2)), (3, .int (zI x3)), (4, .int (zI x4)), (5, .int (zI x5)), (6, .int (zI x6)), (7, .int (zI x7)), (8, .int (zI x8)), (9, .int (zI x9))] [.int (zI 1)] σ Q)) ∧ q_imp (0 ≤ y0) (inR x4 ∧ q_imp (y0 ≥ x4) ((J ω m_Wo_shift (d + 1) mc ms 0 0 109 [(0, .ref 49), (1, .int (zI x1)), (2, .int (zI x2)), (3, .int (zI x3)), (4, .int (zI x4)), (5, .int (zI x5)), (6, .int (zI x6)), (7, .int (zI x7)), (8, .int (zI x8)), (9, .int (zI x9))] [.int (zI 1)] σ Q)) ∧ q_imp (y0 < x4) ((0 ≤ (x2 + y0) ∧ (x2 + y0) < 3200) ∧ (J ω m_Wo_shift (d + 1) mc ms 0 0 109 [(0, .ref 49), (1, .int (zI x1)), (2, .int (zI x2)), (3, .int (zI x3)), (4, .int (zI x4)), (5, .int (zI x5)), (6, .int (zI x6)), (7, .int (zI x7)), (8, .int (zI x8)), (9, .int (zI x9))] [.int (zI (z σ 58 (x2 + y0).toNat))] σ Q)))) : J ω m_Wo_shift (d + 1) mc ms 0 0 82 [(0, .ref 49), (1, .int (zI x1)), (2, .int (zI x2)), (3, .int (zI x3)), (4, .int (zI x4)), (5, .int (zI x5)), (6, .int (zI x6)), (7, .int (zI x7)), (8, .int (zI x8)), (9, .int (zI x9))] [.int (zI y0)] σ Q := by
  refine j_istore (L' := [(10, .int (zI y0)), (0, .ref 49), (1, .int (zI x1)), (2, .int (zI x2)), (3, .int (zI x3)), (4, .int (zI x4)), (5, .int (zI x5)), (6, .int (zI x6)), (7, .int (zI x7)), (8, .int (zI x8)), (9, .int (zI x9))]) d_Wo_shift_82 (by decide) rfl ?_
  refine j_iload d_Wo_shift_84 0 rfl ?_
  obtain ⟨r17, h⟩ := h
  obtain ⟨h1, h2⟩ := h
  refine zj_if_lt 108 d_Wo_shift_86 (by decide) r17 (fun k18 => ?_) (fun k18 => ?_)
  · have h := h1 k18
    refine j_iconst (v := zI 1) d_Wo_shift_108 (by decide) ?_
    exact j_sel [1, 2, 3, 4, 5, 6, 7, 8, 9, 10] rfl h
  · have h := h2 k18
    refine j_iload d_Wo_shift_89 0 rfl ?_
    refine j_iload d_Wo_shift_91 5 rfl ?_
    obtain ⟨r19, h⟩ := h
    obtain ⟨h1, h2⟩ := h
    refine zj_icmp_ge 108 d_Wo_shift_93 (by decide) r17 r19 (fun k20 => ?_) (fun k20 => ?_)
    · have h := h1 k20
      refine j_iconst (v := zI 1) d_Wo_shift_108 (by decide) ?_
      exact j_sel [1, 2, 3, 4, 5, 6, 7, 8, 9, 10] rfl h
    · have h := h2 k20
      refine j_aload_n d_Wo_shift_96 1 rfl ?_
      refine j_getR 58 f_Wo_18 d_Wo_shift_97 (tg_49 hE) (q_okE hE (by decide)) (rf_49_1 hE) (by decide) ?_
      refine j_iload_n d_Wo_shift_100 3 rfl ?_
      refine j_iload d_Wo_shift_101 0 rfl ?_
      refine zj_iadd (x2 + y0) rfl d_Wo_shift_103 ?_
      obtain ⟨c21, h⟩ := h
      refine zj_iald (z σ 58 (x2 + y0).toNat) d_Wo_shift_104 (tg_58 hE) (q_okE hE (by decide)) c21 (by decide) (q_z _ _ _) ?_
      refine j_goto 109 d_Wo_shift_105 (by decide) ?_
      exact j_sel [1, 2, 3, 4, 5, 6, 7, 8, 9, 10] rfl h
set_option maxHeartbeats 2000000 in
theorem b_Wo_shift_109 {ω : q_W} {σ : q_H} {Q : q_R → q_H → Prop} {d mc ms : Nat} {x1 : Int} {x2 : Int} {x3 : Int} {x4 : Int} {x5 : Int} {x6 : Int} {x7 : Int} {x8 : Int} {x9 : Int} {y0 : Int}  (hE : q_E σ) (h : (0 ≤ (x2 + x9) ∧ (x2 + x9) < 3200) ∧ (J ω m_Ci_pick d 0 0 0 0 0 [(0, .ref 50), (1, .int (zI x8)), (2, .int (zI y0)), (3, .int (zI (z σ 58 (x2 + x9).toNat)))] [] σ (q_ki (fun v τ => J ω m_Wo_shift (d + 1) mc ms 0 0 137 [(0, .ref 49), (1, .int (zI x1)), (2, .int (zI x2)), (3, .int (zI x3)), (4, .int (zI x4)), (5, .int (zI x5)), (6, .int (zI x6)), (7, .int (zI x7)), (8, .int (zI x8)), (9, .int (zI x9))] [.int (zI v), .int (zI x9), .ref 59] τ Q)))) : J ω m_Wo_shift (d + 1) mc ms 0 0 109 [(0, .ref 49), (1, .int (zI x1)), (2, .int (zI x2)), (3, .int (zI x3)), (4, .int (zI x4)), (5, .int (zI x5)), (6, .int (zI x6)), (7, .int (zI x7)), (8, .int (zI x8)), (9, .int (zI x9))] [.int (zI y0)] σ Q := by
  refine j_istore (L' := [(11, .int (zI y0)), (0, .ref 49), (1, .int (zI x1)), (2, .int (zI x2)), (3, .int (zI x3)), (4, .int (zI x4)), (5, .int (zI x5)), (6, .int (zI x6)), (7, .int (zI x7)), (8, .int (zI x8)), (9, .int (zI x9))]) d_Wo_shift_109 (by decide) rfl ?_
  refine j_aload_n d_Wo_shift_111 1 rfl ?_
  refine j_getR 59 f_Wo_22 d_Wo_shift_112 (tg_49 hE) (q_okE hE (by decide)) (rf_49_2 hE) (by decide) ?_
  refine j_iload d_Wo_shift_115 10 rfl ?_
  refine j_aload_n d_Wo_shift_117 1 rfl ?_
  refine j_getR 50 f_Wo_12 d_Wo_shift_118 (tg_49 hE) (q_okE hE (by decide)) (rf_49_0 hE) (by decide) ?_
  refine j_iload d_Wo_shift_121 9 rfl ?_
  refine j_iload d_Wo_shift_123 0 rfl ?_
  refine j_aload_n d_Wo_shift_125 1 rfl ?_
  refine j_getR 58 f_Wo_18 d_Wo_shift_126 (tg_49 hE) (q_okE hE (by decide)) (rf_49_1 hE) (by decide) ?_
  refine j_iload_n d_Wo_shift_129 3 rfl ?_
  refine j_iload d_Wo_shift_130 10 rfl ?_
  refine zj_iadd (x2 + x9) rfl d_Wo_shift_132 ?_
  obtain ⟨c22, h⟩ := h
  refine zj_iald (z σ 58 (x2 + x9).toNat) d_Wo_shift_133 (tg_58 hE) (q_okE hE (by decide)) c22 (by decide) (q_z _ _ _) ?_
  refine j_callV m_Ci_pick [.int (zI x8), .int (zI y0), .int (zI (z σ 58 (x2 + x9).toNat))] [.int (zI x9), .ref 59] d 0 0 cV_Wo_55 d_Wo_shift_134 rfl rfl (tg_50 hE) (q_okE hE (by decide)) (Nat.le_of_ble_eq_true rfl) (Nat.le_refl _) (Nat.le_of_ble_eq_true rfl) (Nat.zero_le _) (Nat.zero_le _) h (fun v τ h => ?_) (fun x τ h => ?_)
  · obtain ⟨v, hv, e1, h⟩ := h; cases e1; exact j_sel [1, 2, 3, 4, 5, 6, 7, 8, 9, 10] rfl h
  · obtain ⟨v, hv, e1, h⟩ := h; cases e1
set_option maxHeartbeats 2000000 in
theorem b_Wo_shift_137 {ω : q_W} {σ : q_H} {Q : q_R → q_H → Prop} {d mc ms : Nat} {x1 : Int} {x2 : Int} {x3 : Int} {x4 : Int} {x5 : Int} {x6 : Int} {x7 : Int} {x8 : Int} {x9 : Int} {y0 : Int} {y1 : Int}  (hE : q_E σ) (h : (0 ≤ y1 ∧ y1 < 8) ∧ (J ω m_Wo_shift (d + 1) mc ms 0 0 56 [(0, .ref 49), (1, .int (zI x1)), (2, .int (zI x2)), (3, .int (zI x3)), (4, .int (zI x4)), (5, .int (zI x5)), (6, .int (zI x6)), (7, .int (zI x7)), (8, .int (zI x8)), (9, .int (zI (x9 + 1)))] [] (zs σ 59 y1.toNat y0) Q)) : J ω m_Wo_shift (d + 1) mc ms 0 0 137 [(0, .ref 49), (1, .int (zI x1)), (2, .int (zI x2)), (3, .int (zI x3)), (4, .int (zI x4)), (5, .int (zI x5)), (6, .int (zI x6)), (7, .int (zI x7)), (8, .int (zI x8)), (9, .int (zI x9))] [.int (zI y0), .int (zI y1), .ref 59] σ Q := by
  obtain ⟨c23, h⟩ := h
  refine zj_iast d_Wo_shift_137 (tg_59 hE) (q_okE hE (by decide)) c23 (by decide) ?_
  refine zj_iinc (L' := [(9, .int (zI (x9 + 1))), (0, .ref 49), (1, .int (zI x1)), (2, .int (zI x2)), (3, .int (zI x3)), (4, .int (zI x4)), (5, .int (zI x5)), (6, .int (zI x6)), (7, .int (zI x7)), (8, .int (zI x8))]) (x9 + 1) d_Wo_shift_138 9 rfl (by omega) (by decide) rfl ?_
  refine j_goto 56 d_Wo_shift_141 (by decide) ?_
  exact j_sel [1, 2, 3, 4, 5, 6, 7, 8, 9, 0] rfl h
set_option maxHeartbeats 2000000 in
theorem b_Wo_sum_0 {ω : q_W} {σ : q_H} {Q : q_R → q_H → Prop} {d mc ms : Nat} {x1 : Int} {x2 : Int} {x3 : Int} {x4 : Int}  (hE : q_E σ) (h : inR x4 ∧ q_imp (x4 ≠ 0) ((J ω m_Wo_sum (d + 1) mc ms 0 0 19 [(0, .ref 49), (1, .int (zI x1)), (2, .int (zI x2)), (3, .int (zI x3)), (5, .int (zI 0)), (6, .int (zI x4)), (7, .int (zI 0))] [] σ Q)) ∧ q_imp (x4 = 0) ((J ω m_Wo_sum (d + 1) mc ms 0 0 19 [(0, .ref 49), (1, .int (zI x1)), (2, .int (zI x2)), (3, .int (zI x3)), (5, .int (zI 1)), (6, .int (zI x4)), (7, .int (zI 0))] [] σ Q))) : J ω m_Wo_sum (d + 1) mc ms 0 0 0 [(0, .ref 49), (1, .int (zI x1)), (2, .int (zI x2)), (3, .int (zI x3)), (4, .int (zI x4))] [] σ Q := by
  refine j_iload d_Wo_sum_0 4 rfl ?_
  obtain ⟨r1, h⟩ := h
  obtain ⟨h1, h2⟩ := h
  refine zj_if_ne 9 d_Wo_sum_2 (by decide) r1 (fun k2 => ?_) (fun k2 => ?_)
  · have h := h1 k2
    refine j_iconst (v := zI 0) d_Wo_sum_9 (by decide) ?_
    refine j_istore (L' := [(5, .int (zI 0)), (0, .ref 49), (1, .int (zI x1)), (2, .int (zI x2)), (3, .int (zI x3)), (4, .int (zI x4))]) d_Wo_sum_10 (by decide) rfl ?_
    refine j_iload d_Wo_sum_12 5 rfl ?_
    refine j_istore (L' := [(6, .int (zI x4)), (5, .int (zI 0)), (0, .ref 49), (1, .int (zI x1)), (2, .int (zI x2)), (3, .int (zI x3)), (4, .int (zI x4))]) d_Wo_sum_14 (by decide) rfl ?_
    refine j_iconst (v := zI 0) d_Wo_sum_16 (by decide) ?_
    refine j_istore (L' := [(7, .int (zI 0)), (6, .int (zI x4)), (5, .int (zI 0)), (0, .ref 49), (1, .int (zI x1)), (2, .int (zI x2)), (3, .int (zI x3)), (4, .int (zI x4))]) d_Wo_sum_17 (by decide) rfl ?_
    exact j_sel [3, 4, 5, 6, 2, 1, 0] rfl h
  · have h := h2 k2
    refine j_iconst (v := zI 1) d_Wo_sum_5 (by decide) ?_
    refine j_goto 10 d_Wo_sum_6 (by decide) ?_
    refine j_istore (L' := [(5, .int (zI 1)), (0, .ref 49), (1, .int (zI x1)), (2, .int (zI x2)), (3, .int (zI x3)), (4, .int (zI x4))]) d_Wo_sum_10 (by decide) rfl ?_
    refine j_iload d_Wo_sum_12 5 rfl ?_
    refine j_istore (L' := [(6, .int (zI x4)), (5, .int (zI 1)), (0, .ref 49), (1, .int (zI x1)), (2, .int (zI x2)), (3, .int (zI x3)), (4, .int (zI x4))]) d_Wo_sum_14 (by decide) rfl ?_
    refine j_iconst (v := zI 0) d_Wo_sum_16 (by decide) ?_
    refine j_istore (L' := [(7, .int (zI 0)), (6, .int (zI x4)), (5, .int (zI 1)), (0, .ref 49), (1, .int (zI x1)), (2, .int (zI x2)), (3, .int (zI x3)), (4, .int (zI x4))]) d_Wo_sum_17 (by decide) rfl ?_
    exact j_sel [3, 4, 5, 6, 2, 1, 0] rfl h
set_option maxHeartbeats 2000000 in
theorem b_Wo_sum_19 {ω : q_W} {σ : q_H} {Q : q_R → q_H → Prop} {d mc ms : Nat} {x1 : Int} {x2 : Int} {x3 : Int} {x5 : Int} {x6 : Int} {x7 : Int}  (hE : q_E σ) (h : inR x7 ∧ inR x3 ∧ q_imp (x7 ≥ x3) ((Q (.inl none) σ)) ∧ q_imp (x7 < x3) ((0 ≤ (x1 + x7) ∧ (x1 + x7) < 3200) ∧ (0 ≤ (x2 + x7) ∧ (x2 + x7) < 3200) ∧ (J ω m_Ci_xor d 0 0 0 0 0 [(0, .ref 50), (1, .int (zI (z σ 58 (x1 + x7).toNat))), (2, .int (zI (zXor (z σ 58 (x2 + x7).toNat) x5)))] [] σ (q_ki (fun v τ => J ω m_Wo_sum (d + 1) mc ms 0 0 57 [(0, .ref 49), (1, .int (zI x1)), (2, .int (zI x2)), (3, .int (zI x3)), (5, .int (zI x5)), (6, .int (zI x6)), (7, .int (zI x7)), (8, .int (zI (z σ 58 (x1 + x7).toNat)))] [.int (zI v)] τ Q))))) : J ω m_Wo_sum (d + 1) mc ms 0 0 19 [(0, .ref 49), (1, .int (zI x1)), (2, .int (zI x2)), (3, .int (zI x3)), (5, .int (zI x5)), (6, .int (zI x6)), (7, .int (zI x7))] [] σ Q := by
  refine j_iload d_Wo_sum_19 6 rfl ?_
  refine j_iload_n d_Wo_sum_21 3 rfl ?_
  obtain ⟨r3, h⟩ := h
  obtain ⟨r4, h⟩ := h
  obtain ⟨h1, h2⟩ := h
  refine zj_icmp_ge 100 d_Wo_sum_22 (by decide) r3 r4 (fun k5 => ?_) (fun k5 => ?_)
  · have h := h1 k5
    exact j_vret d_Wo_sum_100 rfl (Nat.zero_le _) (Nat.zero_le _) h
  · have h := h2 k5
    refine j_aload_n d_Wo_sum_25 0 rfl ?_
    refine j_getR 58 f_Wo_18 d_Wo_sum_26 (tg_49 hE) (q_okE hE (by decide)) (rf_49_1 hE) (by decide) ?_
    refine j_iload_n d_Wo_sum_29 1 rfl ?_
    refine j_iload d_Wo_sum_30 6 rfl ?_
    refine zj_iadd (x1 + x7) rfl d_Wo_sum_32 ?_
    obtain ⟨c6, h⟩ := h
    refine zj_iald (z σ 58 (x1 + x7).toNat) d_Wo_sum_33 (tg_58 hE) (q_okE hE (by decide)) c6 (by decide) (q_z _ _ _) ?_
    refine j_istore (L' := [(8, .int (zI (z σ 58 (x1 + x7).toNat))), (0, .ref 49), (1, .int (zI x1)), (2, .int (zI x2)), (3, .int (zI x3)), (5, .int (zI x5)), (6, .int (zI x6)), (7, .int (zI x7))]) d_Wo_sum_34 (by decide) rfl ?_
    refine j_aload_n d_Wo_sum_36 1 rfl ?_
    refine j_getR 50 f_Wo_12 d_Wo_sum_37 (tg_49 hE) (q_okE hE (by decide)) (rf_49_0 hE) (by decide) ?_
    refine j_iload d_Wo_sum_40 0 rfl ?_
    refine j_aload_n d_Wo_sum_42 1 rfl ?_
    refine j_getR 58 f_Wo_18 d_Wo_sum_43 (tg_49 hE) (q_okE hE (by decide)) (rf_49_1 hE) (by decide) ?_
    refine j_iload_n d_Wo_sum_46 3 rfl ?_
    refine j_iload d_Wo_sum_47 7 rfl ?_
    refine zj_iadd (x2 + x7) rfl d_Wo_sum_49 ?_
    obtain ⟨c7, h⟩ := h
    refine zj_iald (z σ 58 (x2 + x7).toNat) d_Wo_sum_50 (tg_58 hE) (q_okE hE (by decide)) c7 (by decide) (q_z _ _ _) ?_
    refine j_iload d_Wo_sum_51 5 rfl ?_
    refine zj_ixor d_Wo_sum_53 ?_
    refine j_callV m_Ci_xor [.int (zI (z σ 58 (x1 + x7).toNat)), .int (zI (zXor (z σ 58 (x2 + x7).toNat) x5))] [] d 0 0 cV_Wo_52 d_Wo_sum_54 rfl rfl (tg_50 hE) (q_okE hE (by decide)) (Nat.le_of_ble_eq_true rfl) (Nat.le_refl _) (Nat.le_of_ble_eq_true rfl) (Nat.zero_le _) (Nat.zero_le _) h (fun v τ h => ?_) (fun x τ h => ?_)
    · obtain ⟨v, hv, e1, h⟩ := h; cases e1; exact j_sel [1, 2, 3, 4, 5, 6, 7, 0] rfl h
    · obtain ⟨v, hv, e1, h⟩ := h; cases e1
set_option maxHeartbeats 2000000 in
theorem b_Wo_sum_57 {ω : q_W} {σ : q_H} {Q : q_R → q_H → Prop} {d mc ms : Nat} {x1 : Int} {x2 : Int} {x3 : Int} {x5 : Int} {x6 : Int} {x7 : Int} {x8 : Int} {y0 : Int}  (hE : q_E σ) (h : (J ω m_Ci_xor d 0 0 0 0 0 [(0, .ref 50), (1, .int (zI y0)), (2, .int (zI x6))] [] σ (q_ki (fun v τ => J ω m_Wo_sum (d + 1) mc ms 0 0 78 [(0, .ref 49), (1, .int (zI x1)), (2, .int (zI x2)), (3, .int (zI x3)), (5, .int (zI x5)), (6, .int (zI x6)), (7, .int (zI x7)), (8, .int (zI x8)), (9, .int (zI y0))] [.int (zI v), .int (zI (x1 + x7)), .ref 58] τ Q)))) : J ω m_Wo_sum (d + 1) mc ms 0 0 57 [(0, .ref 49), (1, .int (zI x1)), (2, .int (zI x2)), (3, .int (zI x3)), (5, .int (zI x5)), (6, .int (zI x6)), (7, .int (zI x7)), (8, .int (zI x8))] [.int (zI y0)] σ Q := by
  refine j_istore (L' := [(9, .int (zI y0)), (0, .ref 49), (1, .int (zI x1)), (2, .int (zI x2)), (3, .int (zI x3)), (5, .int (zI x5)), (6, .int (zI x6)), (7, .int (zI x7)), (8, .int (zI x8))]) d_Wo_sum_57 (by decide) rfl ?_
  refine j_aload_n d_Wo_sum_59 1 rfl ?_
  refine j_getR 58 f_Wo_18 d_Wo_sum_60 (tg_49 hE) (q_okE hE (by decide)) (rf_49_1 hE) (by decide) ?_
  refine j_iload_n d_Wo_sum_63 2 rfl ?_
  refine j_iload d_Wo_sum_64 7 rfl ?_
  refine zj_iadd (x1 + x7) rfl d_Wo_sum_66 ?_
  refine j_aload_n d_Wo_sum_67 1 rfl ?_
  refine j_getR 50 f_Wo_12 d_Wo_sum_68 (tg_49 hE) (q_okE hE (by decide)) (rf_49_0 hE) (by decide) ?_
  refine j_iload d_Wo_sum_71 0 rfl ?_
  refine j_iload d_Wo_sum_73 6 rfl ?_
  refine j_callV m_Ci_xor [.int (zI y0), .int (zI x6)] [.int (zI (x1 + x7)), .ref 58] d 0 0 cV_Wo_52 d_Wo_sum_75 rfl rfl (tg_50 hE) (q_okE hE (by decide)) (Nat.le_of_ble_eq_true rfl) (Nat.le_refl _) (Nat.le_of_ble_eq_true rfl) (Nat.zero_le _) (Nat.zero_le _) h (fun v τ h => ?_) (fun x τ h => ?_)
  · obtain ⟨v, hv, e1, h⟩ := h; cases e1; exact j_sel [1, 2, 3, 4, 5, 6, 7, 8, 0] rfl h
  · obtain ⟨v, hv, e1, h⟩ := h; cases e1
set_option maxHeartbeats 2000000 in
theorem b_Wo_sum_78 {ω : q_W} {σ : q_H} {Q : q_R → q_H → Prop} {d mc ms : Nat} {x1 : Int} {x2 : Int} {x3 : Int} {x5 : Int} {x6 : Int} {x7 : Int} {x8 : Int} {x9 : Int} {y0 : Int} {y1 : Int}  (hE : q_E σ) (h : (0 ≤ y1 ∧ y1 < 3200) ∧ (J ω m_Ci_pick d 0 0 0 0 0 [(0, .ref 50), (1, .int (zI x9)), (2, .int (zI x6)), (3, .int (zI x8))] [] (zs σ 58 y1.toNat y0) (q_ki (fun v τ => J ω m_Wo_sum (d + 1) mc ms 0 0 92 [(0, .ref 49), (1, .int (zI x1)), (2, .int (zI x2)), (3, .int (zI x3)), (5, .int (zI x5)), (7, .int (zI x7))] [.int (zI v)] τ Q)))) : J ω m_Wo_sum (d + 1) mc ms 0 0 78 [(0, .ref 49), (1, .int (zI x1)), (2, .int (zI x2)), (3, .int (zI x3)), (5, .int (zI x5)), (6, .int (zI x6)), (7, .int (zI x7)), (8, .int (zI x8)), (9, .int (zI x9))] [.int (zI y0), .int (zI y1), .ref 58] σ Q := by
  obtain ⟨c8, h⟩ := h
  refine zj_iast d_Wo_sum_78 (tg_58 hE) (q_okE hE (by decide)) c8 (by decide) ?_
  refine j_aload_n d_Wo_sum_79 0 rfl ?_
  refine j_getR 50 f_Wo_12 d_Wo_sum_80 (tg_49 (zs_E hE)) (q_okE (zs_E hE) (by decide)) (rf_49_0 (zs_E hE)) (by decide) ?_
  refine j_iload d_Wo_sum_83 8 rfl ?_
  refine j_iload d_Wo_sum_85 5 rfl ?_
  refine j_iload d_Wo_sum_87 7 rfl ?_
  refine j_callV m_Ci_pick [.int (zI x9), .int (zI x6), .int (zI x8)] [] d 0 0 cV_Wo_55 d_Wo_sum_89 rfl rfl (tg_50 (zs_E hE)) (q_okE (zs_E hE) (by decide)) (Nat.le_of_ble_eq_true rfl) (Nat.le_refl _) (Nat.le_of_ble_eq_true rfl) (Nat.zero_le _) (Nat.zero_le _) h (fun v τ h => ?_) (fun x τ h => ?_)
  · obtain ⟨v, hv, e1, h⟩ := h; cases e1; exact j_sel [0, 1, 2, 3, 4, 6] rfl h
  · obtain ⟨v, hv, e1, h⟩ := h; cases e1
set_option maxHeartbeats 2000000 in
theorem b_Wo_sum_92 {ω : q_W} {σ : q_H} {Q : q_R → q_H → Prop} {d mc ms : Nat} {x1 : Int} {x2 : Int} {x3 : Int} {x5 : Int} {x7 : Int} {y0 : Int}  (hE : q_E σ) (h : (J ω m_Wo_sum (d + 1) mc ms 0 0 19 [(0, .ref 49), (1, .int (zI x1)), (2, .int (zI x2)), (3, .int (zI x3)), (5, .int (zI x5)), (6, .int (zI y0)), (7, .int (zI (x7 + 1)))] [] σ Q)) : J ω m_Wo_sum (d + 1) mc ms 0 0 92 [(0, .ref 49), (1, .int (zI x1)), (2, .int (zI x2)), (3, .int (zI x3)), (5, .int (zI x5)), (7, .int (zI x7))] [.int (zI y0)] σ Q := by
  refine j_istore (L' := [(6, .int (zI y0)), (0, .ref 49), (1, .int (zI x1)), (2, .int (zI x2)), (3, .int (zI x3)), (5, .int (zI x5)), (7, .int (zI x7))]) d_Wo_sum_92 (by decide) rfl ?_
  refine zj_iinc (L' := [(7, .int (zI (x7 + 1))), (6, .int (zI y0)), (0, .ref 49), (1, .int (zI x1)), (2, .int (zI x2)), (3, .int (zI x3)), (5, .int (zI x5))]) (x7 + 1) d_Wo_sum_94 6 rfl (by omega) (by decide) rfl ?_
  refine j_goto 19 d_Wo_sum_97 (by decide) ?_
  exact j_sel [2, 3, 4, 5, 6, 1, 0] rfl h
set_option maxHeartbeats 2000000 in
theorem b_Wo_multiply_0 {ω : q_W} {σ : q_H} {Q : q_R → q_H → Prop} {d mc ms : Nat} {x1 : Int} {x2 : Int} {x3 : Int}  (hE : q_E σ) (h : (J ω m_Wo_multiply (d + 1) mc ms 0 0 11 [(0, .ref 49), (1, .int (zI x1)), (2, .int (zI x2)), (3, .int (zI x3)), (4, .int (zI 0))] [] (zfl σ 59 8 1) Q)) : J ω m_Wo_multiply (d + 1) mc ms 0 0 0 [(0, .ref 49), (1, .int (zI x1)), (2, .int (zI x2)), (3, .int (zI x3))] [] σ Q := by
  refine j_aload_n d_Wo_multiply_0 0 rfl ?_
  refine j_getR 59 f_Wo_22 d_Wo_multiply_1 (tg_49 hE) (q_okE hE (by decide)) (rf_49_2 hE) (by decide) ?_
  refine j_iconst (v := zI 1) d_Wo_multiply_4 (by decide) ?_
  refine j_callS m_JA_fill [.ref 59, .int (zI 1)] [] 0 0 0 cS_Wo_85 d_Wo_multiply_5 rfl rfl (Nat.le_of_ble_eq_true rfl) (Nat.succ_le_succ (Nat.zero_le _)) (Nat.le_of_ble_eq_true rfl) (Nat.zero_le _) (Nat.zero_le _) (c_JA_fill (tg_59 hE) (q_okE hE (by decide)) (by decide) (by decide) _) (fun v τ h => ?_) (fun x τ h => absurd h.1 (by simp))
  obtain ⟨e1, e2⟩ := h; cases e1; rw [e2]
  refine j_iconst (v := zI 0) d_Wo_multiply_8 (by decide) ?_
  refine j_istore (L' := [(4, .int (zI 0)), (0, .ref 49), (1, .int (zI x1)), (2, .int (zI x2)), (3, .int (zI x3))]) d_Wo_multiply_9 (by decide) rfl ?_
  exact j_sel [1, 2, 3, 4, 0] rfl h
set_option maxHeartbeats 2000000 in
theorem b_Wo_multiply_11 {ω : q_W} {σ : q_H} {Q : q_R → q_H → Prop} {d mc ms : Nat} {x1 : Int} {x2 : Int} {x3 : Int} {x4 : Int}  (hE : q_E σ) (h : inR x4 ∧ inR x3 ∧ q_imp (x4 ≥ x3) (((0 : Int) ≤ 0 ∧ (0 : Int) ≤ x1 ∧ (0 : Int) ≤ 8 ∧ (0 : Int) + 8 ≤ ((8 : Nat) : Int) ∧ (x1 : Int) + 8 ≤ ((3200 : Nat) : Int)) ∧ (Q (.inl none) (zcp σ 59 0 58 x1.toNat 8))) ∧ q_imp (x4 < x3) ((J ω m_Wo_multiply (d + 1) mc ms 0 0 24 [(0, .ref 49), (1, .int (zI x1)), (2, .int (zI x2)), (3, .int (zI x3)), (4, .int (zI x4)), (5, .int (zI 1)), (6, .int (zI x4))] [] σ Q))) : J ω m_Wo_multiply (d + 1) mc ms 0 0 11 [(0, .ref 49), (1, .int (zI x1)), (2, .int (zI x2)), (3, .int (zI x3)), (4, .int (zI x4))] [] σ Q := by
  refine j_iload d_Wo_multiply_11 4 rfl ?_
  refine j_iload_n d_Wo_multiply_13 3 rfl ?_
  obtain ⟨r1, h⟩ := h
  obtain ⟨r2, h⟩ := h
  obtain ⟨h1, h2⟩ := h
  refine zj_icmp_ge 123 d_Wo_multiply_14 (by decide) r1 r2 (fun k3 => ?_) (fun k3 => ?_)
  · have h := h1 k3
    refine j_aload_n d_Wo_multiply_123 0 rfl ?_
    refine j_getR 59 f_Wo_22 d_Wo_multiply_124 (tg_49 hE) (q_okE hE (by decide)) (rf_49_2 hE) (by decide) ?_
    refine j_iconst (v := zI 0) d_Wo_multiply_127 (by decide) ?_
    refine j_aload_n d_Wo_multiply_128 0 rfl ?_
    refine j_getR 58 f_Wo_18 d_Wo_multiply_129 (tg_49 hE) (q_okE hE (by decide)) (rf_49_1 hE) (by decide) ?_
    refine j_iload_n d_Wo_multiply_132 1 rfl ?_
    refine j_bipush (v := zI 8) d_Wo_multiply_133 (by decide) ?_
    obtain ⟨c4, h⟩ := h
    refine zj_copy (List.mem_of_getElem? (i := 1038) (by decide +kernel)) d_Wo_multiply_135 (tg_59 hE) (q_okE hE (by decide)) (tg_58 hE) (q_okE hE (by decide)) c4 (by decide) (by decide) (Nat.succ_le_succ (Nat.zero_le _)) (Nat.le_of_ble_eq_true rfl) ?_
    exact j_vret d_Wo_multiply_138 rfl (Nat.zero_le _) (Nat.zero_le _) h
  · have h := h2 k3
    refine j_iconst (v := zI 1) d_Wo_multiply_17 (by decide) ?_
    refine j_istore (L' := [(5, .int (zI 1)), (0, .ref 49), (1, .int (zI x1)), (2, .int (zI x2)), (3, .int (zI x3)), (4, .int (zI x4))]) d_Wo_multiply_18 (by decide) rfl ?_
    refine j_iload d_Wo_multiply_20 5 rfl ?_
    refine j_istore (L' := [(6, .int (zI x4)), (5, .int (zI 1)), (0, .ref 49), (1, .int (zI x1)), (2, .int (zI x2)), (3, .int (zI x3)), (4, .int (zI x4))]) d_Wo_multiply_22 (by decide) rfl ?_
    exact j_sel [2, 3, 4, 5, 6, 1, 0] rfl h
set_option maxHeartbeats 2000000 in
theorem b_Wo_multiply_24 {ω : q_W} {σ : q_H} {Q : q_R → q_H → Prop} {d mc ms : Nat} {x1 : Int} {x2 : Int} {x3 : Int} {x4 : Int} {x5 : Int} {x6 : Int}  (hE : q_E σ) (h : inR x6 ∧ inR x3 ∧ q_imp (x6 ≥ x3) ((J ω m_Wo_multiply (d + 1) mc ms 0 0 11 [(0, .ref 49), (1, .int (zI x1)), (2, .int (zI x2)), (3, .int (zI x3)), (4, .int (zI (x4 + 1)))] [] σ Q)) ∧ q_imp (x6 < x3) ((0 ≤ x6 ∧ x6 < 8) ∧ (0 ≤ ((x1 + x6) - x4) ∧ ((x1 + x6) - x4) < 3200) ∧ (0 ≤ (x2 + x4) ∧ (x2 + x4) < 3200) ∧ (J ω m_Ci_and d 0 0 0 0 0 [(0, .ref 50), (1, .int (zI (z σ 58 ((x1 + x6) - x4).toNat))), (2, .int (zI (z σ 58 (x2 + x4).toNat)))] [] σ (q_ki (fun v τ => J ω m_Wo_multiply (d + 1) mc ms 0 0 73 [(0, .ref 49), (1, .int (zI x1)), (2, .int (zI x2)), (3, .int (zI x3)), (4, .int (zI x4)), (5, .int (zI x5)), (6, .int (zI x6)), (7, .int (zI (z σ 59 x6.toNat)))] [.int (zI v), .int (zI (z σ 59 x6.toNat)), .ref 50] τ Q))))) : J ω m_Wo_multiply (d + 1) mc ms 0 0 24 [(0, .ref 49), (1, .int (zI x1)), (2, .int (zI x2)), (3, .int (zI x3)), (4, .int (zI x4)), (5, .int (zI x5)), (6, .int (zI x6))] [] σ Q := by
  refine j_iload d_Wo_multiply_24 6 rfl ?_
  refine j_iload_n d_Wo_multiply_26 3 rfl ?_
  obtain ⟨r5, h⟩ := h
  obtain ⟨r6, h⟩ := h
  obtain ⟨h1, h2⟩ := h
  refine zj_icmp_ge 117 d_Wo_multiply_27 (by decide) r5 r6 (fun k7 => ?_) (fun k7 => ?_)
  · have h := h1 k7
    refine zj_iinc (L' := [(4, .int (zI (x4 + 1))), (0, .ref 49), (1, .int (zI x1)), (2, .int (zI x2)), (3, .int (zI x3)), (5, .int (zI x5)), (6, .int (zI x6))]) (x4 + 1) d_Wo_multiply_117 4 rfl (by omega) (by decide) rfl ?_
    refine j_goto 11 d_Wo_multiply_120 (by decide) ?_
    exact j_sel [1, 2, 3, 4, 0] rfl h
  · have h := h2 k7
    refine j_aload_n d_Wo_multiply_30 0 rfl ?_
    refine j_getR 59 f_Wo_22 d_Wo_multiply_31 (tg_49 hE) (q_okE hE (by decide)) (rf_49_2 hE) (by decide) ?_
    refine j_iload d_Wo_multiply_34 6 rfl ?_
    obtain ⟨c8, h⟩ := h
    refine zj_iald (z σ 59 x6.toNat) d_Wo_multiply_36 (tg_59 hE) (q_okE hE (by decide)) c8 (by decide) (q_z _ _ _) ?_
    refine j_istore (L' := [(7, .int (zI (z σ 59 x6.toNat))), (0, .ref 49), (1, .int (zI x1)), (2, .int (zI x2)), (3, .int (zI x3)), (4, .int (zI x4)), (5, .int (zI x5)), (6, .int (zI x6))]) d_Wo_multiply_37 (by decide) rfl ?_
    refine j_aload_n d_Wo_multiply_39 1 rfl ?_
    refine j_getR 50 f_Wo_12 d_Wo_multiply_40 (tg_49 hE) (q_okE hE (by decide)) (rf_49_0 hE) (by decide) ?_
    refine j_iload d_Wo_multiply_43 0 rfl ?_
    refine j_aload_n d_Wo_multiply_45 1 rfl ?_
    refine j_getR 50 f_Wo_12 d_Wo_multiply_46 (tg_49 hE) (q_okE hE (by decide)) (rf_49_0 hE) (by decide) ?_
    refine j_aload_n d_Wo_multiply_49 1 rfl ?_
    refine j_getR 58 f_Wo_18 d_Wo_multiply_50 (tg_49 hE) (q_okE hE (by decide)) (rf_49_1 hE) (by decide) ?_
    refine j_iload_n d_Wo_multiply_53 2 rfl ?_
    refine j_iload d_Wo_multiply_54 7 rfl ?_
    refine zj_iadd (x1 + x6) rfl d_Wo_multiply_56 ?_
    refine j_iload d_Wo_multiply_57 5 rfl ?_
    refine zj_isub ((x1 + x6) - x4) rfl d_Wo_multiply_59 ?_
    obtain ⟨c9, h⟩ := h
    refine zj_iald (z σ 58 ((x1 + x6) - x4).toNat) d_Wo_multiply_60 (tg_58 hE) (q_okE hE (by decide)) c9 (by decide) (q_z _ _ _) ?_
    refine j_aload_n d_Wo_multiply_61 1 rfl ?_
    refine j_getR 58 f_Wo_18 d_Wo_multiply_62 (tg_49 hE) (q_okE hE (by decide)) (rf_49_1 hE) (by decide) ?_
    refine j_iload_n d_Wo_multiply_65 3 rfl ?_
    refine j_iload d_Wo_multiply_66 5 rfl ?_
    refine zj_iadd (x2 + x4) rfl d_Wo_multiply_68 ?_
    obtain ⟨c10, h⟩ := h
    refine zj_iald (z σ 58 (x2 + x4).toNat) d_Wo_multiply_69 (tg_58 hE) (q_okE hE (by decide)) c10 (by decide) (q_z _ _ _) ?_
    refine j_callV m_Ci_and [.int (zI (z σ 58 ((x1 + x6) - x4).toNat)), .int (zI (z σ 58 (x2 + x4).toNat))] [.int (zI (z σ 59 x6.toNat)), .ref 50] d 0 0 cV_Wo_42 d_Wo_multiply_70 rfl rfl (tg_50 hE) (q_okE hE (by decide)) (Nat.le_of_ble_eq_true rfl) (Nat.le_refl _) (Nat.le_of_ble_eq_true rfl) (Nat.zero_le _) (Nat.zero_le _) h (fun v τ h => ?_) (fun x τ h => ?_)
    · obtain ⟨v, hv, e1, h⟩ := h; cases e1; exact j_sel [1, 2, 3, 4, 5, 6, 7, 0] rfl h
    · obtain ⟨v, hv, e1, h⟩ := h; cases e1
set_option maxHeartbeats 2000000 in
theorem b_Wo_multiply_73 {ω : q_W} {σ : q_H} {Q : q_R → q_H → Prop} {d mc ms : Nat} {x1 : Int} {x2 : Int} {x3 : Int} {x4 : Int} {x5 : Int} {x6 : Int} {x7 : Int} {y0 : Int} {y1 : Int}  (hE : q_E σ) (h : (J ω m_Ci_xor d 0 0 0 0 0 [(0, .ref 50), (1, .int (zI y1)), (2, .int (zI y0))] [] σ (q_ki (fun v τ => J ω m_Wo_multiply (d + 1) mc ms 0 0 76 [(0, .ref 49), (1, .int (zI x1)), (2, .int (zI x2)), (3, .int (zI x3)), (4, .int (zI x4)), (5, .int (zI x5)), (6, .int (zI x6)), (7, .int (zI x7))] [.int (zI v)] τ Q)))) : J ω m_Wo_multiply (d + 1) mc ms 0 0 73 [(0, .ref 49), (1, .int (zI x1)), (2, .int (zI x2)), (3, .int (zI x3)), (4, .int (zI x4)), (5, .int (zI x5)), (6, .int (zI x6)), (7, .int (zI x7))] [.int (zI y0), .int (zI y1), .ref 50] σ Q := by
  refine j_callV m_Ci_xor [.int (zI y1), .int (zI y0)] [] d 0 0 cV_Wo_52 d_Wo_multiply_73 rfl rfl (tg_50 hE) (q_okE hE (by decide)) (Nat.le_of_ble_eq_true rfl) (Nat.le_refl _) (Nat.le_of_ble_eq_true rfl) (Nat.zero_le _) (Nat.zero_le _) h (fun v τ h => ?_) (fun x τ h => ?_)
  · obtain ⟨v, hv, e1, h⟩ := h; cases e1; exact j_sel [0, 1, 2, 3, 4, 5, 6, 7] rfl h
  · obtain ⟨v, hv, e1, h⟩ := h; cases e1
set_option maxHeartbeats 2000000 in
theorem b_Wo_multiply_76 {ω : q_W} {σ : q_H} {Q : q_R → q_H → Prop} {d mc ms : Nat} {x1 : Int} {x2 : Int} {x3 : Int} {x4 : Int} {x5 : Int} {x6 : Int} {x7 : Int} {y0 : Int}  (hE : q_E σ) (h : (J ω m_Ci_xor d 0 0 0 0 0 [(0, .ref 50), (1, .int (zI y0)), (2, .int (zI x5))] [] σ (q_ki (fun v τ => J ω m_Wo_multiply (d + 1) mc ms 0 0 95 [(0, .ref 49), (1, .int (zI x1)), (2, .int (zI x2)), (3, .int (zI x3)), (4, .int (zI x4)), (5, .int (zI x5)), (6, .int (zI x6)), (7, .int (zI x7)), (8, .int (zI y0))] [.int (zI v), .int (zI x6), .ref 59] τ Q)))) : J ω m_Wo_multiply (d + 1) mc ms 0 0 76 [(0, .ref 49), (1, .int (zI x1)), (2, .int (zI x2)), (3, .int (zI x3)), (4, .int (zI x4)), (5, .int (zI x5)), (6, .int (zI x6)), (7, .int (zI x7))] [.int (zI y0)] σ Q := by
  refine j_istore (L' := [(8, .int (zI y0)), (0, .ref 49), (1, .int (zI x1)), (2, .int (zI x2)), (3, .int (zI x3)), (4, .int (zI x4)), (5, .int (zI x5)), (6, .int (zI x6)), (7, .int (zI x7))]) d_Wo_multiply_76 (by decide) rfl ?_
  refine j_aload_n d_Wo_multiply_78 1 rfl ?_
  refine j_getR 59 f_Wo_22 d_Wo_multiply_79 (tg_49 hE) (q_okE hE (by decide)) (rf_49_2 hE) (by decide) ?_
  refine j_iload d_Wo_multiply_82 7 rfl ?_
  refine j_aload_n d_Wo_multiply_84 1 rfl ?_
  refine j_getR 50 f_Wo_12 d_Wo_multiply_85 (tg_49 hE) (q_okE hE (by decide)) (rf_49_0 hE) (by decide) ?_
  refine j_iload d_Wo_multiply_88 0 rfl ?_
  refine j_iload d_Wo_multiply_90 6 rfl ?_
  refine j_callV m_Ci_xor [.int (zI y0), .int (zI x5)] [.int (zI x6), .ref 59] d 0 0 cV_Wo_52 d_Wo_multiply_92 rfl rfl (tg_50 hE) (q_okE hE (by decide)) (Nat.le_of_ble_eq_true rfl) (Nat.le_refl _) (Nat.le_of_ble_eq_true rfl) (Nat.zero_le _) (Nat.zero_le _) h (fun v τ h => ?_) (fun x τ h => ?_)
  · obtain ⟨v, hv, e1, h⟩ := h; cases e1; exact j_sel [1, 2, 3, 4, 5, 6, 7, 8, 0] rfl h
  · obtain ⟨v, hv, e1, h⟩ := h; cases e1
set_option maxHeartbeats 2000000 in
theorem b_Wo_multiply_95 {ω : q_W} {σ : q_H} {Q : q_R → q_H → Prop} {d mc ms : Nat} {x1 : Int} {x2 : Int} {x3 : Int} {x4 : Int} {x5 : Int} {x6 : Int} {x7 : Int} {x8 : Int} {y0 : Int} {y1 : Int}  (hE : q_E σ) (h : (0 ≤ y1 ∧ y1 < 8) ∧ (J ω m_Ci_pick d 0 0 0 0 0 [(0, .ref 50), (1, .int (zI x8)), (2, .int (zI x5)), (3, .int (zI x7))] [] (zs σ 59 y1.toNat y0) (q_ki (fun v τ => J ω m_Wo_multiply (d + 1) mc ms 0 0 109 [(0, .ref 49), (1, .int (zI x1)), (2, .int (zI x2)), (3, .int (zI x3)), (4, .int (zI x4)), (6, .int (zI x6))] [.int (zI v)] τ Q)))) : J ω m_Wo_multiply (d + 1) mc ms 0 0 95 [(0, .ref 49), (1, .int (zI x1)), (2, .int (zI x2)), (3, .int (zI x3)), (4, .int (zI x4)), (5, .int (zI x5)), (6, .int (zI x6)), (7, .int (zI x7)), (8, .int (zI x8))] [.int (zI y0), .int (zI y1), .ref 59] σ Q := by
  obtain ⟨c11, h⟩ := h
  refine zj_iast d_Wo_multiply_95 (tg_59 hE) (q_okE hE (by decide)) c11 (by decide) ?_
  refine j_aload_n d_Wo_multiply_96 0 rfl ?_
  refine j_getR 50 f_Wo_12 d_Wo_multiply_97 (tg_49 (zs_E hE)) (q_okE (zs_E hE) (by decide)) (rf_49_0 (zs_E hE)) (by decide) ?_
  refine j_iload d_Wo_multiply_100 8 rfl ?_
  refine j_iload d_Wo_multiply_102 5 rfl ?_
  refine j_iload d_Wo_multiply_104 7 rfl ?_
  refine j_callV m_Ci_pick [.int (zI x8), .int (zI x5), .int (zI x7)] [] d 0 0 cV_Wo_55 d_Wo_multiply_106 rfl rfl (tg_50 (zs_E hE)) (q_okE (zs_E hE) (by decide)) (Nat.le_of_ble_eq_true rfl) (Nat.le_refl _) (Nat.le_of_ble_eq_true rfl) (Nat.zero_le _) (Nat.zero_le _) h (fun v τ h => ?_) (fun x τ h => ?_)
  · obtain ⟨v, hv, e1, h⟩ := h; cases e1; exact j_sel [0, 1, 2, 3, 4, 6] rfl h
  · obtain ⟨v, hv, e1, h⟩ := h; cases e1
set_option maxHeartbeats 2000000 in
theorem b_Wo_multiply_109 {ω : q_W} {σ : q_H} {Q : q_R → q_H → Prop} {d mc ms : Nat} {x1 : Int} {x2 : Int} {x3 : Int} {x4 : Int} {x6 : Int} {y0 : Int}  (hE : q_E σ) (h : (J ω m_Wo_multiply (d + 1) mc ms 0 0 24 [(0, .ref 49), (1, .int (zI x1)), (2, .int (zI x2)), (3, .int (zI x3)), (4, .int (zI x4)), (5, .int (zI y0)), (6, .int (zI (x6 + 1)))] [] σ Q)) : J ω m_Wo_multiply (d + 1) mc ms 0 0 109 [(0, .ref 49), (1, .int (zI x1)), (2, .int (zI x2)), (3, .int (zI x3)), (4, .int (zI x4)), (6, .int (zI x6))] [.int (zI y0)] σ Q := by
  refine j_istore (L' := [(5, .int (zI y0)), (0, .ref 49), (1, .int (zI x1)), (2, .int (zI x2)), (3, .int (zI x3)), (4, .int (zI x4)), (6, .int (zI x6))]) d_Wo_multiply_109 (by decide) rfl ?_
  refine zj_iinc (L' := [(6, .int (zI (x6 + 1))), (5, .int (zI y0)), (0, .ref 49), (1, .int (zI x1)), (2, .int (zI x2)), (3, .int (zI x3)), (4, .int (zI x4))]) (x6 + 1) d_Wo_multiply_111 6 rfl (by omega) (by decide) rfl ?_
  refine j_goto 24 d_Wo_multiply_114 (by decide) ?_
  exact j_sel [2, 3, 4, 5, 6, 1, 0] rfl h
set_option maxHeartbeats 2000000 in
theorem b_Wo_divide_0 {ω : q_W} {σ : q_H} {Q : q_R → q_H → Prop} {d mc ms : Nat} {x1 : Int} {x2 : Int} {x3 : Int} {x4 : Int}  (hE : q_E σ) (h : (J ω m_Wo_divide (d + 1) mc ms 0 0 6 [(0, .ref 49), (1, .int (zI x1)), (2, .int (zI x2)), (3, .int (zI x3)), (4, .int (zI x4)), (5, .int (zI (x4 - 1)))] [] σ Q)) : J ω m_Wo_divide (d + 1) mc ms 0 0 0 [(0, .ref 49), (1, .int (zI x1)), (2, .int (zI x2)), (3, .int (zI x3)), (4, .int (zI x4))] [] σ Q := by
  refine j_iload d_Wo_divide_0 4 rfl ?_
  refine j_iconst (v := zI 1) d_Wo_divide_2 (by decide) ?_
  refine zj_isub (x4 - 1) (by omega) d_Wo_divide_3 ?_
  refine j_istore (L' := [(5, .int (zI (x4 - 1))), (0, .ref 49), (1, .int (zI x1)), (2, .int (zI x2)), (3, .int (zI x3)), (4, .int (zI x4))]) d_Wo_divide_4 (by decide) rfl ?_
  exact j_sel [1, 2, 3, 4, 5, 0] rfl h
set_option maxHeartbeats 2000000 in
theorem b_Wo_divide_6 {ω : q_W} {σ : q_H} {Q : q_R → q_H → Prop} {d mc ms : Nat} {x1 : Int} {x2 : Int} {x3 : Int} {x4 : Int} {x5 : Int}  (hE : q_E σ) (h : inR x5 ∧ q_imp (x5 < 0) (inR x1 ∧ q_imp (x1 ≠ 18) ((Q (.inl none) σ)) ∧ q_imp (x1 = 18) (((0 : Int) ≤ 0 ∧ (0 : Int) ≤ x2 ∧ (0 : Int) ≤ x4 ∧ (0 : Int) + x4 ≤ ((8 : Nat) : Int) ∧ (x2 : Int) + x4 ≤ ((3200 : Nat) : Int)) ∧ (Q (.inl none) (zcp σ 59 0 58 x2.toNat x4.toNat)))) ∧ q_imp (0 ≤ x5) (((0 : Int) ≤ 0 ∧ (0 : Int) ≤ 1 ∧ (0 : Int) ≤ 7 ∧ (0 : Int) + 7 ≤ ((8 : Nat) : Int) ∧ (1 : Int) + 7 ≤ ((8 : Nat) : Int)) ∧ (0 ≤ (x2 + x5) ∧ (x2 + x5) < 3200) ∧ (J ω m_Wo_divide (d + 1) mc ms 0 0 54 [(0, .ref 49), (1, .int (zI x1)), (2, .int (zI x2)), (3, .int (zI x3)), (4, .int (zI x4)), (5, .int (zI x5)), (6, .int (zI (x4 - x5))), (7, .int (zI 0)), (8, .int (zI 0))] [] (zs (zcp σ 59 0 59 1 7) 59 0 (z σ 58 (x2 + x5).toNat)) Q))) : J ω m_Wo_divide (d + 1) mc ms 0 0 6 [(0, .ref 49), (1, .int (zI x1)), (2, .int (zI x2)), (3, .int (zI x3)), (4, .int (zI x4)), (5, .int (zI x5))] [] σ Q := by
  refine j_iload d_Wo_divide_6 5 rfl ?_
  obtain ⟨r1, h⟩ := h
  obtain ⟨h1, h2⟩ := h
  refine zj_if_lt 218 d_Wo_divide_8 (by decide) r1 (fun k2 => ?_) (fun k2 => ?_)
  · have h := h1 k2
    refine j_iload_n d_Wo_divide_218 1 rfl ?_
    refine j_bipush (v := zI 18) d_Wo_divide_219 (by decide) ?_
    obtain ⟨r3, h⟩ := h
    obtain ⟨h1, h2⟩ := h
    refine zj_icmp_ne 239 d_Wo_divide_221 (by decide) r3 ⟨by decide, by decide⟩ (fun k4 => ?_) (fun k4 => ?_)
    · have h := h1 k4
      exact j_vret d_Wo_divide_239 rfl (Nat.zero_le _) (Nat.zero_le _) h
    · have h := h2 k4
      refine j_aload_n d_Wo_divide_224 0 rfl ?_
      refine j_getR 59 f_Wo_22 d_Wo_divide_225 (tg_49 hE) (q_okE hE (by decide)) (rf_49_2 hE) (by decide) ?_
      refine j_iconst (v := zI 0) d_Wo_divide_228 (by decide) ?_
      refine j_aload_n d_Wo_divide_229 0 rfl ?_
      refine j_getR 58 f_Wo_18 d_Wo_divide_230 (tg_49 hE) (q_okE hE (by decide)) (rf_49_1 hE) (by decide) ?_
      refine j_iload_n d_Wo_divide_233 2 rfl ?_
      refine j_iload d_Wo_divide_234 4 rfl ?_
      obtain ⟨c5, h⟩ := h
      refine zj_copy (List.mem_of_getElem? (i := 1038) (by decide +kernel)) d_Wo_divide_236 (tg_59 hE) (q_okE hE (by decide)) (tg_58 hE) (q_okE hE (by decide)) c5 (by decide) (by decide) (Nat.succ_le_succ (Nat.zero_le _)) (Nat.le_of_ble_eq_true rfl) ?_
      exact j_vret d_Wo_divide_239 rfl (Nat.zero_le _) (Nat.zero_le _) h
  · have h := h2 k2
    refine j_iload d_Wo_divide_11 4 rfl ?_
    refine j_iload d_Wo_divide_13 5 rfl ?_
    refine zj_isub (x4 - x5) rfl d_Wo_divide_15 ?_
    refine j_istore (L' := [(6, .int (zI (x4 - x5))), (0, .ref 49), (1, .int (zI x1)), (2, .int (zI x2)), (3, .int (zI x3)), (4, .int (zI x4)), (5, .int (zI x5))]) d_Wo_divide_16 (by decide) rfl ?_
    refine j_aload_n d_Wo_divide_18 1 rfl ?_
    refine j_getR 59 f_Wo_22 d_Wo_divide_19 (tg_49 hE) (q_okE hE (by decide)) (rf_49_2 hE) (by decide) ?_
    refine j_iconst (v := zI 0) d_Wo_divide_22 (by decide) ?_
    refine j_aload_n d_Wo_divide_23 1 rfl ?_
    refine j_getR 59 f_Wo_22 d_Wo_divide_24 (tg_49 hE) (q_okE hE (by decide)) (rf_49_2 hE) (by decide) ?_
    refine j_iconst (v := zI 1) d_Wo_divide_27 (by decide) ?_
    refine j_bipush (v := zI 7) d_Wo_divide_28 (by decide) ?_
    obtain ⟨c6, h⟩ := h
    refine zj_copy (List.mem_of_getElem? (i := 1038) (by decide +kernel)) d_Wo_divide_30 (tg_59 hE) (q_okE hE (by decide)) (tg_59 hE) (q_okE hE (by decide)) c6 (by decide) (by decide) (Nat.succ_le_succ (Nat.zero_le _)) (Nat.le_of_ble_eq_true rfl) ?_
    refine j_aload_n d_Wo_divide_33 1 rfl ?_
    refine j_getR 59 f_Wo_22 d_Wo_divide_34 (tg_49 (zcp_E hE)) (q_okE (zcp_E hE) (by decide)) (rf_49_2 (zcp_E hE)) (by decide) ?_
    refine j_iconst (v := zI 0) d_Wo_divide_37 (by decide) ?_
    refine j_aload_n d_Wo_divide_38 1 rfl ?_
    refine j_getR 58 f_Wo_18 d_Wo_divide_39 (tg_49 (zcp_E hE)) (q_okE (zcp_E hE) (by decide)) (rf_49_1 (zcp_E hE)) (by decide) ?_
    refine j_iload_n d_Wo_divide_42 3 rfl ?_
    refine j_iload d_Wo_divide_43 6 rfl ?_
    refine zj_iadd (x2 + x5) rfl d_Wo_divide_45 ?_
    obtain ⟨c7, h⟩ := h
    refine zj_iald (z σ 58 (x2 + x5).toNat) d_Wo_divide_46 (tg_58 (zcp_E hE)) (q_okE (zcp_E hE) (by decide)) c7 (by decide) (Eq.trans (zcp_o (by decide)) (q_z _ _ _)) ?_
    refine zj_iast d_Wo_divide_47 (tg_59 (zcp_E hE)) (q_okE (zcp_E hE) (by decide)) ⟨by decide, by decide⟩ (by decide) ?_
    refine j_iconst (v := zI 0) d_Wo_divide_48 (by decide) ?_
    refine j_istore (L' := [(7, .int (zI 0)), (6, .int (zI (x4 - x5))), (0, .ref 49), (1, .int (zI x1)), (2, .int (zI x2)), (3, .int (zI x3)), (4, .int (zI x4)), (5, .int (zI x5))]) d_Wo_divide_49 (by decide) rfl ?_
    refine j_iconst (v := zI 0) d_Wo_divide_51 (by decide) ?_
    refine j_istore (L' := [(8, .int (zI 0)), (7, .int (zI 0)), (6, .int (zI (x4 - x5))), (0, .ref 49), (1, .int (zI x1)), (2, .int (zI x2)), (3, .int (zI x3)), (4, .int (zI x4)), (5, .int (zI x5))]) d_Wo_divide_52 (by decide) rfl ?_
    exact j_sel [3, 4, 5, 6, 7, 8, 2, 1, 0] rfl h
set_option maxHeartbeats 2000000 in
theorem b_Wo_divide_54 {ω : q_W} {σ : q_H} {Q : q_R → q_H → Prop} {d mc ms : Nat} {x1 : Int} {x2 : Int} {x3 : Int} {x4 : Int} {x5 : Int} {x6 : Int} {x7 : Int} {x8 : Int}  (hE : q_E σ) (h : inR x8 ∧ inR x6 ∧ q_imp (x8 ≥ x6) ((J ω m_Wo_none d 0 0 0 0 0 [(0, .ref 49), (1, .int (zI (x3 + x6))), (2, .int (zI (x4 - x6)))] [] σ (q_ki (fun v τ => J ω m_Wo_divide (d + 1) mc ms 0 0 150 [(0, .ref 49), (1, .int (zI x1)), (2, .int (zI x2)), (3, .int (zI x3)), (4, .int (zI x4)), (5, .int (zI x5)), (6, .int (zI x6))] [.int (zI v), .int (zI x7), .ref 50] τ Q)))) ∧ q_imp (x8 < x6) ((0 ≤ x8 ∧ x8 < 8) ∧ (0 ≤ (x3 + x8) ∧ (x3 + x8) < 3200) ∧ (J ω m_Ci_xor d 0 0 0 0 0 [(0, .ref 50), (1, .int (zI (z σ 59 x8.toNat))), (2, .int (zI (zXor (z σ 58 (x3 + x8).toNat) 1)))] [] σ (q_ki (fun v τ => J ω m_Wo_divide (d + 1) mc ms 0 0 90 [(0, .ref 49), (1, .int (zI x1)), (2, .int (zI x2)), (3, .int (zI x3)), (4, .int (zI x4)), (5, .int (zI x5)), (6, .int (zI x6)), (7, .int (zI x7)), (8, .int (zI x8)), (9, .int (zI (z σ 59 x8.toNat)))] [.int (zI v)] τ Q))))) : J ω m_Wo_divide (d + 1) mc ms 0 0 54 [(0, .ref 49), (1, .int (zI x1)), (2, .int (zI x2)), (3, .int (zI x3)), (4, .int (zI x4)), (5, .int (zI x5)), (6, .int (zI x6)), (7, .int (zI x7)), (8, .int (zI x8))] [] σ Q := by
  refine j_iload d_Wo_divide_54 8 rfl ?_
  refine j_iload d_Wo_divide_56 6 rfl ?_
  obtain ⟨r8, h⟩ := h
  obtain ⟨r9, h⟩ := h
  obtain ⟨h1, h2⟩ := h
  refine zj_icmp_ge 131 d_Wo_divide_58 (by decide) r8 r9 (fun k10 => ?_) (fun k10 => ?_)
  · have h := h1 k10
    refine j_aload_n d_Wo_divide_131 0 rfl ?_
    refine j_getR 50 f_Wo_12 d_Wo_divide_132 (tg_49 hE) (q_okE hE (by decide)) (rf_49_0 hE) (by decide) ?_
    refine j_iload d_Wo_divide_135 7 rfl ?_
    refine j_aload_n d_Wo_divide_137 0 rfl ?_
    refine j_iload_n d_Wo_divide_138 3 rfl ?_
    refine j_iload d_Wo_divide_139 6 rfl ?_
    refine zj_iadd (x3 + x6) rfl d_Wo_divide_141 ?_
    refine j_iload d_Wo_divide_142 4 rfl ?_
    refine j_iload d_Wo_divide_144 6 rfl ?_
    refine zj_isub (x4 - x6) rfl d_Wo_divide_146 ?_
    refine j_callV m_Wo_none [.int (zI (x3 + x6)), .int (zI (x4 - x6))] [.int (zI x7), .ref 50] d 0 0 cV_Wo_38 d_Wo_divide_147 rfl rfl (tg_49 hE) (q_okE hE (by decide)) (Nat.le_of_ble_eq_true rfl) (Nat.le_refl _) (Nat.le_of_ble_eq_true rfl) (Nat.zero_le _) (Nat.zero_le _) h (fun v τ h => ?_) (fun x τ h => ?_)
    · obtain ⟨v, hv, e1, h⟩ := h; cases e1; exact j_sel [0, 1, 2, 3, 4, 5, 6] rfl h
    · obtain ⟨v, hv, e1, h⟩ := h; cases e1
  · have h := h2 k10
    refine j_aload_n d_Wo_divide_61 0 rfl ?_
    refine j_getR 59 f_Wo_22 d_Wo_divide_62 (tg_49 hE) (q_okE hE (by decide)) (rf_49_2 hE) (by decide) ?_
    refine j_iload d_Wo_divide_65 8 rfl ?_
    obtain ⟨c11, h⟩ := h
    refine zj_iald (z σ 59 x8.toNat) d_Wo_divide_67 (tg_59 hE) (q_okE hE (by decide)) c11 (by decide) (q_z _ _ _) ?_
    refine j_istore (L' := [(9, .int (zI (z σ 59 x8.toNat))), (0, .ref 49), (1, .int (zI x1)), (2, .int (zI x2)), (3, .int (zI x3)), (4, .int (zI x4)), (5, .int (zI x5)), (6, .int (zI x6)), (7, .int (zI x7)), (8, .int (zI x8))]) d_Wo_divide_68 (by decide) rfl ?_
    refine j_aload_n d_Wo_divide_70 1 rfl ?_
    refine j_getR 50 f_Wo_12 d_Wo_divide_71 (tg_49 hE) (q_okE hE (by decide)) (rf_49_0 hE) (by decide) ?_
    refine j_iload d_Wo_divide_74 0 rfl ?_
    refine j_aload_n d_Wo_divide_76 1 rfl ?_
    refine j_getR 58 f_Wo_18 d_Wo_divide_77 (tg_49 hE) (q_okE hE (by decide)) (rf_49_1 hE) (by decide) ?_
    refine j_iload_n d_Wo_divide_80 4 rfl ?_
    refine j_iload d_Wo_divide_81 9 rfl ?_
    refine zj_iadd (x3 + x8) rfl d_Wo_divide_83 ?_
    obtain ⟨c12, h⟩ := h
    refine zj_iald (z σ 58 (x3 + x8).toNat) d_Wo_divide_84 (tg_58 hE) (q_okE hE (by decide)) c12 (by decide) (q_z _ _ _) ?_
    refine j_iconst (v := zI 1) d_Wo_divide_85 (by decide) ?_
    refine zj_ixor d_Wo_divide_86 ?_
    refine j_callV m_Ci_xor [.int (zI (z σ 59 x8.toNat)), .int (zI (zXor (z σ 58 (x3 + x8).toNat) 1))] [] d 0 0 cV_Wo_52 d_Wo_divide_87 rfl rfl (tg_50 hE) (q_okE hE (by decide)) (Nat.le_of_ble_eq_true rfl) (Nat.le_refl _) (Nat.le_of_ble_eq_true rfl) (Nat.zero_le _) (Nat.zero_le _) h (fun v τ h => ?_) (fun x τ h => ?_)
    · obtain ⟨v, hv, e1, h⟩ := h; cases e1; exact j_sel [1, 2, 3, 4, 5, 6, 7, 8, 9, 0] rfl h
    · obtain ⟨v, hv, e1, h⟩ := h; cases e1
set_option maxHeartbeats 2000000 in
theorem b_Wo_divide_150 {ω : q_W} {σ : q_H} {Q : q_R → q_H → Prop} {d mc ms : Nat} {x1 : Int} {x2 : Int} {x3 : Int} {x4 : Int} {x5 : Int} {x6 : Int} {y0 : Int} {y1 : Int}  (hE : q_E σ) (h : (J ω m_Ci_and d 0 0 0 0 0 [(0, .ref 50), (1, .int (zI y1)), (2, .int (zI y0))] [] σ (q_ki (fun v τ => J ω m_Wo_divide (d + 1) mc ms 0 0 153 [(0, .ref 49), (1, .int (zI x1)), (2, .int (zI x2)), (3, .int (zI x3)), (4, .int (zI x4)), (5, .int (zI x5)), (6, .int (zI x6))] [.int (zI v)] τ Q)))) : J ω m_Wo_divide (d + 1) mc ms 0 0 150 [(0, .ref 49), (1, .int (zI x1)), (2, .int (zI x2)), (3, .int (zI x3)), (4, .int (zI x4)), (5, .int (zI x5)), (6, .int (zI x6))] [.int (zI y0), .int (zI y1), .ref 50] σ Q := by
  refine j_callV m_Ci_and [.int (zI y1), .int (zI y0)] [] d 0 0 cV_Wo_42 d_Wo_divide_150 rfl rfl (tg_50 hE) (q_okE hE (by decide)) (Nat.le_of_ble_eq_true rfl) (Nat.le_refl _) (Nat.le_of_ble_eq_true rfl) (Nat.zero_le _) (Nat.zero_le _) h (fun v τ h => ?_) (fun x τ h => ?_)
  · obtain ⟨v, hv, e1, h⟩ := h; cases e1; exact j_sel [0, 1, 2, 3, 4, 5, 6] rfl h
  · obtain ⟨v, hv, e1, h⟩ := h; cases e1
set_option maxHeartbeats 2000000 in
theorem b_Wo_divide_90 {ω : q_W} {σ : q_H} {Q : q_R → q_H → Prop} {d mc ms : Nat} {x1 : Int} {x2 : Int} {x3 : Int} {x4 : Int} {x5 : Int} {x6 : Int} {x7 : Int} {x8 : Int} {x9 : Int} {y0 : Int}  (hE : q_E σ) (h : (J ω m_Ci_xor d 0 0 0 0 0 [(0, .ref 50), (1, .int (zI y0)), (2, .int (zI x7))] [] σ (q_ki (fun v τ => J ω m_Wo_divide (d + 1) mc ms 0 0 109 [(0, .ref 49), (1, .int (zI x1)), (2, .int (zI x2)), (3, .int (zI x3)), (4, .int (zI x4)), (5, .int (zI x5)), (6, .int (zI x6)), (7, .int (zI x7)), (8, .int (zI x8)), (9, .int (zI x9)), (10, .int (zI y0))] [.int (zI v), .int (zI x8), .ref 60] τ Q)))) : J ω m_Wo_divide (d + 1) mc ms 0 0 90 [(0, .ref 49), (1, .int (zI x1)), (2, .int (zI x2)), (3, .int (zI x3)), (4, .int (zI x4)), (5, .int (zI x5)), (6, .int (zI x6)), (7, .int (zI x7)), (8, .int (zI x8)), (9, .int (zI x9))] [.int (zI y0)] σ Q := by
  refine j_istore (L' := [(10, .int (zI y0)), (0, .ref 49), (1, .int (zI x1)), (2, .int (zI x2)), (3, .int (zI x3)), (4, .int (zI x4)), (5, .int (zI x5)), (6, .int (zI x6)), (7, .int (zI x7)), (8, .int (zI x8)), (9, .int (zI x9))]) d_Wo_divide_90 (by decide) rfl ?_
  refine j_aload_n d_Wo_divide_92 1 rfl ?_
  refine j_getR 60 f_Wo_25 d_Wo_divide_93 (tg_49 hE) (q_okE hE (by decide)) (rf_49_3 hE) (by decide) ?_
  refine j_iload d_Wo_divide_96 9 rfl ?_
  refine j_aload_n d_Wo_divide_98 1 rfl ?_
  refine j_getR 50 f_Wo_12 d_Wo_divide_99 (tg_49 hE) (q_okE hE (by decide)) (rf_49_0 hE) (by decide) ?_
  refine j_iload d_Wo_divide_102 0 rfl ?_
  refine j_iload d_Wo_divide_104 8 rfl ?_
  refine j_callV m_Ci_xor [.int (zI y0), .int (zI x7)] [.int (zI x8), .ref 60] d 0 0 cV_Wo_52 d_Wo_divide_106 rfl rfl (tg_50 hE) (q_okE hE (by decide)) (Nat.le_of_ble_eq_true rfl) (Nat.le_refl _) (Nat.le_of_ble_eq_true rfl) (Nat.zero_le _) (Nat.zero_le _) h (fun v τ h => ?_) (fun x τ h => ?_)
  · obtain ⟨v, hv, e1, h⟩ := h; cases e1; exact j_sel [1, 2, 3, 4, 5, 6, 7, 8, 9, 10, 0] rfl h
  · obtain ⟨v, hv, e1, h⟩ := h; cases e1
set_option maxHeartbeats 2000000 in
theorem b_Wo_divide_153 {ω : q_W} {σ : q_H} {Q : q_R → q_H → Prop} {d mc ms : Nat} {x1 : Int} {x2 : Int} {x3 : Int} {x4 : Int} {x5 : Int} {x6 : Int} {y0 : Int}  (hE : q_E σ) (h : (J ω m_Wo_divide (d + 1) mc ms 0 0 158 [(0, .ref 49), (1, .int (zI x1)), (2, .int (zI x2)), (3, .int (zI x3)), (4, .int (zI x4)), (5, .int (zI x5)), (6, .int (zI x6)), (7, .int (zI y0)), (8, .int (zI 0))] [] σ Q)) : J ω m_Wo_divide (d + 1) mc ms 0 0 153 [(0, .ref 49), (1, .int (zI x1)), (2, .int (zI x2)), (3, .int (zI x3)), (4, .int (zI x4)), (5, .int (zI x5)), (6, .int (zI x6))] [.int (zI y0)] σ Q := by
  refine j_istore (L' := [(7, .int (zI y0)), (0, .ref 49), (1, .int (zI x1)), (2, .int (zI x2)), (3, .int (zI x3)), (4, .int (zI x4)), (5, .int (zI x5)), (6, .int (zI x6))]) d_Wo_divide_153 (by decide) rfl ?_
  refine j_iconst (v := zI 0) d_Wo_divide_155 (by decide) ?_
  refine j_istore (L' := [(8, .int (zI 0)), (7, .int (zI y0)), (0, .ref 49), (1, .int (zI x1)), (2, .int (zI x2)), (3, .int (zI x3)), (4, .int (zI x4)), (5, .int (zI x5)), (6, .int (zI x6))]) d_Wo_divide_156 (by decide) rfl ?_
  exact j_sel [2, 3, 4, 5, 6, 7, 8, 1, 0] rfl h
set_option maxHeartbeats 2000000 in
theorem b_Wo_divide_109 {ω : q_W} {σ : q_H} {Q : q_R → q_H → Prop} {d mc ms : Nat} {x1 : Int} {x2 : Int} {x3 : Int} {x4 : Int} {x5 : Int} {x6 : Int} {x7 : Int} {x8 : Int} {x9 : Int} {x10 : Int} {y0 : Int} {y1 : Int}  (hE : q_E σ) (h : (0 ≤ y1 ∧ y1 < 8) ∧ (J ω m_Ci_pick d 0 0 0 0 0 [(0, .ref 50), (1, .int (zI x10)), (2, .int (zI x7)), (3, .int (zI x9))] [] (zs σ 60 y1.toNat y0) (q_ki (fun v τ => J ω m_Wo_divide (d + 1) mc ms 0 0 123 [(0, .ref 49), (1, .int (zI x1)), (2, .int (zI x2)), (3, .int (zI x3)), (4, .int (zI x4)), (5, .int (zI x5)), (6, .int (zI x6)), (8, .int (zI x8))] [.int (zI v)] τ Q)))) : J ω m_Wo_divide (d + 1) mc ms 0 0 109 [(0, .ref 49), (1, .int (zI x1)), (2, .int (zI x2)), (3, .int (zI x3)), (4, .int (zI x4)), (5, .int (zI x5)), (6, .int (zI x6)), (7, .int (zI x7)), (8, .int (zI x8)), (9, .int (zI x9)), (10, .int (zI x10))] [.int (zI y0), .int (zI y1), .ref 60] σ Q := by
  obtain ⟨c13, h⟩ := h
  refine zj_iast d_Wo_divide_109 (tg_60 hE) (q_okE hE (by decide)) c13 (by decide) ?_
  refine j_aload_n d_Wo_divide_110 0 rfl ?_
  refine j_getR 50 f_Wo_12 d_Wo_divide_111 (tg_49 (zs_E hE)) (q_okE (zs_E hE) (by decide)) (rf_49_0 (zs_E hE)) (by decide) ?_
  refine j_iload d_Wo_divide_114 10 rfl ?_
  refine j_iload d_Wo_divide_116 7 rfl ?_
  refine j_iload d_Wo_divide_118 9 rfl ?_
  refine j_callV m_Ci_pick [.int (zI x10), .int (zI x7), .int (zI x9)] [] d 0 0 cV_Wo_55 d_Wo_divide_120 rfl rfl (tg_50 (zs_E hE)) (q_okE (zs_E hE) (by decide)) (Nat.le_of_ble_eq_true rfl) (Nat.le_refl _) (Nat.le_of_ble_eq_true rfl) (Nat.zero_le _) (Nat.zero_le _) h (fun v τ h => ?_) (fun x τ h => ?_)
  · obtain ⟨v, hv, e1, h⟩ := h; cases e1; exact j_sel [0, 1, 2, 3, 4, 5, 6, 8] rfl h
  · obtain ⟨v, hv, e1, h⟩ := h; cases e1
set_option maxHeartbeats 2000000 in
theorem b_Wo_divide_158 {ω : q_W} {σ : q_H} {Q : q_R → q_H → Prop} {d mc ms : Nat} {x1 : Int} {x2 : Int} {x3 : Int} {x4 : Int} {x5 : Int} {x6 : Int} {x7 : Int} {x8 : Int}  (hE : q_E σ) (h : inR x8 ∧ inR x6 ∧ q_imp (x8 ≥ x6) ((0 ≤ (x2 + x5) ∧ (x2 + x5) < 3200) ∧ (J ω m_Wo_divide (d + 1) mc ms 0 0 6 [(0, .ref 49), (1, .int (zI x1)), (2, .int (zI x2)), (3, .int (zI x3)), (4, .int (zI x4)), (5, .int (zI (x5 - 1)))] [] (zs σ 58 (x2 + x5).toNat x7) Q)) ∧ q_imp (x8 < x6) ((0 ≤ x8 ∧ x8 < 8) ∧ (J ω m_Ci_pick d 0 0 0 0 0 [(0, .ref 50), (1, .int (zI x7)), (2, .int (zI (z σ 60 x8.toNat))), (3, .int (zI (z σ 59 x8.toNat)))] [] σ (q_ki (fun v τ => J ω m_Wo_divide (d + 1) mc ms 0 0 194 [(0, .ref 49), (1, .int (zI x1)), (2, .int (zI x2)), (3, .int (zI x3)), (4, .int (zI x4)), (5, .int (zI x5)), (6, .int (zI x6)), (7, .int (zI x7)), (8, .int (zI x8))] [.int (zI v), .int (zI x8), .ref 59] τ Q))))) : J ω m_Wo_divide (d + 1) mc ms 0 0 158 [(0, .ref 49), (1, .int (zI x1)), (2, .int (zI x2)), (3, .int (zI x3)), (4, .int (zI x4)), (5, .int (zI x5)), (6, .int (zI x6)), (7, .int (zI x7)), (8, .int (zI x8))] [] σ Q := by
  refine j_iload d_Wo_divide_158 8 rfl ?_
  refine j_iload d_Wo_divide_160 6 rfl ?_
  obtain ⟨r14, h⟩ := h
  obtain ⟨r15, h⟩ := h
  obtain ⟨h1, h2⟩ := h
  refine zj_icmp_ge 201 d_Wo_divide_162 (by decide) r14 r15 (fun k16 => ?_) (fun k16 => ?_)
  · have h := h1 k16
    refine j_aload_n d_Wo_divide_201 0 rfl ?_
    refine j_getR 58 f_Wo_18 d_Wo_divide_202 (tg_49 hE) (q_okE hE (by decide)) (rf_49_1 hE) (by decide) ?_
    refine j_iload_n d_Wo_divide_205 2 rfl ?_
    refine j_iload d_Wo_divide_206 5 rfl ?_
    refine zj_iadd (x2 + x5) rfl d_Wo_divide_208 ?_
    refine j_iload d_Wo_divide_209 7 rfl ?_
    obtain ⟨c17, h⟩ := h
    refine zj_iast d_Wo_divide_211 (tg_58 hE) (q_okE hE (by decide)) c17 (by decide) ?_
    refine zj_iinc (L' := [(5, .int (zI (x5 - 1))), (0, .ref 49), (1, .int (zI x1)), (2, .int (zI x2)), (3, .int (zI x3)), (4, .int (zI x4)), (6, .int (zI x6)), (7, .int (zI x7)), (8, .int (zI x8))]) (x5 - 1) d_Wo_divide_212 5 rfl (by omega) (by decide) rfl ?_
    refine j_goto 6 d_Wo_divide_215 (by decide) ?_
    exact j_sel [1, 2, 3, 4, 5, 0] rfl h
  · have h := h2 k16
    refine j_aload_n d_Wo_divide_165 0 rfl ?_
    refine j_getR 59 f_Wo_22 d_Wo_divide_166 (tg_49 hE) (q_okE hE (by decide)) (rf_49_2 hE) (by decide) ?_
    refine j_iload d_Wo_divide_169 8 rfl ?_
    refine j_aload_n d_Wo_divide_171 0 rfl ?_
    refine j_getR 50 f_Wo_12 d_Wo_divide_172 (tg_49 hE) (q_okE hE (by decide)) (rf_49_0 hE) (by decide) ?_
    refine j_iload d_Wo_divide_175 7 rfl ?_
    refine j_aload_n d_Wo_divide_177 0 rfl ?_
    refine j_getR 60 f_Wo_25 d_Wo_divide_178 (tg_49 hE) (q_okE hE (by decide)) (rf_49_3 hE) (by decide) ?_
    refine j_iload d_Wo_divide_181 8 rfl ?_
    obtain ⟨c18, h⟩ := h
    refine zj_iald (z σ 60 x8.toNat) d_Wo_divide_183 (tg_60 hE) (q_okE hE (by decide)) c18 (by decide) (q_z _ _ _) ?_
    refine j_aload_n d_Wo_divide_184 0 rfl ?_
    refine j_getR 59 f_Wo_22 d_Wo_divide_185 (tg_49 hE) (q_okE hE (by decide)) (rf_49_2 hE) (by decide) ?_
    refine j_iload d_Wo_divide_188 8 rfl ?_
    refine zj_iald (z σ 59 x8.toNat) d_Wo_divide_190 (tg_59 hE) (q_okE hE (by decide)) c18 (by decide) (q_z _ _ _) ?_
    refine j_callV m_Ci_pick [.int (zI x7), .int (zI (z σ 60 x8.toNat)), .int (zI (z σ 59 x8.toNat))] [.int (zI x8), .ref 59] d 0 0 cV_Wo_55 d_Wo_divide_191 rfl rfl (tg_50 hE) (q_okE hE (by decide)) (Nat.le_of_ble_eq_true rfl) (Nat.le_refl _) (Nat.le_of_ble_eq_true rfl) (Nat.zero_le _) (Nat.zero_le _) h (fun v τ h => ?_) (fun x τ h => ?_)
    · obtain ⟨v, hv, e1, h⟩ := h; cases e1; exact j_sel [0, 1, 2, 3, 4, 5, 6, 7, 8] rfl h
    · obtain ⟨v, hv, e1, h⟩ := h; cases e1
set_option maxHeartbeats 2000000 in
theorem b_Wo_divide_123 {ω : q_W} {σ : q_H} {Q : q_R → q_H → Prop} {d mc ms : Nat} {x1 : Int} {x2 : Int} {x3 : Int} {x4 : Int} {x5 : Int} {x6 : Int} {x8 : Int} {y0 : Int}  (hE : q_E σ) (h : (J ω m_Wo_divide (d + 1) mc ms 0 0 54 [(0, .ref 49), (1, .int (zI x1)), (2, .int (zI x2)), (3, .int (zI x3)), (4, .int (zI x4)), (5, .int (zI x5)), (6, .int (zI x6)), (7, .int (zI y0)), (8, .int (zI (x8 + 1)))] [] σ Q)) : J ω m_Wo_divide (d + 1) mc ms 0 0 123 [(0, .ref 49), (1, .int (zI x1)), (2, .int (zI x2)), (3, .int (zI x3)), (4, .int (zI x4)), (5, .int (zI x5)), (6, .int (zI x6)), (8, .int (zI x8))] [.int (zI y0)] σ Q := by
  refine j_istore (L' := [(7, .int (zI y0)), (0, .ref 49), (1, .int (zI x1)), (2, .int (zI x2)), (3, .int (zI x3)), (4, .int (zI x4)), (5, .int (zI x5)), (6, .int (zI x6)), (8, .int (zI x8))]) d_Wo_divide_123 (by decide) rfl ?_
  refine zj_iinc (L' := [(8, .int (zI (x8 + 1))), (7, .int (zI y0)), (0, .ref 49), (1, .int (zI x1)), (2, .int (zI x2)), (3, .int (zI x3)), (4, .int (zI x4)), (5, .int (zI x5)), (6, .int (zI x6))]) (x8 + 1) d_Wo_divide_125 8 rfl (by omega) (by decide) rfl ?_
  refine j_goto 54 d_Wo_divide_128 (by decide) ?_
  exact j_sel [2, 3, 4, 5, 6, 7, 8, 1, 0] rfl h
set_option maxHeartbeats 2000000 in
theorem b_Wo_divide_194 {ω : q_W} {σ : q_H} {Q : q_R → q_H → Prop} {d mc ms : Nat} {x1 : Int} {x2 : Int} {x3 : Int} {x4 : Int} {x5 : Int} {x6 : Int} {x7 : Int} {x8 : Int} {y0 : Int} {y1 : Int}  (hE : q_E σ) (h : (0 ≤ y1 ∧ y1 < 8) ∧ (J ω m_Wo_divide (d + 1) mc ms 0 0 158 [(0, .ref 49), (1, .int (zI x1)), (2, .int (zI x2)), (3, .int (zI x3)), (4, .int (zI x4)), (5, .int (zI x5)), (6, .int (zI x6)), (7, .int (zI x7)), (8, .int (zI (x8 + 1)))] [] (zs σ 59 y1.toNat y0) Q)) : J ω m_Wo_divide (d + 1) mc ms 0 0 194 [(0, .ref 49), (1, .int (zI x1)), (2, .int (zI x2)), (3, .int (zI x3)), (4, .int (zI x4)), (5, .int (zI x5)), (6, .int (zI x6)), (7, .int (zI x7)), (8, .int (zI x8))] [.int (zI y0), .int (zI y1), .ref 59] σ Q := by
  obtain ⟨c19, h⟩ := h
  refine zj_iast d_Wo_divide_194 (tg_59 hE) (q_okE hE (by decide)) c19 (by decide) ?_
  refine zj_iinc (L' := [(8, .int (zI (x8 + 1))), (0, .ref 49), (1, .int (zI x1)), (2, .int (zI x2)), (3, .int (zI x3)), (4, .int (zI x4)), (5, .int (zI x5)), (6, .int (zI x6)), (7, .int (zI x7))]) (x8 + 1) d_Wo_divide_195 8 rfl (by omega) (by decide) rfl ?_
  refine j_goto 158 d_Wo_divide_198 (by decide) ?_
  exact j_sel [1, 2, 3, 4, 5, 6, 7, 8, 0] rfl h
theorem o_Wo_logic_1 {x : Int} (cs1 : ¬ x = 1) (cs2 : ¬ x = 2) (cs3 : ¬ x = 3) (cs4 : ¬ x = 4) (cs5 : ¬ x = 5) (cs6 : ¬ x = 6) (cs7 : ¬ x = 7) (cs8 : ¬ x = 8) (cs9 : ¬ x = 9) (cs10 : ¬ x = 10) (cs11 : ¬ x = 11) : x < 1 ∨ 11 < x := by omega
set_option maxHeartbeats 2000000 in
theorem b_Wo_logic_0 {ω : q_W} {σ : q_H} {Q : q_R → q_H → Prop} {d mc ms : Nat} {x1 : Int} {x2 : Int} {x3 : Int}  (hE : q_E σ) (h : inR x1 ∧ q_imp (x1 = 1) ((J ω m_Wo_truth d 0 0 0 0 0 [(0, .ref 49), (1, .int (zI x2))] [] σ (q_ki (fun v τ => J ω m_Wo_logic (d + 1) mc ms 0 0 71 [(0, .ref 49), (3, .int (zI x3))] [.int (zI v), .ref 50, .int (zI x2), .ref 49] τ Q)))) ∧ q_imp (x1 = 2) ((J ω m_Wo_truth d 0 0 0 0 0 [(0, .ref 49), (1, .int (zI x2))] [] σ (q_ki (fun v τ => J ω m_Wo_logic (d + 1) mc ms 0 0 96 [(0, .ref 49), (3, .int (zI x3))] [.int (zI v), .ref 50, .int (zI x2), .ref 49] τ Q)))) ∧ q_imp (x1 = 6) ((J ω m_Wo_same d 0 0 0 0 0 [(0, .ref 49), (1, .int (zI x2)), (2, .int (zI x3))] [] σ (q_ki (fun v τ => J ω m_Wo_logic (d + 1) mc ms 0 0 118 [] [.int (zI v), .int (zI x2), .ref 49] τ Q)))) ∧ q_imp (x1 = 7) ((J ω m_Wo_same d 0 0 0 0 0 [(0, .ref 49), (1, .int (zI x2)), (2, .int (zI x3))] [] σ (q_ki (fun v τ => J ω m_Wo_logic (d + 1) mc ms 0 0 132 [] [.int (zI v), .int (zI x2), .ref 49] τ Q)))) ∧ q_imp (x1 = 8) ((J ω m_Wo_below d 0 0 0 0 0 [(0, .ref 49), (1, .int (zI x2)), (2, .int (zI x3))] [] σ (q_ki (fun v τ => J ω m_Wo_logic (d + 1) mc ms 0 0 148 [] [.int (zI v), .int (zI x2), .ref 49] τ Q)))) ∧ q_imp (x1 = 9) ((J ω m_Wo_below d 0 0 0 0 0 [(0, .ref 49), (1, .int (zI x3)), (2, .int (zI x2))] [] σ (q_ki (fun v τ => J ω m_Wo_logic (d + 1) mc ms 0 0 162 [] [.int (zI v), .int (zI x2), .ref 49] τ Q)))) ∧ q_imp (x1 = 10) ((J ω m_Wo_below d 0 0 0 0 0 [(0, .ref 49), (1, .int (zI x3)), (2, .int (zI x2))] [] σ (q_ki (fun v τ => J ω m_Wo_logic (d + 1) mc ms 0 0 178 [] [.int (zI v), .int (zI x2), .ref 49] τ Q)))) ∧ q_imp (x1 = 11) ((J ω m_Wo_below d 0 0 0 0 0 [(0, .ref 49), (1, .int (zI x2)), (2, .int (zI x3))] [] σ (q_ki (fun v τ => J ω m_Wo_logic (d + 1) mc ms 0 0 192 [] [.int (zI v), .int (zI x2), .ref 49] τ Q)))) ∧ q_imp (x1 ≠ 1 ∧ x1 ≠ 2 ∧ x1 ≠ 6 ∧ x1 ≠ 7 ∧ x1 ≠ 8 ∧ x1 ≠ 9 ∧ x1 ≠ 10 ∧ x1 ≠ 11) ((J ω m_Wo_bitwise d 0 0 0 0 0 [(0, .ref 49), (1, .int (zI x1)), (2, .int (zI x2)), (3, .int (zI x3))] [] σ (q_kv (fun τ => J ω m_Wo_logic (d + 1) mc ms 0 0 207 [] [] τ Q))))) : J ω m_Wo_logic (d + 1) mc ms 0 0 0 [(0, .ref 49), (1, .int (zI x1)), (2, .int (zI x2)), (3, .int (zI x3))] [] σ Q := by
  refine j_iload_n d_Wo_logic_0 1 rfl ?_
  obtain ⟨r1, h⟩ := h
  obtain ⟨g60, g85, g110, g124, g140, g154, g170, g184, gD⟩ := h
  have jg60 : q_imp (x1 = 1) (J ω m_Wo_logic (d + 1) mc ms 0 0 60 [(0, .ref 49), (1, .int (zI x1)), (2, .int (zI x2)), (3, .int (zI x3))] [] σ Q) := by
    intro c
    have h := g60 c
    refine j_aload_n d_Wo_logic_60 0 rfl ?_
    refine j_iload_n d_Wo_logic_61 2 rfl ?_
    refine j_aload_n d_Wo_logic_62 0 rfl ?_
    refine j_getR 50 f_Wo_12 d_Wo_logic_63 (tg_49 hE) (q_okE hE (by decide)) (rf_49_0 hE) (by decide) ?_
    refine j_aload_n d_Wo_logic_66 0 rfl ?_
    refine j_iload_n d_Wo_logic_67 2 rfl ?_
    refine j_callV m_Wo_truth [.int (zI x2)] [.ref 50, .int (zI x2), .ref 49] d 0 0 cV_Wo_45 d_Wo_logic_68 rfl rfl (tg_49 hE) (q_okE hE (by decide)) (Nat.le_of_ble_eq_true rfl) (Nat.le_refl _) (Nat.le_of_ble_eq_true rfl) (Nat.zero_le _) (Nat.zero_le _) h (fun v τ h => ?_) (fun x τ h => ?_)
    · obtain ⟨v, hv, e1, h⟩ := h; cases e1; exact j_sel [0, 3] rfl h
    · obtain ⟨v, hv, e1, h⟩ := h; cases e1
  have jg85 : q_imp (x1 = 2) (J ω m_Wo_logic (d + 1) mc ms 0 0 85 [(0, .ref 49), (1, .int (zI x1)), (2, .int (zI x2)), (3, .int (zI x3))] [] σ Q) := by
    intro c
    have h := g85 c
    refine j_aload_n d_Wo_logic_85 0 rfl ?_
    refine j_iload_n d_Wo_logic_86 2 rfl ?_
    refine j_aload_n d_Wo_logic_87 0 rfl ?_
    refine j_getR 50 f_Wo_12 d_Wo_logic_88 (tg_49 hE) (q_okE hE (by decide)) (rf_49_0 hE) (by decide) ?_
    refine j_aload_n d_Wo_logic_91 0 rfl ?_
    refine j_iload_n d_Wo_logic_92 2 rfl ?_
    refine j_callV m_Wo_truth [.int (zI x2)] [.ref 50, .int (zI x2), .ref 49] d 0 0 cV_Wo_45 d_Wo_logic_93 rfl rfl (tg_49 hE) (q_okE hE (by decide)) (Nat.le_of_ble_eq_true rfl) (Nat.le_refl _) (Nat.le_of_ble_eq_true rfl) (Nat.zero_le _) (Nat.zero_le _) h (fun v τ h => ?_) (fun x τ h => ?_)
    · obtain ⟨v, hv, e1, h⟩ := h; cases e1; exact j_sel [0, 3] rfl h
    · obtain ⟨v, hv, e1, h⟩ := h; cases e1
  have jg110 : q_imp (x1 = 6) (J ω m_Wo_logic (d + 1) mc ms 0 0 110 [(0, .ref 49), (1, .int (zI x1)), (2, .int (zI x2)), (3, .int (zI x3))] [] σ Q) := by
    intro c
    have h := g110 c
    refine j_aload_n d_Wo_logic_110 0 rfl ?_
    refine j_iload_n d_Wo_logic_111 2 rfl ?_
    refine j_aload_n d_Wo_logic_112 0 rfl ?_
    refine j_iload_n d_Wo_logic_113 2 rfl ?_
    refine j_iload_n d_Wo_logic_114 3 rfl ?_
    refine j_callV m_Wo_same [.int (zI x2), .int (zI x3)] [.int (zI x2), .ref 49] d 0 0 cV_Wo_62 d_Wo_logic_115 rfl rfl (tg_49 hE) (q_okE hE (by decide)) (Nat.le_of_ble_eq_true rfl) (Nat.le_refl _) (Nat.le_of_ble_eq_true rfl) (Nat.zero_le _) (Nat.zero_le _) h (fun v τ h => ?_) (fun x τ h => ?_)
    · obtain ⟨v, hv, e1, h⟩ := h; cases e1; exact j_sel [] rfl h
    · obtain ⟨v, hv, e1, h⟩ := h; cases e1
  have jg124 : q_imp (x1 = 7) (J ω m_Wo_logic (d + 1) mc ms 0 0 124 [(0, .ref 49), (1, .int (zI x1)), (2, .int (zI x2)), (3, .int (zI x3))] [] σ Q) := by
    intro c
    have h := g124 c
    refine j_aload_n d_Wo_logic_124 0 rfl ?_
    refine j_iload_n d_Wo_logic_125 2 rfl ?_
    refine j_aload_n d_Wo_logic_126 0 rfl ?_
    refine j_iload_n d_Wo_logic_127 2 rfl ?_
    refine j_iload_n d_Wo_logic_128 3 rfl ?_
    refine j_callV m_Wo_same [.int (zI x2), .int (zI x3)] [.int (zI x2), .ref 49] d 0 0 cV_Wo_62 d_Wo_logic_129 rfl rfl (tg_49 hE) (q_okE hE (by decide)) (Nat.le_of_ble_eq_true rfl) (Nat.le_refl _) (Nat.le_of_ble_eq_true rfl) (Nat.zero_le _) (Nat.zero_le _) h (fun v τ h => ?_) (fun x τ h => ?_)
    · obtain ⟨v, hv, e1, h⟩ := h; cases e1; exact j_sel [] rfl h
    · obtain ⟨v, hv, e1, h⟩ := h; cases e1
  have jg140 : q_imp (x1 = 8) (J ω m_Wo_logic (d + 1) mc ms 0 0 140 [(0, .ref 49), (1, .int (zI x1)), (2, .int (zI x2)), (3, .int (zI x3))] [] σ Q) := by
    intro c
    have h := g140 c
    refine j_aload_n d_Wo_logic_140 0 rfl ?_
    refine j_iload_n d_Wo_logic_141 2 rfl ?_
    refine j_aload_n d_Wo_logic_142 0 rfl ?_
    refine j_iload_n d_Wo_logic_143 2 rfl ?_
    refine j_iload_n d_Wo_logic_144 3 rfl ?_
    refine j_callV m_Wo_below [.int (zI x2), .int (zI x3)] [.int (zI x2), .ref 49] d 0 0 cV_Wo_65 d_Wo_logic_145 rfl rfl (tg_49 hE) (q_okE hE (by decide)) (Nat.le_of_ble_eq_true rfl) (Nat.le_refl _) (Nat.le_of_ble_eq_true rfl) (Nat.zero_le _) (Nat.zero_le _) h (fun v τ h => ?_) (fun x τ h => ?_)
    · obtain ⟨v, hv, e1, h⟩ := h; cases e1; exact j_sel [] rfl h
    · obtain ⟨v, hv, e1, h⟩ := h; cases e1
  have jg154 : q_imp (x1 = 9) (J ω m_Wo_logic (d + 1) mc ms 0 0 154 [(0, .ref 49), (1, .int (zI x1)), (2, .int (zI x2)), (3, .int (zI x3))] [] σ Q) := by
    intro c
    have h := g154 c
    refine j_aload_n d_Wo_logic_154 0 rfl ?_
    refine j_iload_n d_Wo_logic_155 2 rfl ?_
    refine j_aload_n d_Wo_logic_156 0 rfl ?_
    refine j_iload_n d_Wo_logic_157 3 rfl ?_
    refine j_iload_n d_Wo_logic_158 2 rfl ?_
    refine j_callV m_Wo_below [.int (zI x3), .int (zI x2)] [.int (zI x2), .ref 49] d 0 0 cV_Wo_65 d_Wo_logic_159 rfl rfl (tg_49 hE) (q_okE hE (by decide)) (Nat.le_of_ble_eq_true rfl) (Nat.le_refl _) (Nat.le_of_ble_eq_true rfl) (Nat.zero_le _) (Nat.zero_le _) h (fun v τ h => ?_) (fun x τ h => ?_)
    · obtain ⟨v, hv, e1, h⟩ := h; cases e1; exact j_sel [] rfl h
    · obtain ⟨v, hv, e1, h⟩ := h; cases e1
  have jg170 : q_imp (x1 = 10) (J ω m_Wo_logic (d + 1) mc ms 0 0 170 [(0, .ref 49), (1, .int (zI x1)), (2, .int (zI x2)), (3, .int (zI x3))] [] σ Q) := by
    intro c
    have h := g170 c
    refine j_aload_n d_Wo_logic_170 0 rfl ?_
    refine j_iload_n d_Wo_logic_171 2 rfl ?_
    refine j_aload_n d_Wo_logic_172 0 rfl ?_
    refine j_iload_n d_Wo_logic_173 3 rfl ?_
    refine j_iload_n d_Wo_logic_174 2 rfl ?_
    refine j_callV m_Wo_below [.int (zI x3), .int (zI x2)] [.int (zI x2), .ref 49] d 0 0 cV_Wo_65 d_Wo_logic_175 rfl rfl (tg_49 hE) (q_okE hE (by decide)) (Nat.le_of_ble_eq_true rfl) (Nat.le_refl _) (Nat.le_of_ble_eq_true rfl) (Nat.zero_le _) (Nat.zero_le _) h (fun v τ h => ?_) (fun x τ h => ?_)
    · obtain ⟨v, hv, e1, h⟩ := h; cases e1; exact j_sel [] rfl h
    · obtain ⟨v, hv, e1, h⟩ := h; cases e1
  have jg184 : q_imp (x1 = 11) (J ω m_Wo_logic (d + 1) mc ms 0 0 184 [(0, .ref 49), (1, .int (zI x1)), (2, .int (zI x2)), (3, .int (zI x3))] [] σ Q) := by
    intro c
    have h := g184 c
    refine j_aload_n d_Wo_logic_184 0 rfl ?_
    refine j_iload_n d_Wo_logic_185 2 rfl ?_
    refine j_aload_n d_Wo_logic_186 0 rfl ?_
    refine j_iload_n d_Wo_logic_187 2 rfl ?_
    refine j_iload_n d_Wo_logic_188 3 rfl ?_
    refine j_callV m_Wo_below [.int (zI x2), .int (zI x3)] [.int (zI x2), .ref 49] d 0 0 cV_Wo_65 d_Wo_logic_189 rfl rfl (tg_49 hE) (q_okE hE (by decide)) (Nat.le_of_ble_eq_true rfl) (Nat.le_refl _) (Nat.le_of_ble_eq_true rfl) (Nat.zero_le _) (Nat.zero_le _) h (fun v τ h => ?_) (fun x τ h => ?_)
    · obtain ⟨v, hv, e1, h⟩ := h; cases e1; exact j_sel [] rfl h
    · obtain ⟨v, hv, e1, h⟩ := h; cases e1
  have jgD : q_imp (x1 ≠ 1 ∧ x1 ≠ 2 ∧ x1 ≠ 6 ∧ x1 ≠ 7 ∧ x1 ≠ 8 ∧ x1 ≠ 9 ∧ x1 ≠ 10 ∧ x1 ≠ 11) (J ω m_Wo_logic (d + 1) mc ms 0 0 200 [(0, .ref 49), (1, .int (zI x1)), (2, .int (zI x2)), (3, .int (zI x3))] [] σ Q) := by
    intro c
    have h := gD c
    refine j_aload_n d_Wo_logic_200 0 rfl ?_
    refine j_iload_n d_Wo_logic_201 1 rfl ?_
    refine j_iload_n d_Wo_logic_202 2 rfl ?_
    refine j_iload_n d_Wo_logic_203 3 rfl ?_
    refine j_callV m_Wo_bitwise [.int (zI x1), .int (zI x2), .int (zI x3)] [] d 0 0 cV_Wo_68 d_Wo_logic_204 rfl rfl (tg_49 hE) (q_okE hE (by decide)) (Nat.le_of_ble_eq_true rfl) (Nat.le_refl _) (Nat.le_of_ble_eq_true rfl) (Nat.zero_le _) (Nat.zero_le _) h (fun v τ h => ?_) (fun x τ h => ?_)
    · obtain ⟨e1, h⟩ := h; cases e1; exact j_sel [] rfl h
    · obtain ⟨e1, h⟩ := h; cases e1
  by_cases cs1 : x1 = 1
  · exact j_topE (v := zI 1) (by rw [cs1]) (j_tabIn 60 d_Wo_logic_1 (by decide) (by decide) rfl (by decide) (jg60 cs1))
  by_cases cs2 : x1 = 2
  · exact j_topE (v := zI 2) (by rw [cs2]) (j_tabIn 85 d_Wo_logic_1 (by decide) (by decide) rfl (by decide) (jg85 cs2))
  by_cases cs3 : x1 = 3
  · exact j_topE (v := zI 3) (by rw [cs3]) (j_tabIn 200 d_Wo_logic_1 (by decide) (by decide) rfl (by decide) (jgD ⟨cs1, cs2, (fun ee => absurd (cs3.symm.trans ee) (by decide)), (fun ee => absurd (cs3.symm.trans ee) (by decide)), (fun ee => absurd (cs3.symm.trans ee) (by decide)), (fun ee => absurd (cs3.symm.trans ee) (by decide)), (fun ee => absurd (cs3.symm.trans ee) (by decide)), (fun ee => absurd (cs3.symm.trans ee) (by decide))⟩))
  by_cases cs4 : x1 = 4
  · exact j_topE (v := zI 4) (by rw [cs4]) (j_tabIn 200 d_Wo_logic_1 (by decide) (by decide) rfl (by decide) (jgD ⟨cs1, cs2, (fun ee => absurd (cs4.symm.trans ee) (by decide)), (fun ee => absurd (cs4.symm.trans ee) (by decide)), (fun ee => absurd (cs4.symm.trans ee) (by decide)), (fun ee => absurd (cs4.symm.trans ee) (by decide)), (fun ee => absurd (cs4.symm.trans ee) (by decide)), (fun ee => absurd (cs4.symm.trans ee) (by decide))⟩))
  by_cases cs5 : x1 = 5
  · exact j_topE (v := zI 5) (by rw [cs5]) (j_tabIn 200 d_Wo_logic_1 (by decide) (by decide) rfl (by decide) (jgD ⟨cs1, cs2, (fun ee => absurd (cs5.symm.trans ee) (by decide)), (fun ee => absurd (cs5.symm.trans ee) (by decide)), (fun ee => absurd (cs5.symm.trans ee) (by decide)), (fun ee => absurd (cs5.symm.trans ee) (by decide)), (fun ee => absurd (cs5.symm.trans ee) (by decide)), (fun ee => absurd (cs5.symm.trans ee) (by decide))⟩))
  by_cases cs6 : x1 = 6
  · exact j_topE (v := zI 6) (by rw [cs6]) (j_tabIn 110 d_Wo_logic_1 (by decide) (by decide) rfl (by decide) (jg110 cs6))
  by_cases cs7 : x1 = 7
  · exact j_topE (v := zI 7) (by rw [cs7]) (j_tabIn 124 d_Wo_logic_1 (by decide) (by decide) rfl (by decide) (jg124 cs7))
  by_cases cs8 : x1 = 8
  · exact j_topE (v := zI 8) (by rw [cs8]) (j_tabIn 140 d_Wo_logic_1 (by decide) (by decide) rfl (by decide) (jg140 cs8))
  by_cases cs9 : x1 = 9
  · exact j_topE (v := zI 9) (by rw [cs9]) (j_tabIn 154 d_Wo_logic_1 (by decide) (by decide) rfl (by decide) (jg154 cs9))
  by_cases cs10 : x1 = 10
  · exact j_topE (v := zI 10) (by rw [cs10]) (j_tabIn 170 d_Wo_logic_1 (by decide) (by decide) rfl (by decide) (jg170 cs10))
  by_cases cs11 : x1 = 11
  · exact j_topE (v := zI 11) (by rw [cs11]) (j_tabIn 184 d_Wo_logic_1 (by decide) (by decide) rfl (by decide) (jg184 cs11))
  exact j_tabOut 200 d_Wo_logic_1 (by rw [zI_toInt r1]; exact o_Wo_logic_1 cs1 cs2 cs3 cs4 cs5 cs6 cs7 cs8 cs9 cs10 cs11) (by decide) (jgD ⟨cs1, cs2, cs6, cs7, cs8, cs9, cs10, cs11⟩)
set_option maxHeartbeats 2000000 in
theorem b_Wo_logic_71 {ω : q_W} {σ : q_H} {Q : q_R → q_H → Prop} {d mc ms : Nat} {x3 : Int} {y0 : Int} {y2 : Int}  (hE : q_E σ) (h : (J ω m_Wo_truth d 0 0 0 0 0 [(0, .ref 49), (1, .int (zI x3))] [] σ (q_ki (fun v τ => J ω m_Wo_logic (d + 1) mc ms 0 0 76 [] [.int (zI v), .int (zI y0), .ref 50, .int (zI y2), .ref 49] τ Q)))) : J ω m_Wo_logic (d + 1) mc ms 0 0 71 [(0, .ref 49), (3, .int (zI x3))] [.int (zI y0), .ref 50, .int (zI y2), .ref 49] σ Q := by
  refine j_aload_n d_Wo_logic_71 0 rfl ?_
  refine j_iload_n d_Wo_logic_72 1 rfl ?_
  refine j_callV m_Wo_truth [.int (zI x3)] [.int (zI y0), .ref 50, .int (zI y2), .ref 49] d 0 0 cV_Wo_45 d_Wo_logic_73 rfl rfl (tg_49 hE) (q_okE hE (by decide)) (Nat.le_of_ble_eq_true rfl) (Nat.le_refl _) (Nat.le_of_ble_eq_true rfl) (Nat.zero_le _) (Nat.zero_le _) h (fun v τ h => ?_) (fun x τ h => ?_)
  · obtain ⟨v, hv, e1, h⟩ := h; cases e1; exact j_sel [] rfl h
  · obtain ⟨v, hv, e1, h⟩ := h; cases e1
set_option maxHeartbeats 2000000 in
theorem b_Wo_logic_96 {ω : q_W} {σ : q_H} {Q : q_R → q_H → Prop} {d mc ms : Nat} {x3 : Int} {y0 : Int} {y2 : Int}  (hE : q_E σ) (h : (J ω m_Wo_truth d 0 0 0 0 0 [(0, .ref 49), (1, .int (zI x3))] [] σ (q_ki (fun v τ => J ω m_Wo_logic (d + 1) mc ms 0 0 101 [] [.int (zI v), .int (zI y0), .ref 50, .int (zI y2), .ref 49] τ Q)))) : J ω m_Wo_logic (d + 1) mc ms 0 0 96 [(0, .ref 49), (3, .int (zI x3))] [.int (zI y0), .ref 50, .int (zI y2), .ref 49] σ Q := by
  refine j_aload_n d_Wo_logic_96 0 rfl ?_
  refine j_iload_n d_Wo_logic_97 1 rfl ?_
  refine j_callV m_Wo_truth [.int (zI x3)] [.int (zI y0), .ref 50, .int (zI y2), .ref 49] d 0 0 cV_Wo_45 d_Wo_logic_98 rfl rfl (tg_49 hE) (q_okE hE (by decide)) (Nat.le_of_ble_eq_true rfl) (Nat.le_refl _) (Nat.le_of_ble_eq_true rfl) (Nat.zero_le _) (Nat.zero_le _) h (fun v τ h => ?_) (fun x τ h => ?_)
  · obtain ⟨v, hv, e1, h⟩ := h; cases e1; exact j_sel [] rfl h
  · obtain ⟨v, hv, e1, h⟩ := h; cases e1
set_option maxHeartbeats 2000000 in
theorem b_Wo_logic_118 {ω : q_W} {σ : q_H} {Q : q_R → q_H → Prop} {d mc ms : Nat} {y0 : Int} {y1 : Int}  (hE : q_E σ) (h : (J ω m_Wo_leave d 0 0 0 0 0 [(0, .ref 49), (1, .int (zI y1)), (2, .int (zI y0))] [] σ (q_kv (fun τ => J ω m_Wo_logic (d + 1) mc ms 0 0 121 [] [] τ Q)))) : J ω m_Wo_logic (d + 1) mc ms 0 0 118 [] [.int (zI y0), .int (zI y1), .ref 49] σ Q := by
  refine j_callV m_Wo_leave [.int (zI y1), .int (zI y0)] [] d 0 0 cV_Wo_49 d_Wo_logic_118 rfl rfl (tg_49 hE) (q_okE hE (by decide)) (Nat.le_of_ble_eq_true rfl) (Nat.le_refl _) (Nat.le_of_ble_eq_true rfl) (Nat.zero_le _) (Nat.zero_le _) h (fun v τ h => ?_) (fun x τ h => ?_)
  · obtain ⟨e1, h⟩ := h; cases e1; exact j_sel [] rfl h
  · obtain ⟨e1, h⟩ := h; cases e1
set_option maxHeartbeats 2000000 in
theorem b_Wo_logic_132 {ω : q_W} {σ : q_H} {Q : q_R → q_H → Prop} {d mc ms : Nat} {y0 : Int} {y1 : Int}  (hE : q_E σ) (h : (J ω m_Wo_leave d 0 0 0 0 0 [(0, .ref 49), (1, .int (zI y1)), (2, .int (zI (zXor y0 1)))] [] σ (q_kv (fun τ => J ω m_Wo_logic (d + 1) mc ms 0 0 137 [] [] τ Q)))) : J ω m_Wo_logic (d + 1) mc ms 0 0 132 [] [.int (zI y0), .int (zI y1), .ref 49] σ Q := by
  refine j_iconst (v := zI 1) d_Wo_logic_132 (by decide) ?_
  refine zj_ixor d_Wo_logic_133 ?_
  refine j_callV m_Wo_leave [.int (zI y1), .int (zI (zXor y0 1))] [] d 0 0 cV_Wo_49 d_Wo_logic_134 rfl rfl (tg_49 hE) (q_okE hE (by decide)) (Nat.le_of_ble_eq_true rfl) (Nat.le_refl _) (Nat.le_of_ble_eq_true rfl) (Nat.zero_le _) (Nat.zero_le _) h (fun v τ h => ?_) (fun x τ h => ?_)
  · obtain ⟨e1, h⟩ := h; cases e1; exact j_sel [] rfl h
  · obtain ⟨e1, h⟩ := h; cases e1
set_option maxHeartbeats 2000000 in
theorem b_Wo_logic_148 {ω : q_W} {σ : q_H} {Q : q_R → q_H → Prop} {d mc ms : Nat} {y0 : Int} {y1 : Int}  (hE : q_E σ) (h : (J ω m_Wo_leave d 0 0 0 0 0 [(0, .ref 49), (1, .int (zI y1)), (2, .int (zI y0))] [] σ (q_kv (fun τ => J ω m_Wo_logic (d + 1) mc ms 0 0 151 [] [] τ Q)))) : J ω m_Wo_logic (d + 1) mc ms 0 0 148 [] [.int (zI y0), .int (zI y1), .ref 49] σ Q := by
  refine j_callV m_Wo_leave [.int (zI y1), .int (zI y0)] [] d 0 0 cV_Wo_49 d_Wo_logic_148 rfl rfl (tg_49 hE) (q_okE hE (by decide)) (Nat.le_of_ble_eq_true rfl) (Nat.le_refl _) (Nat.le_of_ble_eq_true rfl) (Nat.zero_le _) (Nat.zero_le _) h (fun v τ h => ?_) (fun x τ h => ?_)
  · obtain ⟨e1, h⟩ := h; cases e1; exact j_sel [] rfl h
  · obtain ⟨e1, h⟩ := h; cases e1
set_option maxHeartbeats 2000000 in
theorem b_Wo_logic_162 {ω : q_W} {σ : q_H} {Q : q_R → q_H → Prop} {d mc ms : Nat} {y0 : Int} {y1 : Int}  (hE : q_E σ) (h : (J ω m_Wo_leave d 0 0 0 0 0 [(0, .ref 49), (1, .int (zI y1)), (2, .int (zI (zXor y0 1)))] [] σ (q_kv (fun τ => J ω m_Wo_logic (d + 1) mc ms 0 0 167 [] [] τ Q)))) : J ω m_Wo_logic (d + 1) mc ms 0 0 162 [] [.int (zI y0), .int (zI y1), .ref 49] σ Q := by
  refine j_iconst (v := zI 1) d_Wo_logic_162 (by decide) ?_
  refine zj_ixor d_Wo_logic_163 ?_
  refine j_callV m_Wo_leave [.int (zI y1), .int (zI (zXor y0 1))] [] d 0 0 cV_Wo_49 d_Wo_logic_164 rfl rfl (tg_49 hE) (q_okE hE (by decide)) (Nat.le_of_ble_eq_true rfl) (Nat.le_refl _) (Nat.le_of_ble_eq_true rfl) (Nat.zero_le _) (Nat.zero_le _) h (fun v τ h => ?_) (fun x τ h => ?_)
  · obtain ⟨e1, h⟩ := h; cases e1; exact j_sel [] rfl h
  · obtain ⟨e1, h⟩ := h; cases e1
set_option maxHeartbeats 2000000 in
theorem b_Wo_logic_178 {ω : q_W} {σ : q_H} {Q : q_R → q_H → Prop} {d mc ms : Nat} {y0 : Int} {y1 : Int}  (hE : q_E σ) (h : (J ω m_Wo_leave d 0 0 0 0 0 [(0, .ref 49), (1, .int (zI y1)), (2, .int (zI y0))] [] σ (q_kv (fun τ => J ω m_Wo_logic (d + 1) mc ms 0 0 181 [] [] τ Q)))) : J ω m_Wo_logic (d + 1) mc ms 0 0 178 [] [.int (zI y0), .int (zI y1), .ref 49] σ Q := by
  refine j_callV m_Wo_leave [.int (zI y1), .int (zI y0)] [] d 0 0 cV_Wo_49 d_Wo_logic_178 rfl rfl (tg_49 hE) (q_okE hE (by decide)) (Nat.le_of_ble_eq_true rfl) (Nat.le_refl _) (Nat.le_of_ble_eq_true rfl) (Nat.zero_le _) (Nat.zero_le _) h (fun v τ h => ?_) (fun x τ h => ?_)
  · obtain ⟨e1, h⟩ := h; cases e1; exact j_sel [] rfl h
  · obtain ⟨e1, h⟩ := h; cases e1
set_option maxHeartbeats 2000000 in
theorem b_Wo_logic_192 {ω : q_W} {σ : q_H} {Q : q_R → q_H → Prop} {d mc ms : Nat} {y0 : Int} {y1 : Int}  (hE : q_E σ) (h : (J ω m_Wo_leave d 0 0 0 0 0 [(0, .ref 49), (1, .int (zI y1)), (2, .int (zI (zXor y0 1)))] [] σ (q_kv (fun τ => J ω m_Wo_logic (d + 1) mc ms 0 0 197 [] [] τ Q)))) : J ω m_Wo_logic (d + 1) mc ms 0 0 192 [] [.int (zI y0), .int (zI y1), .ref 49] σ Q := by
  refine j_iconst (v := zI 1) d_Wo_logic_192 (by decide) ?_
  refine zj_ixor d_Wo_logic_193 ?_
  refine j_callV m_Wo_leave [.int (zI y1), .int (zI (zXor y0 1))] [] d 0 0 cV_Wo_49 d_Wo_logic_194 rfl rfl (tg_49 hE) (q_okE hE (by decide)) (Nat.le_of_ble_eq_true rfl) (Nat.le_refl _) (Nat.le_of_ble_eq_true rfl) (Nat.zero_le _) (Nat.zero_le _) h (fun v τ h => ?_) (fun x τ h => ?_)
  · obtain ⟨e1, h⟩ := h; cases e1; exact j_sel [] rfl h
  · obtain ⟨e1, h⟩ := h; cases e1
set_option maxHeartbeats 2000000 in
theorem b_Wo_logic_207 {ω : q_W} {σ : q_H} {Q : q_R → q_H → Prop} {d mc ms : Nat}   (hE : q_E σ) (h : (Q (.inl none) σ)) : J ω m_Wo_logic (d + 1) mc ms 0 0 207 [] [] σ Q := by
  exact j_vret d_Wo_logic_207 rfl (Nat.zero_le _) (Nat.zero_le _) h
set_option maxHeartbeats 2000000 in
theorem b_Wo_logic_76 {ω : q_W} {σ : q_H} {Q : q_R → q_H → Prop} {d mc ms : Nat} {y0 : Int} {y1 : Int} {y3 : Int}  (hE : q_E σ) (h : (J ω m_Ci_or d 0 0 0 0 0 [(0, .ref 50), (1, .int (zI y1)), (2, .int (zI y0))] [] σ (q_ki (fun v τ => J ω m_Wo_logic (d + 1) mc ms 0 0 79 [] [.int (zI v), .int (zI y3), .ref 49] τ Q)))) : J ω m_Wo_logic (d + 1) mc ms 0 0 76 [] [.int (zI y0), .int (zI y1), .ref 50, .int (zI y3), .ref 49] σ Q := by
  refine j_callV m_Ci_or [.int (zI y1), .int (zI y0)] [.int (zI y3), .ref 49] d 0 0 cV_Wo_59 d_Wo_logic_76 rfl rfl (tg_50 hE) (q_okE hE (by decide)) (Nat.le_of_ble_eq_true rfl) (Nat.le_refl _) (Nat.le_of_ble_eq_true rfl) (Nat.zero_le _) (Nat.zero_le _) h (fun v τ h => ?_) (fun x τ h => ?_)
  · obtain ⟨v, hv, e1, h⟩ := h; cases e1; exact j_sel [] rfl h
  · obtain ⟨v, hv, e1, h⟩ := h; cases e1
set_option maxHeartbeats 2000000 in
theorem b_Wo_logic_101 {ω : q_W} {σ : q_H} {Q : q_R → q_H → Prop} {d mc ms : Nat} {y0 : Int} {y1 : Int} {y3 : Int}  (hE : q_E σ) (h : (J ω m_Ci_and d 0 0 0 0 0 [(0, .ref 50), (1, .int (zI y1)), (2, .int (zI y0))] [] σ (q_ki (fun v τ => J ω m_Wo_logic (d + 1) mc ms 0 0 104 [] [.int (zI v), .int (zI y3), .ref 49] τ Q)))) : J ω m_Wo_logic (d + 1) mc ms 0 0 101 [] [.int (zI y0), .int (zI y1), .ref 50, .int (zI y3), .ref 49] σ Q := by
  refine j_callV m_Ci_and [.int (zI y1), .int (zI y0)] [.int (zI y3), .ref 49] d 0 0 cV_Wo_42 d_Wo_logic_101 rfl rfl (tg_50 hE) (q_okE hE (by decide)) (Nat.le_of_ble_eq_true rfl) (Nat.le_refl _) (Nat.le_of_ble_eq_true rfl) (Nat.zero_le _) (Nat.zero_le _) h (fun v τ h => ?_) (fun x τ h => ?_)
  · obtain ⟨v, hv, e1, h⟩ := h; cases e1; exact j_sel [] rfl h
  · obtain ⟨v, hv, e1, h⟩ := h; cases e1
set_option maxHeartbeats 2000000 in
theorem b_Wo_logic_121 {ω : q_W} {σ : q_H} {Q : q_R → q_H → Prop} {d mc ms : Nat}   (hE : q_E σ) (h : (Q (.inl none) σ)) : J ω m_Wo_logic (d + 1) mc ms 0 0 121 [] [] σ Q := by
  refine j_goto 207 d_Wo_logic_121 (by decide) ?_
  exact j_vret d_Wo_logic_207 rfl (Nat.zero_le _) (Nat.zero_le _) h
set_option maxHeartbeats 2000000 in
theorem b_Wo_logic_137 {ω : q_W} {σ : q_H} {Q : q_R → q_H → Prop} {d mc ms : Nat}   (hE : q_E σ) (h : (Q (.inl none) σ)) : J ω m_Wo_logic (d + 1) mc ms 0 0 137 [] [] σ Q := by
  refine j_goto 207 d_Wo_logic_137 (by decide) ?_
  exact j_vret d_Wo_logic_207 rfl (Nat.zero_le _) (Nat.zero_le _) h
set_option maxHeartbeats 2000000 in
theorem b_Wo_logic_151 {ω : q_W} {σ : q_H} {Q : q_R → q_H → Prop} {d mc ms : Nat}   (hE : q_E σ) (h : (Q (.inl none) σ)) : J ω m_Wo_logic (d + 1) mc ms 0 0 151 [] [] σ Q := by
  refine j_goto 207 d_Wo_logic_151 (by decide) ?_
  exact j_vret d_Wo_logic_207 rfl (Nat.zero_le _) (Nat.zero_le _) h
set_option maxHeartbeats 2000000 in
theorem b_Wo_logic_167 {ω : q_W} {σ : q_H} {Q : q_R → q_H → Prop} {d mc ms : Nat}   (hE : q_E σ) (h : (Q (.inl none) σ)) : J ω m_Wo_logic (d + 1) mc ms 0 0 167 [] [] σ Q := by
  refine j_goto 207 d_Wo_logic_167 (by decide) ?_
  exact j_vret d_Wo_logic_207 rfl (Nat.zero_le _) (Nat.zero_le _) h
set_option maxHeartbeats 2000000 in
theorem b_Wo_logic_181 {ω : q_W} {σ : q_H} {Q : q_R → q_H → Prop} {d mc ms : Nat}   (hE : q_E σ) (h : (Q (.inl none) σ)) : J ω m_Wo_logic (d + 1) mc ms 0 0 181 [] [] σ Q := by
  refine j_goto 207 d_Wo_logic_181 (by decide) ?_
  exact j_vret d_Wo_logic_207 rfl (Nat.zero_le _) (Nat.zero_le _) h
set_option maxHeartbeats 2000000 in
theorem b_Wo_logic_197 {ω : q_W} {σ : q_H} {Q : q_R → q_H → Prop} {d mc ms : Nat}   (hE : q_E σ) (h : (Q (.inl none) σ)) : J ω m_Wo_logic (d + 1) mc ms 0 0 197 [] [] σ Q := by
  refine j_goto 207 d_Wo_logic_197 (by decide) ?_
  exact j_vret d_Wo_logic_207 rfl (Nat.zero_le _) (Nat.zero_le _) h
set_option maxHeartbeats 2000000 in
theorem b_Wo_logic_79 {ω : q_W} {σ : q_H} {Q : q_R → q_H → Prop} {d mc ms : Nat} {y0 : Int} {y1 : Int}  (hE : q_E σ) (h : (J ω m_Wo_leave d 0 0 0 0 0 [(0, .ref 49), (1, .int (zI y1)), (2, .int (zI y0))] [] σ (q_kv (fun τ => J ω m_Wo_logic (d + 1) mc ms 0 0 82 [] [] τ Q)))) : J ω m_Wo_logic (d + 1) mc ms 0 0 79 [] [.int (zI y0), .int (zI y1), .ref 49] σ Q := by
  refine j_callV m_Wo_leave [.int (zI y1), .int (zI y0)] [] d 0 0 cV_Wo_49 d_Wo_logic_79 rfl rfl (tg_49 hE) (q_okE hE (by decide)) (Nat.le_of_ble_eq_true rfl) (Nat.le_refl _) (Nat.le_of_ble_eq_true rfl) (Nat.zero_le _) (Nat.zero_le _) h (fun v τ h => ?_) (fun x τ h => ?_)
  · obtain ⟨e1, h⟩ := h; cases e1; exact j_sel [] rfl h
  · obtain ⟨e1, h⟩ := h; cases e1
set_option maxHeartbeats 2000000 in
theorem b_Wo_logic_104 {ω : q_W} {σ : q_H} {Q : q_R → q_H → Prop} {d mc ms : Nat} {y0 : Int} {y1 : Int}  (hE : q_E σ) (h : (J ω m_Wo_leave d 0 0 0 0 0 [(0, .ref 49), (1, .int (zI y1)), (2, .int (zI y0))] [] σ (q_kv (fun τ => J ω m_Wo_logic (d + 1) mc ms 0 0 107 [] [] τ Q)))) : J ω m_Wo_logic (d + 1) mc ms 0 0 104 [] [.int (zI y0), .int (zI y1), .ref 49] σ Q := by
  refine j_callV m_Wo_leave [.int (zI y1), .int (zI y0)] [] d 0 0 cV_Wo_49 d_Wo_logic_104 rfl rfl (tg_49 hE) (q_okE hE (by decide)) (Nat.le_of_ble_eq_true rfl) (Nat.le_refl _) (Nat.le_of_ble_eq_true rfl) (Nat.zero_le _) (Nat.zero_le _) h (fun v τ h => ?_) (fun x τ h => ?_)
  · obtain ⟨e1, h⟩ := h; cases e1; exact j_sel [] rfl h
  · obtain ⟨e1, h⟩ := h; cases e1
set_option maxHeartbeats 2000000 in
theorem b_Wo_logic_82 {ω : q_W} {σ : q_H} {Q : q_R → q_H → Prop} {d mc ms : Nat}   (hE : q_E σ) (h : (Q (.inl none) σ)) : J ω m_Wo_logic (d + 1) mc ms 0 0 82 [] [] σ Q := by
  refine j_goto 207 d_Wo_logic_82 (by decide) ?_
  exact j_vret d_Wo_logic_207 rfl (Nat.zero_le _) (Nat.zero_le _) h
set_option maxHeartbeats 2000000 in
theorem b_Wo_logic_107 {ω : q_W} {σ : q_H} {Q : q_R → q_H → Prop} {d mc ms : Nat}   (hE : q_E σ) (h : (Q (.inl none) σ)) : J ω m_Wo_logic (d + 1) mc ms 0 0 107 [] [] σ Q := by
  refine j_goto 207 d_Wo_logic_107 (by decide) ?_
  exact j_vret d_Wo_logic_207 rfl (Nat.zero_le _) (Nat.zero_le _) h
set_option maxHeartbeats 2000000 in
theorem b_Wo_same_0 {ω : q_W} {σ : q_H} {Q : q_R → q_H → Prop} {d mc ms : Nat} {x1 : Int} {x2 : Int}  (hE : q_E σ) (h : (J ω m_Wo_same (d + 1) mc ms 0 0 5 [(0, .ref 49), (1, .int (zI x1)), (2, .int (zI x2)), (3, .int (zI 0)), (4, .int (zI 0))] [] σ Q)) : J ω m_Wo_same (d + 1) mc ms 0 0 0 [(0, .ref 49), (1, .int (zI x1)), (2, .int (zI x2))] [] σ Q := by
  refine j_iconst (v := zI 0) d_Wo_same_0 (by decide) ?_
  refine j_istore_n (L' := [(3, .int (zI 0)), (0, .ref 49), (1, .int (zI x1)), (2, .int (zI x2))]) d_Wo_same_1 (by decide) rfl ?_
  refine j_iconst (v := zI 0) d_Wo_same_2 (by decide) ?_
  refine j_istore (L' := [(4, .int (zI 0)), (3, .int (zI 0)), (0, .ref 49), (1, .int (zI x1)), (2, .int (zI x2))]) d_Wo_same_3 (by decide) rfl ?_
  exact j_sel [2, 3, 4, 1, 0] rfl h
set_option maxHeartbeats 2000000 in
theorem b_Wo_same_5 {ω : q_W} {σ : q_H} {Q : q_R → q_H → Prop} {d mc ms : Nat} {x1 : Int} {x2 : Int} {x3 : Int} {x4 : Int}  (hE : q_E σ) (h : inR x4 ∧ q_imp (x4 ≥ 8) ((Q (.inl (some (.int (zI x3)))) σ)) ∧ q_imp (x4 < 8) ((0 ≤ (x1 + x4) ∧ (x1 + x4) < 3200) ∧ (0 ≤ (x2 + x4) ∧ (x2 + x4) < 3200) ∧ (J ω m_Ci_xor d 0 0 0 0 0 [(0, .ref 50), (1, .int (zI (z σ 58 (x1 + x4).toNat))), (2, .int (zI (z σ 58 (x2 + x4).toNat)))] [] σ (q_ki (fun v τ => J ω m_Wo_same (d + 1) mc ms 0 0 42 [(0, .ref 49), (1, .int (zI x1)), (2, .int (zI x2)), (4, .int (zI x4))] [.int (zI v), .int (zI x3), .ref 50] τ Q))))) : J ω m_Wo_same (d + 1) mc ms 0 0 5 [(0, .ref 49), (1, .int (zI x1)), (2, .int (zI x2)), (3, .int (zI x3)), (4, .int (zI x4))] [] σ Q := by
  refine j_iload d_Wo_same_5 4 rfl ?_
  refine j_bipush (v := zI 8) d_Wo_same_7 (by decide) ?_
  obtain ⟨r1, h⟩ := h
  obtain ⟨h1, h2⟩ := h
  refine zj_icmp_ge 54 d_Wo_same_9 (by decide) r1 ⟨by decide, by decide⟩ (fun k2 => ?_) (fun k2 => ?_)
  · have h := h1 k2
    refine j_iload_n d_Wo_same_54 3 rfl ?_
    exact zj_iret d_Wo_same_55 rfl (Nat.zero_le _) (Nat.zero_le _) h
  · have h := h2 k2
    refine j_aload_n d_Wo_same_12 0 rfl ?_
    refine j_getR 50 f_Wo_12 d_Wo_same_13 (tg_49 hE) (q_okE hE (by decide)) (rf_49_0 hE) (by decide) ?_
    refine j_iload_n d_Wo_same_16 3 rfl ?_
    refine j_aload_n d_Wo_same_17 0 rfl ?_
    refine j_getR 50 f_Wo_12 d_Wo_same_18 (tg_49 hE) (q_okE hE (by decide)) (rf_49_0 hE) (by decide) ?_
    refine j_aload_n d_Wo_same_21 0 rfl ?_
    refine j_getR 58 f_Wo_18 d_Wo_same_22 (tg_49 hE) (q_okE hE (by decide)) (rf_49_1 hE) (by decide) ?_
    refine j_iload_n d_Wo_same_25 1 rfl ?_
    refine j_iload d_Wo_same_26 4 rfl ?_
    refine zj_iadd (x1 + x4) rfl d_Wo_same_28 ?_
    obtain ⟨c3, h⟩ := h
    refine zj_iald (z σ 58 (x1 + x4).toNat) d_Wo_same_29 (tg_58 hE) (q_okE hE (by decide)) c3 (by decide) (q_z _ _ _) ?_
    refine j_aload_n d_Wo_same_30 0 rfl ?_
    refine j_getR 58 f_Wo_18 d_Wo_same_31 (tg_49 hE) (q_okE hE (by decide)) (rf_49_1 hE) (by decide) ?_
    refine j_iload_n d_Wo_same_34 2 rfl ?_
    refine j_iload d_Wo_same_35 4 rfl ?_
    refine zj_iadd (x2 + x4) rfl d_Wo_same_37 ?_
    obtain ⟨c4, h⟩ := h
    refine zj_iald (z σ 58 (x2 + x4).toNat) d_Wo_same_38 (tg_58 hE) (q_okE hE (by decide)) c4 (by decide) (q_z _ _ _) ?_
    refine j_callV m_Ci_xor [.int (zI (z σ 58 (x1 + x4).toNat)), .int (zI (z σ 58 (x2 + x4).toNat))] [.int (zI x3), .ref 50] d 0 0 cV_Wo_52 d_Wo_same_39 rfl rfl (tg_50 hE) (q_okE hE (by decide)) (Nat.le_of_ble_eq_true rfl) (Nat.le_refl _) (Nat.le_of_ble_eq_true rfl) (Nat.zero_le _) (Nat.zero_le _) h (fun v τ h => ?_) (fun x τ h => ?_)
    · obtain ⟨v, hv, e1, h⟩ := h; cases e1; exact j_sel [0, 1, 2, 4] rfl h
    · obtain ⟨v, hv, e1, h⟩ := h; cases e1
set_option maxHeartbeats 2000000 in
theorem b_Wo_same_42 {ω : q_W} {σ : q_H} {Q : q_R → q_H → Prop} {d mc ms : Nat} {x1 : Int} {x2 : Int} {x4 : Int} {y0 : Int} {y1 : Int}  (hE : q_E σ) (h : (J ω m_Ci_and d 0 0 0 0 0 [(0, .ref 50), (1, .int (zI y1)), (2, .int (zI (zXor y0 1)))] [] σ (q_ki (fun v τ => J ω m_Wo_same (d + 1) mc ms 0 0 47 [(0, .ref 49), (1, .int (zI x1)), (2, .int (zI x2)), (4, .int (zI x4))] [.int (zI v)] τ Q)))) : J ω m_Wo_same (d + 1) mc ms 0 0 42 [(0, .ref 49), (1, .int (zI x1)), (2, .int (zI x2)), (4, .int (zI x4))] [.int (zI y0), .int (zI y1), .ref 50] σ Q := by
  refine j_iconst (v := zI 1) d_Wo_same_42 (by decide) ?_
  refine zj_ixor d_Wo_same_43 ?_
  refine j_callV m_Ci_and [.int (zI y1), .int (zI (zXor y0 1))] [] d 0 0 cV_Wo_42 d_Wo_same_44 rfl rfl (tg_50 hE) (q_okE hE (by decide)) (Nat.le_of_ble_eq_true rfl) (Nat.le_refl _) (Nat.le_of_ble_eq_true rfl) (Nat.zero_le _) (Nat.zero_le _) h (fun v τ h => ?_) (fun x τ h => ?_)
  · obtain ⟨v, hv, e1, h⟩ := h; cases e1; exact j_sel [0, 1, 2, 3] rfl h
  · obtain ⟨v, hv, e1, h⟩ := h; cases e1
set_option maxHeartbeats 2000000 in
theorem b_Wo_same_47 {ω : q_W} {σ : q_H} {Q : q_R → q_H → Prop} {d mc ms : Nat} {x1 : Int} {x2 : Int} {x4 : Int} {y0 : Int}  (hE : q_E σ) (h : (J ω m_Wo_same (d + 1) mc ms 0 0 5 [(0, .ref 49), (1, .int (zI x1)), (2, .int (zI x2)), (3, .int (zI y0)), (4, .int (zI (x4 + 1)))] [] σ Q)) : J ω m_Wo_same (d + 1) mc ms 0 0 47 [(0, .ref 49), (1, .int (zI x1)), (2, .int (zI x2)), (4, .int (zI x4))] [.int (zI y0)] σ Q := by
  refine j_istore_n (L' := [(3, .int (zI y0)), (0, .ref 49), (1, .int (zI x1)), (2, .int (zI x2)), (4, .int (zI x4))]) d_Wo_same_47 (by decide) rfl ?_
  refine zj_iinc (L' := [(4, .int (zI (x4 + 1))), (3, .int (zI y0)), (0, .ref 49), (1, .int (zI x1)), (2, .int (zI x2))]) (x4 + 1) d_Wo_same_48 4 rfl (by omega) (by decide) rfl ?_
  refine j_goto 5 d_Wo_same_51 (by decide) ?_
  exact j_sel [2, 3, 4, 1, 0] rfl h
set_option maxHeartbeats 2000000 in
theorem b_Wo_below_0 {ω : q_W} {σ : q_H} {Q : q_R → q_H → Prop} {d mc ms : Nat} {x1 : Int} {x2 : Int}  (hE : q_E σ) (h : (J ω m_Wo_below (d + 1) mc ms 0 0 5 [(0, .ref 49), (1, .int (zI x1)), (2, .int (zI x2)), (3, .int (zI 1)), (4, .int (zI 0))] [] σ Q)) : J ω m_Wo_below (d + 1) mc ms 0 0 0 [(0, .ref 49), (1, .int (zI x1)), (2, .int (zI x2))] [] σ Q := by
  refine j_iconst (v := zI 1) d_Wo_below_0 (by decide) ?_
  refine j_istore_n (L' := [(3, .int (zI 1)), (0, .ref 49), (1, .int (zI x1)), (2, .int (zI x2))]) d_Wo_below_1 (by decide) rfl ?_
  refine j_iconst (v := zI 0) d_Wo_below_2 (by decide) ?_
  refine j_istore (L' := [(4, .int (zI 0)), (3, .int (zI 1)), (0, .ref 49), (1, .int (zI x1)), (2, .int (zI x2))]) d_Wo_below_3 (by decide) rfl ?_
  exact j_sel [2, 3, 4, 1, 0] rfl h
set_option maxHeartbeats 2000000 in
theorem b_Wo_below_5 {ω : q_W} {σ : q_H} {Q : q_R → q_H → Prop} {d mc ms : Nat} {x1 : Int} {x2 : Int} {x3 : Int} {x4 : Int}  (hE : q_E σ) (h : inR x4 ∧ q_imp (x4 ≥ 8) ((Q (.inl (some (.int (zI x3)))) σ)) ∧ q_imp (x4 < 8) ((0 ≤ (x2 + x4) ∧ (x2 + x4) < 3200) ∧ (0 ≤ (x1 + x4) ∧ (x1 + x4) < 3200) ∧ (J ω m_Ci_xor d 0 0 0 0 0 [(0, .ref 50), (1, .int (zI (z σ 58 (x1 + x4).toNat))), (2, .int (zI (z σ 58 (x2 + x4).toNat)))] [] σ (q_ki (fun v τ => J ω m_Wo_below (d + 1) mc ms 0 0 45 [(0, .ref 49), (1, .int (zI x1)), (2, .int (zI x2)), (3, .int (zI x3)), (4, .int (zI x4)), (5, .int (zI (z σ 58 (x2 + x4).toNat)))] [.int (zI v), .ref 50] τ Q))))) : J ω m_Wo_below (d + 1) mc ms 0 0 5 [(0, .ref 49), (1, .int (zI x1)), (2, .int (zI x2)), (3, .int (zI x3)), (4, .int (zI x4))] [] σ Q := by
  refine j_iload d_Wo_below_5 4 rfl ?_
  refine j_bipush (v := zI 8) d_Wo_below_7 (by decide) ?_
  obtain ⟨r1, h⟩ := h
  obtain ⟨h1, h2⟩ := h
  refine zj_icmp_ge 58 d_Wo_below_9 (by decide) r1 ⟨by decide, by decide⟩ (fun k2 => ?_) (fun k2 => ?_)
  · have h := h1 k2
    refine j_iload_n d_Wo_below_58 3 rfl ?_
    exact zj_iret d_Wo_below_59 rfl (Nat.zero_le _) (Nat.zero_le _) h
  · have h := h2 k2
    refine j_aload_n d_Wo_below_12 0 rfl ?_
    refine j_getR 58 f_Wo_18 d_Wo_below_13 (tg_49 hE) (q_okE hE (by decide)) (rf_49_1 hE) (by decide) ?_
    refine j_iload_n d_Wo_below_16 2 rfl ?_
    refine j_iload d_Wo_below_17 4 rfl ?_
    refine zj_iadd (x2 + x4) rfl d_Wo_below_19 ?_
    obtain ⟨c3, h⟩ := h
    refine zj_iald (z σ 58 (x2 + x4).toNat) d_Wo_below_20 (tg_58 hE) (q_okE hE (by decide)) c3 (by decide) (q_z _ _ _) ?_
    refine j_istore (L' := [(5, .int (zI (z σ 58 (x2 + x4).toNat))), (0, .ref 49), (1, .int (zI x1)), (2, .int (zI x2)), (3, .int (zI x3)), (4, .int (zI x4))]) d_Wo_below_21 (by decide) rfl ?_
    refine j_aload_n d_Wo_below_23 1 rfl ?_
    refine j_getR 50 f_Wo_12 d_Wo_below_24 (tg_49 hE) (q_okE hE (by decide)) (rf_49_0 hE) (by decide) ?_
    refine j_aload_n d_Wo_below_27 1 rfl ?_
    refine j_getR 50 f_Wo_12 d_Wo_below_28 (tg_49 hE) (q_okE hE (by decide)) (rf_49_0 hE) (by decide) ?_
    refine j_aload_n d_Wo_below_31 1 rfl ?_
    refine j_getR 58 f_Wo_18 d_Wo_below_32 (tg_49 hE) (q_okE hE (by decide)) (rf_49_1 hE) (by decide) ?_
    refine j_iload_n d_Wo_below_35 2 rfl ?_
    refine j_iload d_Wo_below_36 5 rfl ?_
    refine zj_iadd (x1 + x4) rfl d_Wo_below_38 ?_
    obtain ⟨c4, h⟩ := h
    refine zj_iald (z σ 58 (x1 + x4).toNat) d_Wo_below_39 (tg_58 hE) (q_okE hE (by decide)) c4 (by decide) (q_z _ _ _) ?_
    refine j_iload d_Wo_below_40 0 rfl ?_
    refine j_callV m_Ci_xor [.int (zI (z σ 58 (x1 + x4).toNat)), .int (zI (z σ 58 (x2 + x4).toNat))] [.ref 50] d 0 0 cV_Wo_52 d_Wo_below_42 rfl rfl (tg_50 hE) (q_okE hE (by decide)) (Nat.le_of_ble_eq_true rfl) (Nat.le_refl _) (Nat.le_of_ble_eq_true rfl) (Nat.zero_le _) (Nat.zero_le _) h (fun v τ h => ?_) (fun x τ h => ?_)
    · obtain ⟨v, hv, e1, h⟩ := h; cases e1; exact j_sel [1, 2, 3, 4, 5, 0] rfl h
    · obtain ⟨v, hv, e1, h⟩ := h; cases e1
set_option maxHeartbeats 2000000 in
theorem b_Wo_below_45 {ω : q_W} {σ : q_H} {Q : q_R → q_H → Prop} {d mc ms : Nat} {x1 : Int} {x2 : Int} {x3 : Int} {x4 : Int} {x5 : Int} {y0 : Int}  (hE : q_E σ) (h : (J ω m_Ci_pick d 0 0 0 0 0 [(0, .ref 50), (1, .int (zI y0)), (2, .int (zI x5)), (3, .int (zI x3))] [] σ (q_ki (fun v τ => J ω m_Wo_below (d + 1) mc ms 0 0 51 [(0, .ref 49), (1, .int (zI x1)), (2, .int (zI x2)), (4, .int (zI x4))] [.int (zI v)] τ Q)))) : J ω m_Wo_below (d + 1) mc ms 0 0 45 [(0, .ref 49), (1, .int (zI x1)), (2, .int (zI x2)), (3, .int (zI x3)), (4, .int (zI x4)), (5, .int (zI x5))] [.int (zI y0), .ref 50] σ Q := by
  refine j_iload d_Wo_below_45 5 rfl ?_
  refine j_iload_n d_Wo_below_47 3 rfl ?_
  refine j_callV m_Ci_pick [.int (zI y0), .int (zI x5), .int (zI x3)] [] d 0 0 cV_Wo_55 d_Wo_below_48 rfl rfl (tg_50 hE) (q_okE hE (by decide)) (Nat.le_of_ble_eq_true rfl) (Nat.le_refl _) (Nat.le_of_ble_eq_true rfl) (Nat.zero_le _) (Nat.zero_le _) h (fun v τ h => ?_) (fun x τ h => ?_)
  · obtain ⟨v, hv, e1, h⟩ := h; cases e1; exact j_sel [0, 1, 2, 4] rfl h
  · obtain ⟨v, hv, e1, h⟩ := h; cases e1
set_option maxHeartbeats 2000000 in
theorem b_Wo_below_51 {ω : q_W} {σ : q_H} {Q : q_R → q_H → Prop} {d mc ms : Nat} {x1 : Int} {x2 : Int} {x4 : Int} {y0 : Int}  (hE : q_E σ) (h : (J ω m_Wo_below (d + 1) mc ms 0 0 5 [(0, .ref 49), (1, .int (zI x1)), (2, .int (zI x2)), (3, .int (zI y0)), (4, .int (zI (x4 + 1)))] [] σ Q)) : J ω m_Wo_below (d + 1) mc ms 0 0 51 [(0, .ref 49), (1, .int (zI x1)), (2, .int (zI x2)), (4, .int (zI x4))] [.int (zI y0)] σ Q := by
  refine j_istore_n (L' := [(3, .int (zI y0)), (0, .ref 49), (1, .int (zI x1)), (2, .int (zI x2)), (4, .int (zI x4))]) d_Wo_below_51 (by decide) rfl ?_
  refine zj_iinc (L' := [(4, .int (zI (x4 + 1))), (3, .int (zI y0)), (0, .ref 49), (1, .int (zI x1)), (2, .int (zI x2))]) (x4 + 1) d_Wo_below_52 4 rfl (by omega) (by decide) rfl ?_
  refine j_goto 5 d_Wo_below_55 (by decide) ?_
  exact j_sel [2, 3, 4, 1, 0] rfl h
set_option maxHeartbeats 2000000 in
theorem b_Wo_bitwise_0 {ω : q_W} {σ : q_H} {Q : q_R → q_H → Prop} {d mc ms : Nat} {x1 : Int} {x2 : Int} {x3 : Int}  (hE : q_E σ) (h : (J ω m_Wo_bitwise (d + 1) mc ms 0 0 3 [(0, .ref 49), (1, .int (zI x1)), (2, .int (zI x2)), (3, .int (zI x3)), (4, .int (zI 0))] [] σ Q)) : J ω m_Wo_bitwise (d + 1) mc ms 0 0 0 [(0, .ref 49), (1, .int (zI x1)), (2, .int (zI x2)), (3, .int (zI x3))] [] σ Q := by
  refine j_iconst (v := zI 0) d_Wo_bitwise_0 (by decide) ?_
  refine j_istore (L' := [(4, .int (zI 0)), (0, .ref 49), (1, .int (zI x1)), (2, .int (zI x2)), (3, .int (zI x3))]) d_Wo_bitwise_1 (by decide) rfl ?_
  exact j_sel [1, 2, 3, 4, 0] rfl h
set_option maxHeartbeats 2000000 in
theorem b_Wo_bitwise_3 {ω : q_W} {σ : q_H} {Q : q_R → q_H → Prop} {d mc ms : Nat} {x1 : Int} {x2 : Int} {x3 : Int} {x4 : Int}  (hE : q_E σ) (h : inR x4 ∧ q_imp (x4 ≥ 8) ((Q (.inl none) σ)) ∧ q_imp (x4 < 8) ((0 ≤ (x2 + x4) ∧ (x2 + x4) < 3200) ∧ (0 ≤ (x3 + x4) ∧ (x3 + x4) < 3200) ∧ inR x1 ∧ q_imp (x1 ≠ 4) (q_imp (x1 ≠ 5) ((J ω m_Ci_or d 0 0 0 0 0 [(0, .ref 50), (1, .int (zI (z σ 58 (x2 + x4).toNat))), (2, .int (zI (z σ 58 (x3 + x4).toNat)))] [] σ (q_ki (fun v τ => J ω m_Wo_bitwise (d + 1) mc ms 0 0 89 [(0, .ref 49), (1, .int (zI x1)), (2, .int (zI x2)), (3, .int (zI x3)), (4, .int (zI x4))] [.int (zI v), .int (zI (x2 + x4)), .ref 58] τ Q)))) ∧ q_imp (x1 = 5) ((J ω m_Ci_and d 0 0 0 0 0 [(0, .ref 50), (1, .int (zI (z σ 58 (x2 + x4).toNat))), (2, .int (zI (z σ 58 (x3 + x4).toNat)))] [] σ (q_ki (fun v τ => J ω m_Wo_bitwise (d + 1) mc ms 0 0 75 [(0, .ref 49), (1, .int (zI x1)), (2, .int (zI x2)), (3, .int (zI x3)), (4, .int (zI x4))] [.int (zI v), .int (zI (x2 + x4)), .ref 58] τ Q))))) ∧ q_imp (x1 = 4) ((J ω m_Ci_xor d 0 0 0 0 0 [(0, .ref 50), (1, .int (zI (z σ 58 (x2 + x4).toNat))), (2, .int (zI (z σ 58 (x3 + x4).toNat)))] [] σ (q_ki (fun v τ => J ω m_Wo_bitwise (d + 1) mc ms 0 0 56 [(0, .ref 49), (1, .int (zI x1)), (2, .int (zI x2)), (3, .int (zI x3)), (4, .int (zI x4))] [.int (zI v), .int (zI (x2 + x4)), .ref 58] τ Q)))))) : J ω m_Wo_bitwise (d + 1) mc ms 0 0 3 [(0, .ref 49), (1, .int (zI x1)), (2, .int (zI x2)), (3, .int (zI x3)), (4, .int (zI x4))] [] σ Q := by
  refine j_iload d_Wo_bitwise_3 4 rfl ?_
  refine j_bipush (v := zI 8) d_Wo_bitwise_5 (by decide) ?_
  obtain ⟨r1, h⟩ := h
  obtain ⟨h1, h2⟩ := h
  refine zj_icmp_ge 96 d_Wo_bitwise_7 (by decide) r1 ⟨by decide, by decide⟩ (fun k2 => ?_) (fun k2 => ?_)
  · have h := h1 k2
    exact j_vret d_Wo_bitwise_96 rfl (Nat.zero_le _) (Nat.zero_le _) h
  · have h := h2 k2
    refine j_aload_n d_Wo_bitwise_10 0 rfl ?_
    refine j_getR 58 f_Wo_18 d_Wo_bitwise_11 (tg_49 hE) (q_okE hE (by decide)) (rf_49_1 hE) (by decide) ?_
    refine j_iload_n d_Wo_bitwise_14 2 rfl ?_
    refine j_iload d_Wo_bitwise_15 4 rfl ?_
    refine zj_iadd (x2 + x4) rfl d_Wo_bitwise_17 ?_
    obtain ⟨c3, h⟩ := h
    refine zj_iald (z σ 58 (x2 + x4).toNat) d_Wo_bitwise_18 (tg_58 hE) (q_okE hE (by decide)) c3 (by decide) (q_z _ _ _) ?_
    refine j_istore (L' := [(5, .int (zI (z σ 58 (x2 + x4).toNat))), (0, .ref 49), (1, .int (zI x1)), (2, .int (zI x2)), (3, .int (zI x3)), (4, .int (zI x4))]) d_Wo_bitwise_19 (by decide) rfl ?_
    refine j_aload_n d_Wo_bitwise_21 1 rfl ?_
    refine j_getR 58 f_Wo_18 d_Wo_bitwise_22 (tg_49 hE) (q_okE hE (by decide)) (rf_49_1 hE) (by decide) ?_
    refine j_iload_n d_Wo_bitwise_25 4 rfl ?_
    refine j_iload d_Wo_bitwise_26 5 rfl ?_
    refine zj_iadd (x3 + x4) rfl d_Wo_bitwise_28 ?_
    obtain ⟨c4, h⟩ := h
    refine zj_iald (z σ 58 (x3 + x4).toNat) d_Wo_bitwise_29 (tg_58 hE) (q_okE hE (by decide)) c4 (by decide) (q_z _ _ _) ?_
    refine j_istore (L' := [(6, .int (zI (z σ 58 (x3 + x4).toNat))), (5, .int (zI (z σ 58 (x2 + x4).toNat))), (0, .ref 49), (1, .int (zI x1)), (2, .int (zI x2)), (3, .int (zI x3)), (4, .int (zI x4))]) d_Wo_bitwise_30 (by decide) rfl ?_
    refine j_aload_n d_Wo_bitwise_32 2 rfl ?_
    refine j_getR 58 f_Wo_18 d_Wo_bitwise_33 (tg_49 hE) (q_okE hE (by decide)) (rf_49_1 hE) (by decide) ?_
    refine j_iload_n d_Wo_bitwise_36 4 rfl ?_
    refine j_iload d_Wo_bitwise_37 6 rfl ?_
    refine zj_iadd (x2 + x4) rfl d_Wo_bitwise_39 ?_
    refine j_iload_n d_Wo_bitwise_40 3 rfl ?_
    refine j_iconst (v := zI 4) d_Wo_bitwise_41 (by decide) ?_
    obtain ⟨r5, h⟩ := h
    obtain ⟨h1, h2⟩ := h
    refine zj_icmp_ne 59 d_Wo_bitwise_42 (by decide) r5 ⟨by decide, by decide⟩ (fun k6 => ?_) (fun k6 => ?_)
    · have h := h1 k6
      refine j_iload_n d_Wo_bitwise_59 3 rfl ?_
      refine j_iconst (v := zI 5) d_Wo_bitwise_60 (by decide) ?_
      obtain ⟨h1, h2⟩ := h
      refine zj_icmp_ne 78 d_Wo_bitwise_61 (by decide) r5 ⟨by decide, by decide⟩ (fun k7 => ?_) (fun k7 => ?_)
      · have h := h1 k7
        refine j_aload_n d_Wo_bitwise_78 2 rfl ?_
        refine j_getR 50 f_Wo_12 d_Wo_bitwise_79 (tg_49 hE) (q_okE hE (by decide)) (rf_49_0 hE) (by decide) ?_
        refine j_iload d_Wo_bitwise_82 1 rfl ?_
        refine j_iload d_Wo_bitwise_84 0 rfl ?_
        refine j_callV m_Ci_or [.int (zI (z σ 58 (x2 + x4).toNat)), .int (zI (z σ 58 (x3 + x4).toNat))] [.int (zI (x2 + x4)), .ref 58] d 0 0 cV_Wo_59 d_Wo_bitwise_86 rfl rfl (tg_50 hE) (q_okE hE (by decide)) (Nat.le_of_ble_eq_true rfl) (Nat.le_refl _) (Nat.le_of_ble_eq_true rfl) (Nat.zero_le _) (Nat.zero_le _) h (fun v τ h => ?_) (fun x τ h => ?_)
        · obtain ⟨v, hv, e1, h⟩ := h; cases e1; exact j_sel [2, 3, 4, 5, 6] rfl h
        · obtain ⟨v, hv, e1, h⟩ := h; cases e1
      · have h := h2 k7
        refine j_aload_n d_Wo_bitwise_64 2 rfl ?_
        refine j_getR 50 f_Wo_12 d_Wo_bitwise_65 (tg_49 hE) (q_okE hE (by decide)) (rf_49_0 hE) (by decide) ?_
        refine j_iload d_Wo_bitwise_68 1 rfl ?_
        refine j_iload d_Wo_bitwise_70 0 rfl ?_
        refine j_callV m_Ci_and [.int (zI (z σ 58 (x2 + x4).toNat)), .int (zI (z σ 58 (x3 + x4).toNat))] [.int (zI (x2 + x4)), .ref 58] d 0 0 cV_Wo_42 d_Wo_bitwise_72 rfl rfl (tg_50 hE) (q_okE hE (by decide)) (Nat.le_of_ble_eq_true rfl) (Nat.le_refl _) (Nat.le_of_ble_eq_true rfl) (Nat.zero_le _) (Nat.zero_le _) h (fun v τ h => ?_) (fun x τ h => ?_)
        · obtain ⟨v, hv, e1, h⟩ := h; cases e1; exact j_sel [2, 3, 4, 5, 6] rfl h
        · obtain ⟨v, hv, e1, h⟩ := h; cases e1
    · have h := h2 k6
      refine j_aload_n d_Wo_bitwise_45 2 rfl ?_
      refine j_getR 50 f_Wo_12 d_Wo_bitwise_46 (tg_49 hE) (q_okE hE (by decide)) (rf_49_0 hE) (by decide) ?_
      refine j_iload d_Wo_bitwise_49 1 rfl ?_
      refine j_iload d_Wo_bitwise_51 0 rfl ?_
      refine j_callV m_Ci_xor [.int (zI (z σ 58 (x2 + x4).toNat)), .int (zI (z σ 58 (x3 + x4).toNat))] [.int (zI (x2 + x4)), .ref 58] d 0 0 cV_Wo_52 d_Wo_bitwise_53 rfl rfl (tg_50 hE) (q_okE hE (by decide)) (Nat.le_of_ble_eq_true rfl) (Nat.le_refl _) (Nat.le_of_ble_eq_true rfl) (Nat.zero_le _) (Nat.zero_le _) h (fun v τ h => ?_) (fun x τ h => ?_)
      · obtain ⟨v, hv, e1, h⟩ := h; cases e1; exact j_sel [2, 3, 4, 5, 6] rfl h
      · obtain ⟨v, hv, e1, h⟩ := h; cases e1
set_option maxHeartbeats 2000000 in
theorem b_Wo_bitwise_89 {ω : q_W} {σ : q_H} {Q : q_R → q_H → Prop} {d mc ms : Nat} {x1 : Int} {x2 : Int} {x3 : Int} {x4 : Int} {y0 : Int} {y1 : Int}  (hE : q_E σ) (h : (0 ≤ y1 ∧ y1 < 3200) ∧ (J ω m_Wo_bitwise (d + 1) mc ms 0 0 3 [(0, .ref 49), (1, .int (zI x1)), (2, .int (zI x2)), (3, .int (zI x3)), (4, .int (zI (x4 + 1)))] [] (zs σ 58 y1.toNat y0) Q)) : J ω m_Wo_bitwise (d + 1) mc ms 0 0 89 [(0, .ref 49), (1, .int (zI x1)), (2, .int (zI x2)), (3, .int (zI x3)), (4, .int (zI x4))] [.int (zI y0), .int (zI y1), .ref 58] σ Q := by
  obtain ⟨c8, h⟩ := h
  refine zj_iast d_Wo_bitwise_89 (tg_58 hE) (q_okE hE (by decide)) c8 (by decide) ?_
  refine zj_iinc (L' := [(4, .int (zI (x4 + 1))), (0, .ref 49), (1, .int (zI x1)), (2, .int (zI x2)), (3, .int (zI x3))]) (x4 + 1) d_Wo_bitwise_90 4 rfl (by omega) (by decide) rfl ?_
  refine j_goto 3 d_Wo_bitwise_93 (by decide) ?_
  exact j_sel [1, 2, 3, 4, 0] rfl h
set_option maxHeartbeats 2000000 in
theorem b_Wo_bitwise_75 {ω : q_W} {σ : q_H} {Q : q_R → q_H → Prop} {d mc ms : Nat} {x1 : Int} {x2 : Int} {x3 : Int} {x4 : Int} {y0 : Int} {y1 : Int}  (hE : q_E σ) (h : (0 ≤ y1 ∧ y1 < 3200) ∧ (J ω m_Wo_bitwise (d + 1) mc ms 0 0 3 [(0, .ref 49), (1, .int (zI x1)), (2, .int (zI x2)), (3, .int (zI x3)), (4, .int (zI (x4 + 1)))] [] (zs σ 58 y1.toNat y0) Q)) : J ω m_Wo_bitwise (d + 1) mc ms 0 0 75 [(0, .ref 49), (1, .int (zI x1)), (2, .int (zI x2)), (3, .int (zI x3)), (4, .int (zI x4))] [.int (zI y0), .int (zI y1), .ref 58] σ Q := by
  refine j_goto 89 d_Wo_bitwise_75 (by decide) ?_
  obtain ⟨c9, h⟩ := h
  refine zj_iast d_Wo_bitwise_89 (tg_58 hE) (q_okE hE (by decide)) c9 (by decide) ?_
  refine zj_iinc (L' := [(4, .int (zI (x4 + 1))), (0, .ref 49), (1, .int (zI x1)), (2, .int (zI x2)), (3, .int (zI x3))]) (x4 + 1) d_Wo_bitwise_90 4 rfl (by omega) (by decide) rfl ?_
  refine j_goto 3 d_Wo_bitwise_93 (by decide) ?_
  exact j_sel [1, 2, 3, 4, 0] rfl h
set_option maxHeartbeats 2000000 in
theorem b_Wo_bitwise_56 {ω : q_W} {σ : q_H} {Q : q_R → q_H → Prop} {d mc ms : Nat} {x1 : Int} {x2 : Int} {x3 : Int} {x4 : Int} {y0 : Int} {y1 : Int}  (hE : q_E σ) (h : (0 ≤ y1 ∧ y1 < 3200) ∧ (J ω m_Wo_bitwise (d + 1) mc ms 0 0 3 [(0, .ref 49), (1, .int (zI x1)), (2, .int (zI x2)), (3, .int (zI x3)), (4, .int (zI (x4 + 1)))] [] (zs σ 58 y1.toNat y0) Q)) : J ω m_Wo_bitwise (d + 1) mc ms 0 0 56 [(0, .ref 49), (1, .int (zI x1)), (2, .int (zI x2)), (3, .int (zI x3)), (4, .int (zI x4))] [.int (zI y0), .int (zI y1), .ref 58] σ Q := by
  refine j_goto 89 d_Wo_bitwise_56 (by decide) ?_
  obtain ⟨c10, h⟩ := h
  refine zj_iast d_Wo_bitwise_89 (tg_58 hE) (q_okE hE (by decide)) c10 (by decide) ?_
  refine zj_iinc (L' := [(4, .int (zI (x4 + 1))), (0, .ref 49), (1, .int (zI x1)), (2, .int (zI x2)), (3, .int (zI x3))]) (x4 + 1) d_Wo_bitwise_90 4 rfl (by omega) (by decide) rfl ?_
  refine j_goto 3 d_Wo_bitwise_93 (by decide) ?_
  exact j_sel [1, 2, 3, 4, 0] rfl h
