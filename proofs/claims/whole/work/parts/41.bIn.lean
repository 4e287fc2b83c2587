/-! stretches of bytecode as conditions: In -/
theorem d_In_open_0 : decode m_In_open.2.1 0 = .ok (.aload_n 0, 1) := by decide +kernel
theorem d_In_open_1 : decode m_In_open.2.1 1 = .ok (.getfield 12, 3) := by decide +kernel
theorem d_In_open_4 : decode m_In_open.2.1 4 = .ok (.invokevirtual 67, 3) := by decide +kernel
theorem d_In_open_7 : decode m_In_open.2.1 7 = .ok (.aload_n 0, 1) := by decide +kernel
theorem d_In_open_8 : decode m_In_open.2.1 8 = .ok (.iconst 0, 1) := by decide +kernel
theorem d_In_open_9 : decode m_In_open.2.1 9 = .ok (.putfield 70, 3) := by decide +kernel
theorem d_In_open_12 : decode m_In_open.2.1 12 = .ok (.aload_n 0, 1) := by decide +kernel
theorem d_In_open_13 : decode m_In_open.2.1 13 = .ok (.iconst 0, 1) := by decide +kernel
theorem d_In_open_14 : decode m_In_open.2.1 14 = .ok (.putfield 73, 3) := by decide +kernel
theorem d_In_open_17 : decode m_In_open.2.1 17 = .ok (.return_, 1) := by decide +kernel
theorem d_In_demand_0 : decode m_In_demand.2.1 0 = .ok (.aload_n 0, 1) := by decide +kernel
theorem d_In_demand_1 : decode m_In_demand.2.1 1 = .ok (.iload_n 1, 1) := by decide +kernel
theorem d_In_demand_2 : decode m_In_demand.2.1 2 = .ok (.invokevirtual 76, 3) := by decide +kernel
theorem d_In_demand_5 : decode m_In_demand.2.1 5 = .ok (.aload_n 0, 1) := by decide +kernel
theorem d_In_demand_6 : decode m_In_demand.2.1 6 = .ok (.aload_n 0, 1) := by decide +kernel
theorem d_In_demand_7 : decode m_In_demand.2.1 7 = .ok (.getfield 70, 3) := by decide +kernel
theorem d_In_demand_10 : decode m_In_demand.2.1 10 = .ok (.putfield 73, 3) := by decide +kernel
theorem d_In_demand_13 : decode m_In_demand.2.1 13 = .ok (.return_, 1) := by decide +kernel
theorem d_In_concern_0 : decode m_In_concern.2.1 0 = .ok (.aload_n 0, 1) := by decide +kernel
theorem d_In_concern_1 : decode m_In_concern.2.1 1 = .ok (.getfield 70, 3) := by decide +kernel
theorem d_In_concern_4 : decode m_In_concern.2.1 4 = .ok (.bipush 16, 2) := by decide +kernel
theorem d_In_concern_6 : decode m_In_concern.2.1 6 = .ok (.if_icmp .ge 23, 3) := by decide +kernel
theorem d_In_concern_9 : decode m_In_concern.2.1 9 = .ok (.aload_n 0, 1) := by decide +kernel
theorem d_In_concern_10 : decode m_In_concern.2.1 10 = .ok (.getfield 36, 3) := by decide +kernel
theorem d_In_concern_13 : decode m_In_concern.2.1 13 = .ok (.aload_n 0, 1) := by decide +kernel
theorem d_In_concern_14 : decode m_In_concern.2.1 14 = .ok (.getfield 70, 3) := by decide +kernel
theorem d_In_concern_17 : decode m_In_concern.2.1 17 = .ok (.iload_n 1, 1) := by decide +kernel
theorem d_In_concern_18 : decode m_In_concern.2.1 18 = .ok (.iastore, 1) := by decide +kernel
theorem d_In_concern_19 : decode m_In_concern.2.1 19 = .ok (.aload_n 0, 1) := by decide +kernel
theorem d_In_concern_20 : decode m_In_concern.2.1 20 = .ok (.dup, 1) := by decide +kernel
theorem d_In_concern_21 : decode m_In_concern.2.1 21 = .ok (.getfield 70, 3) := by decide +kernel
theorem d_In_concern_24 : decode m_In_concern.2.1 24 = .ok (.iconst 1, 1) := by decide +kernel
theorem d_In_concern_25 : decode m_In_concern.2.1 25 = .ok (.iadd, 1) := by decide +kernel
theorem d_In_concern_26 : decode m_In_concern.2.1 26 = .ok (.putfield 70, 3) := by decide +kernel
theorem d_In_concern_29 : decode m_In_concern.2.1 29 = .ok (.return_, 1) := by decide +kernel
theorem d_In_pose_0 : decode m_In_pose.2.1 0 = .ok (.aload_n 0, 1) := by decide +kernel
theorem d_In_pose_1 : decode m_In_pose.2.1 1 = .ok (.getfield 21, 3) := by decide +kernel
theorem d_In_pose_4 : decode m_In_pose.2.1 4 = .ok (.aload_n 0, 1) := by decide +kernel
theorem d_In_pose_5 : decode m_In_pose.2.1 5 = .ok (.getfield 12, 3) := by decide +kernel
theorem d_In_pose_8 : decode m_In_pose.2.1 8 = .ok (.invokevirtual 58, 3) := by decide +kernel
theorem d_In_pose_11 : decode m_In_pose.2.1 11 = .ok (.aload_n 0, 1) := by decide +kernel
theorem d_In_pose_12 : decode m_In_pose.2.1 12 = .ok (.getfield 36, 3) := by decide +kernel
theorem d_In_pose_15 : decode m_In_pose.2.1 15 = .ok (.aload_n 0, 1) := by decide +kernel
theorem d_In_pose_16 : decode m_In_pose.2.1 16 = .ok (.getfield 70, 3) := by decide +kernel
theorem d_In_pose_19 : decode m_In_pose.2.1 19 = .ok (.invokevirtual 90, 3) := by decide +kernel
theorem d_In_pose_22 : decode m_In_pose.2.1 22 = .ok (.iconst 0, 1) := by decide +kernel
theorem d_In_pose_23 : decode m_In_pose.2.1 23 = .ok (.istore_n 1, 1) := by decide +kernel
theorem d_In_pose_24 : decode m_In_pose.2.1 24 = .ok (.iload_n 1, 1) := by decide +kernel
theorem d_In_pose_25 : decode m_In_pose.2.1 25 = .ok (.aload_n 0, 1) := by decide +kernel
theorem d_In_pose_26 : decode m_In_pose.2.1 26 = .ok (.getfield 42, 3) := by decide +kernel
theorem d_In_pose_29 : decode m_In_pose.2.1 29 = .ok (.getfield 94, 3) := by decide +kernel
theorem d_In_pose_32 : decode m_In_pose.2.1 32 = .ok (.if_icmp .ge 54, 3) := by decide +kernel
theorem d_In_pose_35 : decode m_In_pose.2.1 35 = .ok (.aload_n 0, 1) := by decide +kernel
theorem d_In_pose_36 : decode m_In_pose.2.1 36 = .ok (.getfield 42, 3) := by decide +kernel
theorem d_In_pose_39 : decode m_In_pose.2.1 39 = .ok (.getfield 99, 3) := by decide +kernel
theorem d_In_pose_42 : decode m_In_pose.2.1 42 = .ok (.iload_n 1, 1) := by decide +kernel
theorem d_In_pose_43 : decode m_In_pose.2.1 43 = .ok (.iaload, 1) := by decide +kernel
theorem d_In_pose_44 : decode m_In_pose.2.1 44 = .ok (.iconst 1, 1) := by decide +kernel
theorem d_In_pose_45 : decode m_In_pose.2.1 45 = .ok (.isub, 1) := by decide +kernel
theorem d_In_pose_46 : decode m_In_pose.2.1 46 = .ok (.istore_n 2, 1) := by decide +kernel
theorem d_In_pose_47 : decode m_In_pose.2.1 47 = .ok (.iload_n 2, 1) := by decide +kernel
theorem d_In_pose_48 : decode m_In_pose.2.1 48 = .ok (.ifCond .lt 32, 3) := by decide +kernel
theorem d_In_pose_51 : decode m_In_pose.2.1 51 = .ok (.aload_n 0, 1) := by decide +kernel
theorem d_In_pose_52 : decode m_In_pose.2.1 52 = .ok (.getfield 21, 3) := by decide +kernel
theorem d_In_pose_55 : decode m_In_pose.2.1 55 = .ok (.aload_n 0, 1) := by decide +kernel
theorem d_In_pose_56 : decode m_In_pose.2.1 56 = .ok (.getfield 12, 3) := by decide +kernel
theorem d_In_pose_59 : decode m_In_pose.2.1 59 = .ok (.getfield 102, 3) := by decide +kernel
theorem d_In_pose_62 : decode m_In_pose.2.1 62 = .ok (.iload_n 1, 1) := by decide +kernel
theorem d_In_pose_63 : decode m_In_pose.2.1 63 = .ok (.bipush 8, 2) := by decide +kernel
theorem d_In_pose_65 : decode m_In_pose.2.1 65 = .ok (.imul, 1) := by decide +kernel
theorem d_In_pose_66 : decode m_In_pose.2.1 66 = .ok (.iload_n 2, 1) := by decide +kernel
theorem d_In_pose_67 : decode m_In_pose.2.1 67 = .ok (.iadd, 1) := by decide +kernel
theorem d_In_pose_68 : decode m_In_pose.2.1 68 = .ok (.iaload, 1) := by decide +kernel
theorem d_In_pose_69 : decode m_In_pose.2.1 69 = .ok (.iconst 1, 1) := by decide +kernel
theorem d_In_pose_70 : decode m_In_pose.2.1 70 = .ok (.ixor, 1) := by decide +kernel
theorem d_In_pose_71 : decode m_In_pose.2.1 71 = .ok (.invokevirtual 104, 3) := by decide +kernel
theorem d_In_pose_74 : decode m_In_pose.2.1 74 = .ok (.iinc 2 (-1), 3) := by decide +kernel
theorem d_In_pose_77 : decode m_In_pose.2.1 77 = .ok (.goto (-30), 3) := by decide +kernel
theorem d_In_pose_80 : decode m_In_pose.2.1 80 = .ok (.iinc 1 1, 3) := by decide +kernel
theorem d_In_pose_83 : decode m_In_pose.2.1 83 = .ok (.goto (-59), 3) := by decide +kernel
theorem d_In_pose_86 : decode m_In_pose.2.1 86 = .ok (.iconst 0, 1) := by decide +kernel
theorem d_In_pose_87 : decode m_In_pose.2.1 87 = .ok (.istore_n 1, 1) := by decide +kernel
theorem d_In_pose_88 : decode m_In_pose.2.1 88 = .ok (.iload_n 1, 1) := by decide +kernel
theorem d_In_pose_89 : decode m_In_pose.2.1 89 = .ok (.aload_n 0, 1) := by decide +kernel
theorem d_In_pose_90 : decode m_In_pose.2.1 90 = .ok (.getfield 73, 3) := by decide +kernel
theorem d_In_pose_93 : decode m_In_pose.2.1 93 = .ok (.if_icmp .ge 33, 3) := by decide +kernel
theorem d_In_pose_96 : decode m_In_pose.2.1 96 = .ok (.aload_n 0, 1) := by decide +kernel
theorem d_In_pose_97 : decode m_In_pose.2.1 97 = .ok (.getfield 39, 3) := by decide +kernel
theorem d_In_pose_100 : decode m_In_pose.2.1 100 = .ok (.iconst 0, 1) := by decide +kernel
theorem d_In_pose_101 : decode m_In_pose.2.1 101 = .ok (.aload_n 0, 1) := by decide +kernel
theorem d_In_pose_102 : decode m_In_pose.2.1 102 = .ok (.getfield 36, 3) := by decide +kernel
theorem d_In_pose_105 : decode m_In_pose.2.1 105 = .ok (.iload_n 1, 1) := by decide +kernel
theorem d_In_pose_106 : decode m_In_pose.2.1 106 = .ok (.iaload, 1) := by decide +kernel
theorem d_In_pose_107 : decode m_In_pose.2.1 107 = .ok (.iastore, 1) := by decide +kernel
theorem d_In_pose_108 : decode m_In_pose.2.1 108 = .ok (.aload_n 0, 1) := by decide +kernel
theorem d_In_pose_109 : decode m_In_pose.2.1 109 = .ok (.getfield 21, 3) := by decide +kernel
theorem d_In_pose_112 : decode m_In_pose.2.1 112 = .ok (.aload_n 0, 1) := by decide +kernel
theorem d_In_pose_113 : decode m_In_pose.2.1 113 = .ok (.getfield 39, 3) := by decide +kernel
theorem d_In_pose_116 : decode m_In_pose.2.1 116 = .ok (.iconst 1, 1) := by decide +kernel
theorem d_In_pose_117 : decode m_In_pose.2.1 117 = .ok (.invokevirtual 107, 3) := by decide +kernel
theorem d_In_pose_120 : decode m_In_pose.2.1 120 = .ok (.iinc 1 1, 3) := by decide +kernel
theorem d_In_pose_123 : decode m_In_pose.2.1 123 = .ok (.goto (-35), 3) := by decide +kernel
theorem d_In_pose_126 : decode m_In_pose.2.1 126 = .ok (.return_, 1) := by decide +kernel
theorem d_In_look_0 : decode m_In_look.2.1 0 = .ok (.aload_n 0, 1) := by decide +kernel
theorem d_In_look_1 : decode m_In_look.2.1 1 = .ok (.aload_n 0, 1) := by decide +kernel
theorem d_In_look_2 : decode m_In_look.2.1 2 = .ok (.getfield 21, 3) := by decide +kernel
theorem d_In_look_5 : decode m_In_look.2.1 5 = .ok (.invokevirtual 111, 3) := by decide +kernel
theorem d_In_look_8 : decode m_In_look.2.1 8 = .ok (.putfield 46, 3) := by decide +kernel
theorem d_In_look_11 : decode m_In_look.2.1 11 = .ok (.aload_n 0, 1) := by decide +kernel
theorem d_In_look_12 : decode m_In_look.2.1 12 = .ok (.getfield 46, 3) := by decide +kernel
theorem d_In_look_15 : decode m_In_look.2.1 15 = .ok (.ifCond .ne 4, 3) := by decide +kernel
theorem d_In_look_18 : decode m_In_look.2.1 18 = .ok (.return_, 1) := by decide +kernel
theorem d_In_look_19 : decode m_In_look.2.1 19 = .ok (.iconst 0, 1) := by decide +kernel
theorem d_In_look_20 : decode m_In_look.2.1 20 = .ok (.istore_n 1, 1) := by decide +kernel
theorem d_In_look_21 : decode m_In_look.2.1 21 = .ok (.iload_n 1, 1) := by decide +kernel
theorem d_In_look_22 : decode m_In_look.2.1 22 = .ok (.aload_n 0, 1) := by decide +kernel
theorem d_In_look_23 : decode m_In_look.2.1 23 = .ok (.getfield 42, 3) := by decide +kernel
theorem d_In_look_26 : decode m_In_look.2.1 26 = .ok (.getfield 94, 3) := by decide +kernel
theorem d_In_look_29 : decode m_In_look.2.1 29 = .ok (.if_icmp .ge 28, 3) := by decide +kernel
theorem d_In_look_32 : decode m_In_look.2.1 32 = .ok (.aload_n 0, 1) := by decide +kernel
theorem d_In_look_33 : decode m_In_look.2.1 33 = .ok (.getfield 32, 3) := by decide +kernel
theorem d_In_look_36 : decode m_In_look.2.1 36 = .ok (.iload_n 1, 1) := by decide +kernel
theorem d_In_look_37 : decode m_In_look.2.1 37 = .ok (.aload_n 0, 1) := by decide +kernel
theorem d_In_look_38 : decode m_In_look.2.1 38 = .ok (.aload_n 0, 1) := by decide +kernel
theorem d_In_look_39 : decode m_In_look.2.1 39 = .ok (.getfield 12, 3) := by decide +kernel
theorem d_In_look_42 : decode m_In_look.2.1 42 = .ok (.getfield 102, 3) := by decide +kernel
theorem d_In_look_45 : decode m_In_look.2.1 45 = .ok (.iload_n 1, 1) := by decide +kernel
theorem d_In_look_46 : decode m_In_look.2.1 46 = .ok (.iconst 0, 1) := by decide +kernel
theorem d_In_look_47 : decode m_In_look.2.1 47 = .ok (.invokevirtual 115, 3) := by decide +kernel
theorem d_In_look_50 : decode m_In_look.2.1 50 = .ok (.iastore, 1) := by decide +kernel
theorem d_In_look_51 : decode m_In_look.2.1 51 = .ok (.iinc 1 1, 3) := by decide +kernel
theorem d_In_look_54 : decode m_In_look.2.1 54 = .ok (.goto (-33), 3) := by decide +kernel
theorem d_In_look_57 : decode m_In_look.2.1 57 = .ok (.aload_n 0, 1) := by decide +kernel
theorem d_In_look_58 : decode m_In_look.2.1 58 = .ok (.getfield 28, 3) := by decide +kernel
theorem d_In_look_61 : decode m_In_look.2.1 61 = .ok (.aload_n 0, 1) := by decide +kernel
theorem d_In_look_62 : decode m_In_look.2.1 62 = .ok (.getfield 42, 3) := by decide +kernel
theorem d_In_look_65 : decode m_In_look.2.1 65 = .ok (.aload_n 0, 1) := by decide +kernel
theorem d_In_look_66 : decode m_In_look.2.1 66 = .ok (.getfield 32, 3) := by decide +kernel
theorem d_In_look_69 : decode m_In_look.2.1 69 = .ok (.invokevirtual 119, 3) := by decide +kernel
theorem d_In_look_72 : decode m_In_look.2.1 72 = .ok (.return_, 1) := by decide +kernel
theorem d_In_worth_0 : decode m_In_worth.2.1 0 = .ok (.iconst 0, 1) := by decide +kernel
theorem d_In_worth_1 : decode m_In_worth.2.1 1 = .ok (.istore 4, 2) := by decide +kernel
theorem d_In_worth_3 : decode m_In_worth.2.1 3 = .ok (.iconst 0, 1) := by decide +kernel
theorem d_In_worth_4 : decode m_In_worth.2.1 4 = .ok (.istore 5, 2) := by decide +kernel
theorem d_In_worth_6 : decode m_In_worth.2.1 6 = .ok (.iload 5, 2) := by decide +kernel
theorem d_In_worth_8 : decode m_In_worth.2.1 8 = .ok (.bipush 8, 2) := by decide +kernel
theorem d_In_worth_10 : decode m_In_worth.2.1 10 = .ok (.if_icmp .ge 39, 3) := by decide +kernel
theorem d_In_worth_13 : decode m_In_worth.2.1 13 = .ok (.aload_n 0, 1) := by decide +kernel
theorem d_In_worth_14 : decode m_In_worth.2.1 14 = .ok (.getfield 21, 3) := by decide +kernel
theorem d_In_worth_17 : decode m_In_worth.2.1 17 = .ok (.aload_n 1, 1) := by decide +kernel
theorem d_In_worth_18 : decode m_In_worth.2.1 18 = .ok (.iload_n 2, 1) := by decide +kernel
theorem d_In_worth_19 : decode m_In_worth.2.1 19 = .ok (.bipush 8, 2) := by decide +kernel
theorem d_In_worth_21 : decode m_In_worth.2.1 21 = .ok (.imul, 1) := by decide +kernel
theorem d_In_worth_22 : decode m_In_worth.2.1 22 = .ok (.iload 5, 2) := by decide +kernel
theorem d_In_worth_24 : decode m_In_worth.2.1 24 = .ok (.iadd, 1) := by decide +kernel
theorem d_In_worth_25 : decode m_In_worth.2.1 25 = .ok (.iaload, 1) := by decide +kernel
theorem d_In_worth_26 : decode m_In_worth.2.1 26 = .ok (.iload_n 3, 1) := by decide +kernel
theorem d_In_worth_27 : decode m_In_worth.2.1 27 = .ok (.ixor, 1) := by decide +kernel
theorem d_In_worth_28 : decode m_In_worth.2.1 28 = .ok (.invokevirtual 123, 3) := by decide +kernel
theorem d_In_worth_31 : decode m_In_worth.2.1 31 = .ok (.ifCond .eq 12, 3) := by decide +kernel
theorem d_In_worth_34 : decode m_In_worth.2.1 34 = .ok (.iload 4, 2) := by decide +kernel
theorem d_In_worth_36 : decode m_In_worth.2.1 36 = .ok (.iconst 1, 1) := by decide +kernel
theorem d_In_worth_37 : decode m_In_worth.2.1 37 = .ok (.iload 5, 2) := by decide +kernel
theorem d_In_worth_39 : decode m_In_worth.2.1 39 = .ok (.ishl, 1) := by decide +kernel
theorem d_In_worth_40 : decode m_In_worth.2.1 40 = .ok (.ior, 1) := by decide +kernel
theorem d_In_worth_41 : decode m_In_worth.2.1 41 = .ok (.istore 4, 2) := by decide +kernel
theorem d_In_worth_43 : decode m_In_worth.2.1 43 = .ok (.iinc 5 1, 3) := by decide +kernel
theorem d_In_worth_46 : decode m_In_worth.2.1 46 = .ok (.goto (-40), 3) := by decide +kernel
theorem d_In_worth_49 : decode m_In_worth.2.1 49 = .ok (.iload 4, 2) := by decide +kernel
theorem d_In_worth_51 : decode m_In_worth.2.1 51 = .ok (.ireturn, 1) := by decide +kernel
theorem d_In_verdict_0 : decode m_In_verdict.2.1 0 = .ok (.aload_n 0, 1) := by decide +kernel
theorem d_In_verdict_1 : decode m_In_verdict.2.1 1 = .ok (.getfield 46, 3) := by decide +kernel
theorem d_In_verdict_4 : decode m_In_verdict.2.1 4 = .ok (.ifCond .eq 17, 3) := by decide +kernel
theorem d_In_verdict_7 : decode m_In_verdict.2.1 7 = .ok (.iload_n 1, 1) := by decide +kernel
theorem d_In_verdict_8 : decode m_In_verdict.2.1 8 = .ok (.ifCond .ne 13, 3) := by decide +kernel
theorem d_In_verdict_11 : decode m_In_verdict.2.1 11 = .ok (.aload_n 0, 1) := by decide +kernel
theorem d_In_verdict_12 : decode m_In_verdict.2.1 12 = .ok (.dup, 1) := by decide +kernel
theorem d_In_verdict_13 : decode m_In_verdict.2.1 13 = .ok (.getfield 50, 3) := by decide +kernel
theorem d_In_verdict_16 : decode m_In_verdict.2.1 16 = .ok (.iconst 1, 1) := by decide +kernel
theorem d_In_verdict_17 : decode m_In_verdict.2.1 17 = .ok (.iadd, 1) := by decide +kernel
theorem d_In_verdict_18 : decode m_In_verdict.2.1 18 = .ok (.putfield 50, 3) := by decide +kernel
theorem d_In_verdict_21 : decode m_In_verdict.2.1 21 = .ok (.aload_n 0, 1) := by decide +kernel
theorem d_In_verdict_22 : decode m_In_verdict.2.1 22 = .ok (.getfield 46, 3) := by decide +kernel
theorem d_In_verdict_25 : decode m_In_verdict.2.1 25 = .ok (.ifCond .eq 7, 3) := by decide +kernel
theorem d_In_verdict_28 : decode m_In_verdict.2.1 28 = .ok (.iconst 1, 1) := by decide +kernel
theorem d_In_verdict_29 : decode m_In_verdict.2.1 29 = .ok (.goto 4, 3) := by decide +kernel
theorem d_In_verdict_32 : decode m_In_verdict.2.1 32 = .ok (.iconst 0, 1) := by decide +kernel
theorem d_In_verdict_33 : decode m_In_verdict.2.1 33 = .ok (.ireturn, 1) := by decide +kernel
theorem d_In_extreme_0 : decode m_In_extreme.2.1 0 = .ok (.aload_n 0, 1) := by decide +kernel
theorem d_In_extreme_1 : decode m_In_extreme.2.1 1 = .ok (.invokevirtual 127, 3) := by decide +kernel
theorem d_In_extreme_4 : decode m_In_extreme.2.1 4 = .ok (.aload_n 0, 1) := by decide +kernel
theorem d_In_extreme_5 : decode m_In_extreme.2.1 5 = .ok (.aload_n 0, 1) := by decide +kernel
theorem d_In_extreme_6 : decode m_In_extreme.2.1 6 = .ok (.getfield 12, 3) := by decide +kernel
theorem d_In_extreme_9 : decode m_In_extreme.2.1 9 = .ok (.getfield 130, 3) := by decide +kernel
theorem d_In_extreme_12 : decode m_In_extreme.2.1 12 = .ok (.invokevirtual 84, 3) := by decide +kernel
theorem d_In_extreme_15 : decode m_In_extreme.2.1 15 = .ok (.iconst 0, 1) := by decide +kernel
theorem d_In_extreme_16 : decode m_In_extreme.2.1 16 = .ok (.istore_n 3, 1) := by decide +kernel
theorem d_In_extreme_17 : decode m_In_extreme.2.1 17 = .ok (.iload_n 3, 1) := by decide +kernel
theorem d_In_extreme_18 : decode m_In_extreme.2.1 18 = .ok (.bipush 8, 2) := by decide +kernel
theorem d_In_extreme_20 : decode m_In_extreme.2.1 20 = .ok (.if_icmp .ge 27, 3) := by decide +kernel
theorem d_In_extreme_23 : decode m_In_extreme.2.1 23 = .ok (.aload_n 0, 1) := by decide +kernel
theorem d_In_extreme_24 : decode m_In_extreme.2.1 24 = .ok (.aload_n 0, 1) := by decide +kernel
theorem d_In_extreme_25 : decode m_In_extreme.2.1 25 = .ok (.getfield 12, 3) := by decide +kernel
theorem d_In_extreme_28 : decode m_In_extreme.2.1 28 = .ok (.getfield 87, 3) := by decide +kernel
theorem d_In_extreme_31 : decode m_In_extreme.2.1 31 = .ok (.iload_n 1, 1) := by decide +kernel
theorem d_In_extreme_32 : decode m_In_extreme.2.1 32 = .ok (.bipush 8, 2) := by decide +kernel
theorem d_In_extreme_34 : decode m_In_extreme.2.1 34 = .ok (.imul, 1) := by decide +kernel
theorem d_In_extreme_35 : decode m_In_extreme.2.1 35 = .ok (.iload_n 3, 1) := by decide +kernel
theorem d_In_extreme_36 : decode m_In_extreme.2.1 36 = .ok (.iadd, 1) := by decide +kernel
theorem d_In_extreme_37 : decode m_In_extreme.2.1 37 = .ok (.iaload, 1) := by decide +kernel
theorem d_In_extreme_38 : decode m_In_extreme.2.1 38 = .ok (.invokevirtual 76, 3) := by decide +kernel
theorem d_In_extreme_41 : decode m_In_extreme.2.1 41 = .ok (.iinc 3 1, 3) := by decide +kernel
theorem d_In_extreme_44 : decode m_In_extreme.2.1 44 = .ok (.goto (-27), 3) := by decide +kernel
theorem d_In_extreme_47 : decode m_In_extreme.2.1 47 = .ok (.aload_n 0, 1) := by decide +kernel
theorem d_In_extreme_48 : decode m_In_extreme.2.1 48 = .ok (.invokevirtual 133, 3) := by decide +kernel
theorem d_In_extreme_51 : decode m_In_extreme.2.1 51 = .ok (.aload_n 0, 1) := by decide +kernel
theorem d_In_extreme_52 : decode m_In_extreme.2.1 52 = .ok (.invokevirtual 136, 3) := by decide +kernel
theorem d_In_extreme_55 : decode m_In_extreme.2.1 55 = .ok (.aload_n 0, 1) := by decide +kernel
theorem d_In_extreme_56 : decode m_In_extreme.2.1 56 = .ok (.getfield 42, 3) := by decide +kernel
theorem d_In_extreme_59 : decode m_In_extreme.2.1 59 = .ok (.getfield 139, 3) := by decide +kernel
theorem d_In_extreme_62 : decode m_In_extreme.2.1 62 = .ok (.iload_n 1, 1) := by decide +kernel
theorem d_In_extreme_63 : decode m_In_extreme.2.1 63 = .ok (.iaload, 1) := by decide +kernel
theorem d_In_extreme_64 : decode m_In_extreme.2.1 64 = .ok (.invokestatic 80, 3) := by decide +kernel
theorem d_In_extreme_67 : decode m_In_extreme.2.1 67 = .ok (.istore_n 3, 1) := by decide +kernel
theorem d_In_extreme_68 : decode m_In_extreme.2.1 68 = .ok (.iconst (-1), 1) := by decide +kernel
theorem d_In_extreme_69 : decode m_In_extreme.2.1 69 = .ok (.istore 4, 2) := by decide +kernel
theorem d_In_extreme_71 : decode m_In_extreme.2.1 71 = .ok (.iconst 0, 1) := by decide +kernel
theorem d_In_extreme_72 : decode m_In_extreme.2.1 72 = .ok (.istore 5, 2) := by decide +kernel
theorem d_In_extreme_74 : decode m_In_extreme.2.1 74 = .ok (.iload 5, 2) := by decide +kernel
theorem d_In_extreme_76 : decode m_In_extreme.2.1 76 = .ok (.iload_n 3, 1) := by decide +kernel
theorem d_In_extreme_77 : decode m_In_extreme.2.1 77 = .ok (.if_icmp .gt 102, 3) := by decide +kernel
theorem d_In_extreme_80 : decode m_In_extreme.2.1 80 = .ok (.aload_n 0, 1) := by decide +kernel
theorem d_In_extreme_81 : decode m_In_extreme.2.1 81 = .ok (.getfield 46, 3) := by decide +kernel
theorem d_In_extreme_84 : decode m_In_extreme.2.1 84 = .ok (.ifCond .eq 95, 3) := by decide +kernel
theorem d_In_extreme_87 : decode m_In_extreme.2.1 87 = .ok (.aload_n 0, 1) := by decide +kernel
theorem d_In_extreme_88 : decode m_In_extreme.2.1 88 = .ok (.aload_n 0, 1) := by decide +kernel
theorem d_In_extreme_89 : decode m_In_extreme.2.1 89 = .ok (.getfield 12, 3) := by decide +kernel
theorem d_In_extreme_92 : decode m_In_extreme.2.1 92 = .ok (.getfield 87, 3) := by decide +kernel
theorem d_In_extreme_95 : decode m_In_extreme.2.1 95 = .ok (.iload_n 1, 1) := by decide +kernel
theorem d_In_extreme_96 : decode m_In_extreme.2.1 96 = .ok (.iload_n 2, 1) := by decide +kernel
theorem d_In_extreme_97 : decode m_In_extreme.2.1 97 = .ok (.invokevirtual 115, 3) := by decide +kernel
theorem d_In_extreme_100 : decode m_In_extreme.2.1 100 = .ok (.iload_n 3, 1) := by decide +kernel
theorem d_In_extreme_101 : decode m_In_extreme.2.1 101 = .ok (.iand, 1) := by decide +kernel
theorem d_In_extreme_102 : decode m_In_extreme.2.1 102 = .ok (.istore 6, 2) := by decide +kernel
theorem d_In_extreme_104 : decode m_In_extreme.2.1 104 = .ok (.iload_n 2, 1) := by decide +kernel
theorem d_In_extreme_105 : decode m_In_extreme.2.1 105 = .ok (.ifCond .ne 8, 3) := by decide +kernel
theorem d_In_extreme_108 : decode m_In_extreme.2.1 108 = .ok (.iload 6, 2) := by decide +kernel
theorem d_In_extreme_110 : decode m_In_extreme.2.1 110 = .ok (.goto 7, 3) := by decide +kernel
theorem d_In_extreme_113 : decode m_In_extreme.2.1 113 = .ok (.iload_n 3, 1) := by decide +kernel
theorem d_In_extreme_114 : decode m_In_extreme.2.1 114 = .ok (.iload 6, 2) := by decide +kernel
theorem d_In_extreme_116 : decode m_In_extreme.2.1 116 = .ok (.isub, 1) := by decide +kernel
theorem d_In_extreme_117 : decode m_In_extreme.2.1 117 = .ok (.istore 4, 2) := by decide +kernel
theorem d_In_extreme_119 : decode m_In_extreme.2.1 119 = .ok (.aload_n 0, 1) := by decide +kernel
theorem d_In_extreme_120 : decode m_In_extreme.2.1 120 = .ok (.aload_n 0, 1) := by decide +kernel
theorem d_In_extreme_121 : decode m_In_extreme.2.1 121 = .ok (.getfield 28, 3) := by decide +kernel
theorem d_In_extreme_124 : decode m_In_extreme.2.1 124 = .ok (.getfield 142, 3) := by decide +kernel
theorem d_In_extreme_127 : decode m_In_extreme.2.1 127 = .ok (.ifCond .ne 21, 3) := by decide +kernel
theorem d_In_extreme_130 : decode m_In_extreme.2.1 130 = .ok (.aload_n 0, 1) := by decide +kernel
theorem d_In_extreme_131 : decode m_In_extreme.2.1 131 = .ok (.getfield 28, 3) := by decide +kernel
theorem d_In_extreme_134 : decode m_In_extreme.2.1 134 = .ok (.getfield 145, 3) := by decide +kernel
theorem d_In_extreme_137 : decode m_In_extreme.2.1 137 = .ok (.iload_n 1, 1) := by decide +kernel
theorem d_In_extreme_138 : decode m_In_extreme.2.1 138 = .ok (.iaload, 1) := by decide +kernel
theorem d_In_extreme_139 : decode m_In_extreme.2.1 139 = .ok (.iload 4, 2) := by decide +kernel
theorem d_In_extreme_141 : decode m_In_extreme.2.1 141 = .ok (.if_icmp .ne 7, 3) := by decide +kernel
theorem d_In_extreme_144 : decode m_In_extreme.2.1 144 = .ok (.iconst 1, 1) := by decide +kernel
theorem d_In_extreme_145 : decode m_In_extreme.2.1 145 = .ok (.goto 4, 3) := by decide +kernel
theorem d_In_extreme_148 : decode m_In_extreme.2.1 148 = .ok (.iconst 0, 1) := by decide +kernel
theorem d_In_extreme_149 : decode m_In_extreme.2.1 149 = .ok (.invokevirtual 148, 3) := by decide +kernel
theorem d_In_extreme_152 : decode m_In_extreme.2.1 152 = .ok (.pop, 1) := by decide +kernel
theorem d_In_extreme_153 : decode m_In_extreme.2.1 153 = .ok (.iload 6, 2) := by decide +kernel
theorem d_In_extreme_155 : decode m_In_extreme.2.1 155 = .ok (.ifCond .ne 6, 3) := by decide +kernel
theorem d_In_extreme_158 : decode m_In_extreme.2.1 158 = .ok (.goto 21, 3) := by decide +kernel
theorem d_In_extreme_161 : decode m_In_extreme.2.1 161 = .ok (.aload_n 0, 1) := by decide +kernel
theorem d_In_extreme_162 : decode m_In_extreme.2.1 162 = .ok (.iload_n 1, 1) := by decide +kernel
theorem d_In_extreme_163 : decode m_In_extreme.2.1 163 = .ok (.iload_n 2, 1) := by decide +kernel
theorem d_In_extreme_164 : decode m_In_extreme.2.1 164 = .ok (.iload 6, 2) := by decide +kernel
theorem d_In_extreme_166 : decode m_In_extreme.2.1 166 = .ok (.invokevirtual 152, 3) := by decide +kernel
theorem d_In_extreme_169 : decode m_In_extreme.2.1 169 = .ok (.aload_n 0, 1) := by decide +kernel
theorem d_In_extreme_170 : decode m_In_extreme.2.1 170 = .ok (.invokevirtual 136, 3) := by decide +kernel
theorem d_In_extreme_173 : decode m_In_extreme.2.1 173 = .ok (.iinc 5 1, 3) := by decide +kernel
theorem d_In_extreme_176 : decode m_In_extreme.2.1 176 = .ok (.goto (-102), 3) := by decide +kernel
theorem d_In_extreme_179 : decode m_In_extreme.2.1 179 = .ok (.aload_n 0, 1) := by decide +kernel
theorem d_In_extreme_180 : decode m_In_extreme.2.1 180 = .ok (.iload 4, 2) := by decide +kernel
theorem d_In_extreme_182 : decode m_In_extreme.2.1 182 = .ok (.ifCond .lt 7, 3) := by decide +kernel
theorem d_In_extreme_185 : decode m_In_extreme.2.1 185 = .ok (.iconst 1, 1) := by decide +kernel
theorem d_In_extreme_186 : decode m_In_extreme.2.1 186 = .ok (.goto 4, 3) := by decide +kernel
theorem d_In_extreme_189 : decode m_In_extreme.2.1 189 = .ok (.iconst 0, 1) := by decide +kernel
theorem d_In_extreme_190 : decode m_In_extreme.2.1 190 = .ok (.putfield 46, 3) := by decide +kernel
theorem d_In_extreme_193 : decode m_In_extreme.2.1 193 = .ok (.iload 4, 2) := by decide +kernel
theorem d_In_extreme_195 : decode m_In_extreme.2.1 195 = .ok (.ireturn, 1) := by decide +kernel
theorem d_In_requireLess_0 : decode m_In_requireLess.2.1 0 = .ok (.iload_n 3, 1) := by decide +kernel
theorem d_In_requireLess_1 : decode m_In_requireLess.2.1 1 = .ok (.iconst 1, 1) := by decide +kernel
theorem d_In_requireLess_2 : decode m_In_requireLess.2.1 2 = .ok (.isub, 1) := by decide +kernel
theorem d_In_requireLess_3 : decode m_In_requireLess.2.1 3 = .ok (.istore 4, 2) := by decide +kernel
theorem d_In_requireLess_5 : decode m_In_requireLess.2.1 5 = .ok (.iconst 0, 1) := by decide +kernel
theorem d_In_requireLess_6 : decode m_In_requireLess.2.1 6 = .ok (.istore 5, 2) := by decide +kernel
theorem d_In_requireLess_8 : decode m_In_requireLess.2.1 8 = .ok (.iload 5, 2) := by decide +kernel
theorem d_In_requireLess_10 : decode m_In_requireLess.2.1 10 = .ok (.aload_n 0, 1) := by decide +kernel
theorem d_In_requireLess_11 : decode m_In_requireLess.2.1 11 = .ok (.getfield 42, 3) := by decide +kernel
theorem d_In_requireLess_14 : decode m_In_requireLess.2.1 14 = .ok (.getfield 139, 3) := by decide +kernel
theorem d_In_requireLess_17 : decode m_In_requireLess.2.1 17 = .ok (.iload_n 1, 1) := by decide +kernel
theorem d_In_requireLess_18 : decode m_In_requireLess.2.1 18 = .ok (.iaload, 1) := by decide +kernel
theorem d_In_requireLess_19 : decode m_In_requireLess.2.1 19 = .ok (.if_icmp .ge 106, 3) := by decide +kernel
theorem d_In_requireLess_22 : decode m_In_requireLess.2.1 22 = .ok (.iload 4, 2) := by decide +kernel
theorem d_In_requireLess_24 : decode m_In_requireLess.2.1 24 = .ok (.iload 5, 2) := by decide +kernel
theorem d_In_requireLess_26 : decode m_In_requireLess.2.1 26 = .ok (.ishr, 1) := by decide +kernel
theorem d_In_requireLess_27 : decode m_In_requireLess.2.1 27 = .ok (.iconst 1, 1) := by decide +kernel
theorem d_In_requireLess_28 : decode m_In_requireLess.2.1 28 = .ok (.iand, 1) := by decide +kernel
theorem d_In_requireLess_29 : decode m_In_requireLess.2.1 29 = .ok (.ifCond .ne 90, 3) := by decide +kernel
theorem d_In_requireLess_32 : decode m_In_requireLess.2.1 32 = .ok (.iconst 0, 1) := by decide +kernel
theorem d_In_requireLess_33 : decode m_In_requireLess.2.1 33 = .ok (.istore 6, 2) := by decide +kernel
theorem d_In_requireLess_35 : decode m_In_requireLess.2.1 35 = .ok (.iload 5, 2) := by decide +kernel
theorem d_In_requireLess_37 : decode m_In_requireLess.2.1 37 = .ok (.istore 7, 2) := by decide +kernel
theorem d_In_requireLess_39 : decode m_In_requireLess.2.1 39 = .ok (.iload 7, 2) := by decide +kernel
theorem d_In_requireLess_41 : decode m_In_requireLess.2.1 41 = .ok (.aload_n 0, 1) := by decide +kernel
theorem d_In_requireLess_42 : decode m_In_requireLess.2.1 42 = .ok (.getfield 42, 3) := by decide +kernel
theorem d_In_requireLess_45 : decode m_In_requireLess.2.1 45 = .ok (.getfield 139, 3) := by decide +kernel
theorem d_In_requireLess_48 : decode m_In_requireLess.2.1 48 = .ok (.iload_n 1, 1) := by decide +kernel
theorem d_In_requireLess_49 : decode m_In_requireLess.2.1 49 = .ok (.iaload, 1) := by decide +kernel
theorem d_In_requireLess_50 : decode m_In_requireLess.2.1 50 = .ok (.if_icmp .ge 56, 3) := by decide +kernel
theorem d_In_requireLess_53 : decode m_In_requireLess.2.1 53 = .ok (.iload 7, 2) := by decide +kernel
theorem d_In_requireLess_55 : decode m_In_requireLess.2.1 55 = .ok (.iload 5, 2) := by decide +kernel
theorem d_In_requireLess_57 : decode m_In_requireLess.2.1 57 = .ok (.if_icmp .eq 14, 3) := by decide +kernel
theorem d_In_requireLess_60 : decode m_In_requireLess.2.1 60 = .ok (.iload 4, 2) := by decide +kernel
theorem d_In_requireLess_62 : decode m_In_requireLess.2.1 62 = .ok (.iload 7, 2) := by decide +kernel
theorem d_In_requireLess_64 : decode m_In_requireLess.2.1 64 = .ok (.ishr, 1) := by decide +kernel
theorem d_In_requireLess_65 : decode m_In_requireLess.2.1 65 = .ok (.iconst 1, 1) := by decide +kernel
theorem d_In_requireLess_66 : decode m_In_requireLess.2.1 66 = .ok (.iand, 1) := by decide +kernel
theorem d_In_requireLess_67 : decode m_In_requireLess.2.1 67 = .ok (.iconst 1, 1) := by decide +kernel
theorem d_In_requireLess_68 : decode m_In_requireLess.2.1 68 = .ok (.if_icmp .ne 32, 3) := by decide +kernel
theorem d_In_requireLess_71 : decode m_In_requireLess.2.1 71 = .ok (.aload_n 0, 1) := by decide +kernel
theorem d_In_requireLess_72 : decode m_In_requireLess.2.1 72 = .ok (.getfield 39, 3) := by decide +kernel
theorem d_In_requireLess_75 : decode m_In_requireLess.2.1 75 = .ok (.iload 6, 2) := by decide +kernel
theorem d_In_requireLess_77 : decode m_In_requireLess.2.1 77 = .ok (.aload_n 0, 1) := by decide +kernel
theorem d_In_requireLess_78 : decode m_In_requireLess.2.1 78 = .ok (.getfield 12, 3) := by decide +kernel
theorem d_In_requireLess_81 : decode m_In_requireLess.2.1 81 = .ok (.getfield 87, 3) := by decide +kernel
theorem d_In_requireLess_84 : decode m_In_requireLess.2.1 84 = .ok (.iload_n 1, 1) := by decide +kernel
theorem d_In_requireLess_85 : decode m_In_requireLess.2.1 85 = .ok (.bipush 8, 2) := by decide +kernel
theorem d_In_requireLess_87 : decode m_In_requireLess.2.1 87 = .ok (.imul, 1) := by decide +kernel
theorem d_In_requireLess_88 : decode m_In_requireLess.2.1 88 = .ok (.iload 7, 2) := by decide +kernel
theorem d_In_requireLess_90 : decode m_In_requireLess.2.1 90 = .ok (.iadd, 1) := by decide +kernel
theorem d_In_requireLess_91 : decode m_In_requireLess.2.1 91 = .ok (.iaload, 1) := by decide +kernel
theorem d_In_requireLess_92 : decode m_In_requireLess.2.1 92 = .ok (.iload_n 2, 1) := by decide +kernel
theorem d_In_requireLess_93 : decode m_In_requireLess.2.1 93 = .ok (.ixor, 1) := by decide +kernel
theorem d_In_requireLess_94 : decode m_In_requireLess.2.1 94 = .ok (.iconst 1, 1) := by decide +kernel
theorem d_In_requireLess_95 : decode m_In_requireLess.2.1 95 = .ok (.ixor, 1) := by decide +kernel
theorem d_In_requireLess_96 : decode m_In_requireLess.2.1 96 = .ok (.iastore, 1) := by decide +kernel
theorem d_In_requireLess_97 : decode m_In_requireLess.2.1 97 = .ok (.iinc 6 1, 3) := by decide +kernel
theorem d_In_requireLess_100 : decode m_In_requireLess.2.1 100 = .ok (.iinc 7 1, 3) := by decide +kernel
theorem d_In_requireLess_103 : decode m_In_requireLess.2.1 103 = .ok (.goto (-64), 3) := by decide +kernel
theorem d_In_requireLess_106 : decode m_In_requireLess.2.1 106 = .ok (.aload_n 0, 1) := by decide +kernel
theorem d_In_requireLess_107 : decode m_In_requireLess.2.1 107 = .ok (.getfield 21, 3) := by decide +kernel
theorem d_In_requireLess_110 : decode m_In_requireLess.2.1 110 = .ok (.aload_n 0, 1) := by decide +kernel
theorem d_In_requireLess_111 : decode m_In_requireLess.2.1 111 = .ok (.getfield 39, 3) := by decide +kernel
theorem d_In_requireLess_114 : decode m_In_requireLess.2.1 114 = .ok (.iload 6, 2) := by decide +kernel
theorem d_In_requireLess_116 : decode m_In_requireLess.2.1 116 = .ok (.invokevirtual 107, 3) := by decide +kernel
theorem d_In_requireLess_119 : decode m_In_requireLess.2.1 119 = .ok (.iinc 5 1, 3) := by decide +kernel
theorem d_In_requireLess_122 : decode m_In_requireLess.2.1 122 = .ok (.goto (-114), 3) := by decide +kernel
theorem d_In_requireLess_125 : decode m_In_requireLess.2.1 125 = .ok (.return_, 1) := by decide +kernel
theorem d_In_demandWorth_0 : decode m_In_demandWorth.2.1 0 = .ok (.iload_n 2, 1) := by decide +kernel
theorem d_In_demandWorth_1 : decode m_In_demandWorth.2.1 1 = .ok (.bipush 8, 2) := by decide +kernel
theorem d_In_demandWorth_3 : decode m_In_demandWorth.2.1 3 = .ok (.invokestatic 80, 3) := by decide +kernel
theorem d_In_demandWorth_6 : decode m_In_demandWorth.2.1 6 = .ok (.iand, 1) := by decide +kernel
theorem d_In_demandWorth_7 : decode m_In_demandWorth.2.1 7 = .ok (.iload_n 2, 1) := by decide +kernel
theorem d_In_demandWorth_8 : decode m_In_demandWorth.2.1 8 = .ok (.if_icmp .eq 8, 3) := by decide +kernel
theorem d_In_demandWorth_11 : decode m_In_demandWorth.2.1 11 = .ok (.aload_n 0, 1) := by decide +kernel
theorem d_In_demandWorth_12 : decode m_In_demandWorth.2.1 12 = .ok (.iconst 1, 1) := by decide +kernel
theorem d_In_demandWorth_13 : decode m_In_demandWorth.2.1 13 = .ok (.invokevirtual 84, 3) := by decide +kernel
theorem d_In_demandWorth_16 : decode m_In_demandWorth.2.1 16 = .ok (.iconst 0, 1) := by decide +kernel
theorem d_In_demandWorth_17 : decode m_In_demandWorth.2.1 17 = .ok (.istore_n 3, 1) := by decide +kernel
theorem d_In_demandWorth_18 : decode m_In_demandWorth.2.1 18 = .ok (.iload_n 3, 1) := by decide +kernel
theorem d_In_demandWorth_19 : decode m_In_demandWorth.2.1 19 = .ok (.bipush 8, 2) := by decide +kernel
theorem d_In_demandWorth_21 : decode m_In_demandWorth.2.1 21 = .ok (.if_icmp .ge 35, 3) := by decide +kernel
theorem d_In_demandWorth_24 : decode m_In_demandWorth.2.1 24 = .ok (.aload_n 0, 1) := by decide +kernel
theorem d_In_demandWorth_25 : decode m_In_demandWorth.2.1 25 = .ok (.aload_n 0, 1) := by decide +kernel
theorem d_In_demandWorth_26 : decode m_In_demandWorth.2.1 26 = .ok (.getfield 12, 3) := by decide +kernel
theorem d_In_demandWorth_29 : decode m_In_demandWorth.2.1 29 = .ok (.getfield 87, 3) := by decide +kernel
theorem d_In_demandWorth_32 : decode m_In_demandWorth.2.1 32 = .ok (.iload_n 1, 1) := by decide +kernel
theorem d_In_demandWorth_33 : decode m_In_demandWorth.2.1 33 = .ok (.bipush 8, 2) := by decide +kernel
theorem d_In_demandWorth_35 : decode m_In_demandWorth.2.1 35 = .ok (.imul, 1) := by decide +kernel
theorem d_In_demandWorth_36 : decode m_In_demandWorth.2.1 36 = .ok (.iload_n 3, 1) := by decide +kernel
theorem d_In_demandWorth_37 : decode m_In_demandWorth.2.1 37 = .ok (.iadd, 1) := by decide +kernel
theorem d_In_demandWorth_38 : decode m_In_demandWorth.2.1 38 = .ok (.iaload, 1) := by decide +kernel
theorem d_In_demandWorth_39 : decode m_In_demandWorth.2.1 39 = .ok (.iload_n 2, 1) := by decide +kernel
theorem d_In_demandWorth_40 : decode m_In_demandWorth.2.1 40 = .ok (.iload_n 3, 1) := by decide +kernel
theorem d_In_demandWorth_41 : decode m_In_demandWorth.2.1 41 = .ok (.ishr, 1) := by decide +kernel
theorem d_In_demandWorth_42 : decode m_In_demandWorth.2.1 42 = .ok (.iconst 1, 1) := by decide +kernel
theorem d_In_demandWorth_43 : decode m_In_demandWorth.2.1 43 = .ok (.iand, 1) := by decide +kernel
theorem d_In_demandWorth_44 : decode m_In_demandWorth.2.1 44 = .ok (.ixor, 1) := by decide +kernel
theorem d_In_demandWorth_45 : decode m_In_demandWorth.2.1 45 = .ok (.iconst 1, 1) := by decide +kernel
theorem d_In_demandWorth_46 : decode m_In_demandWorth.2.1 46 = .ok (.ixor, 1) := by decide +kernel
theorem d_In_demandWorth_47 : decode m_In_demandWorth.2.1 47 = .ok (.invokevirtual 84, 3) := by decide +kernel
theorem d_In_demandWorth_50 : decode m_In_demandWorth.2.1 50 = .ok (.iinc 3 1, 3) := by decide +kernel
theorem d_In_demandWorth_53 : decode m_In_demandWorth.2.1 53 = .ok (.goto (-35), 3) := by decide +kernel
theorem d_In_demandWorth_56 : decode m_In_demandWorth.2.1 56 = .ok (.return_, 1) := by decide +kernel
theorem d_In_tally_0 : decode m_In_tally.2.1 0 = .ok (.aload_n 0, 1) := by decide +kernel
theorem d_In_tally_1 : decode m_In_tally.2.1 1 = .ok (.invokevirtual 127, 3) := by decide +kernel
theorem d_In_tally_4 : decode m_In_tally.2.1 4 = .ok (.aload_n 0, 1) := by decide +kernel
theorem d_In_tally_5 : decode m_In_tally.2.1 5 = .ok (.aload_n 0, 1) := by decide +kernel
theorem d_In_tally_6 : decode m_In_tally.2.1 6 = .ok (.getfield 12, 3) := by decide +kernel
theorem d_In_tally_9 : decode m_In_tally.2.1 9 = .ok (.getfield 130, 3) := by decide +kernel
theorem d_In_tally_12 : decode m_In_tally.2.1 12 = .ok (.invokevirtual 84, 3) := by decide +kernel
theorem d_In_tally_15 : decode m_In_tally.2.1 15 = .ok (.aload_n 0, 1) := by decide +kernel
theorem d_In_tally_16 : decode m_In_tally.2.1 16 = .ok (.invokevirtual 133, 3) := by decide +kernel
theorem d_In_tally_19 : decode m_In_tally.2.1 19 = .ok (.aload_n 0, 1) := by decide +kernel
theorem d_In_tally_20 : decode m_In_tally.2.1 20 = .ok (.invokevirtual 136, 3) := by decide +kernel
theorem d_In_tally_23 : decode m_In_tally.2.1 23 = .ok (.aload_n 0, 1) := by decide +kernel
theorem d_In_tally_24 : decode m_In_tally.2.1 24 = .ok (.aload_n 0, 1) := by decide +kernel
theorem d_In_tally_25 : decode m_In_tally.2.1 25 = .ok (.getfield 28, 3) := by decide +kernel
theorem d_In_tally_28 : decode m_In_tally.2.1 28 = .ok (.getfield 142, 3) := by decide +kernel
theorem d_In_tally_31 : decode m_In_tally.2.1 31 = .ok (.ifCond .ne 7, 3) := by decide +kernel
theorem d_In_tally_34 : decode m_In_tally.2.1 34 = .ok (.iconst 1, 1) := by decide +kernel
theorem d_In_tally_35 : decode m_In_tally.2.1 35 = .ok (.goto 4, 3) := by decide +kernel
theorem d_In_tally_38 : decode m_In_tally.2.1 38 = .ok (.iconst 0, 1) := by decide +kernel
theorem d_In_tally_39 : decode m_In_tally.2.1 39 = .ok (.invokevirtual 148, 3) := by decide +kernel
theorem d_In_tally_42 : decode m_In_tally.2.1 42 = .ok (.istore_n 1, 1) := by decide +kernel
theorem d_In_tally_43 : decode m_In_tally.2.1 43 = .ok (.iconst 1, 1) := by decide +kernel
theorem d_In_tally_44 : decode m_In_tally.2.1 44 = .ok (.istore_n 2, 1) := by decide +kernel
theorem d_In_tally_45 : decode m_In_tally.2.1 45 = .ok (.iload_n 2, 1) := by decide +kernel
theorem d_In_tally_46 : decode m_In_tally.2.1 46 = .ok (.bipush 20, 2) := by decide +kernel
theorem d_In_tally_48 : decode m_In_tally.2.1 48 = .ok (.if_icmp .ge 46, 3) := by decide +kernel
theorem d_In_tally_51 : decode m_In_tally.2.1 51 = .ok (.aload_n 0, 1) := by decide +kernel
theorem d_In_tally_52 : decode m_In_tally.2.1 52 = .ok (.getfield 46, 3) := by decide +kernel
theorem d_In_tally_55 : decode m_In_tally.2.1 55 = .ok (.ifCond .eq 39, 3) := by decide +kernel
theorem d_In_tally_58 : decode m_In_tally.2.1 58 = .ok (.aload_n 0, 1) := by decide +kernel
theorem d_In_tally_59 : decode m_In_tally.2.1 59 = .ok (.invokevirtual 156, 3) := by decide +kernel
theorem d_In_tally_62 : decode m_In_tally.2.1 62 = .ok (.aload_n 0, 1) := by decide +kernel
theorem d_In_tally_63 : decode m_In_tally.2.1 63 = .ok (.invokevirtual 136, 3) := by decide +kernel
theorem d_In_tally_66 : decode m_In_tally.2.1 66 = .ok (.iload_n 1, 1) := by decide +kernel
theorem d_In_tally_67 : decode m_In_tally.2.1 67 = .ok (.aload_n 0, 1) := by decide +kernel
theorem d_In_tally_68 : decode m_In_tally.2.1 68 = .ok (.aload_n 0, 1) := by decide +kernel
theorem d_In_tally_69 : decode m_In_tally.2.1 69 = .ok (.getfield 28, 3) := by decide +kernel
theorem d_In_tally_72 : decode m_In_tally.2.1 72 = .ok (.getfield 142, 3) := by decide +kernel
theorem d_In_tally_75 : decode m_In_tally.2.1 75 = .ok (.ifCond .ne 7, 3) := by decide +kernel
theorem d_In_tally_78 : decode m_In_tally.2.1 78 = .ok (.iconst 1, 1) := by decide +kernel
theorem d_In_tally_79 : decode m_In_tally.2.1 79 = .ok (.goto 4, 3) := by decide +kernel
theorem d_In_tally_82 : decode m_In_tally.2.1 82 = .ok (.iconst 0, 1) := by decide +kernel
theorem d_In_tally_83 : decode m_In_tally.2.1 83 = .ok (.invokevirtual 148, 3) := by decide +kernel
theorem d_In_tally_86 : decode m_In_tally.2.1 86 = .ok (.iadd, 1) := by decide +kernel
theorem d_In_tally_87 : decode m_In_tally.2.1 87 = .ok (.istore_n 1, 1) := by decide +kernel
theorem d_In_tally_88 : decode m_In_tally.2.1 88 = .ok (.iinc 2 1, 3) := by decide +kernel
theorem d_In_tally_91 : decode m_In_tally.2.1 91 = .ok (.goto (-46), 3) := by decide +kernel
theorem d_In_tally_94 : decode m_In_tally.2.1 94 = .ok (.aload_n 0, 1) := by decide +kernel
theorem d_In_tally_95 : decode m_In_tally.2.1 95 = .ok (.iconst 0, 1) := by decide +kernel
theorem d_In_tally_96 : decode m_In_tally.2.1 96 = .ok (.putfield 46, 3) := by decide +kernel
theorem d_In_tally_99 : decode m_In_tally.2.1 99 = .ok (.iload_n 1, 1) := by decide +kernel
theorem d_In_tally_100 : decode m_In_tally.2.1 100 = .ok (.ireturn, 1) := by decide +kernel
theorem d_In_requireOther_0 : decode m_In_requireOther.2.1 0 = .ok (.iconst 0, 1) := by decide +kernel
theorem d_In_requireOther_1 : decode m_In_requireOther.2.1 1 = .ok (.istore_n 1, 1) := by decide +kernel
theorem d_In_requireOther_2 : decode m_In_requireOther.2.1 2 = .ok (.iconst 0, 1) := by decide +kernel
theorem d_In_requireOther_3 : decode m_In_requireOther.2.1 3 = .ok (.istore_n 2, 1) := by decide +kernel
theorem d_In_requireOther_4 : decode m_In_requireOther.2.1 4 = .ok (.iload_n 2, 1) := by decide +kernel
theorem d_In_requireOther_5 : decode m_In_requireOther.2.1 5 = .ok (.aload_n 0, 1) := by decide +kernel
theorem d_In_requireOther_6 : decode m_In_requireOther.2.1 6 = .ok (.getfield 42, 3) := by decide +kernel
theorem d_In_requireOther_9 : decode m_In_requireOther.2.1 9 = .ok (.getfield 94, 3) := by decide +kernel
theorem d_In_requireOther_12 : decode m_In_requireOther.2.1 12 = .ok (.if_icmp .ge 76, 3) := by decide +kernel
theorem d_In_requireOther_15 : decode m_In_requireOther.2.1 15 = .ok (.iconst 0, 1) := by decide +kernel
theorem d_In_requireOther_16 : decode m_In_requireOther.2.1 16 = .ok (.istore_n 3, 1) := by decide +kernel
theorem d_In_requireOther_17 : decode m_In_requireOther.2.1 17 = .ok (.iload_n 3, 1) := by decide +kernel
theorem d_In_requireOther_18 : decode m_In_requireOther.2.1 18 = .ok (.aload_n 0, 1) := by decide +kernel
theorem d_In_requireOther_19 : decode m_In_requireOther.2.1 19 = .ok (.getfield 42, 3) := by decide +kernel
theorem d_In_requireOther_22 : decode m_In_requireOther.2.1 22 = .ok (.getfield 99, 3) := by decide +kernel
theorem d_In_requireOther_25 : decode m_In_requireOther.2.1 25 = .ok (.iload_n 2, 1) := by decide +kernel
theorem d_In_requireOther_26 : decode m_In_requireOther.2.1 26 = .ok (.iaload, 1) := by decide +kernel
theorem d_In_requireOther_27 : decode m_In_requireOther.2.1 27 = .ok (.if_icmp .ge 55, 3) := by decide +kernel
theorem d_In_requireOther_30 : decode m_In_requireOther.2.1 30 = .ok (.aload_n 0, 1) := by decide +kernel
theorem d_In_requireOther_31 : decode m_In_requireOther.2.1 31 = .ok (.getfield 12, 3) := by decide +kernel
theorem d_In_requireOther_34 : decode m_In_requireOther.2.1 34 = .ok (.getfield 102, 3) := by decide +kernel
theorem d_In_requireOther_37 : decode m_In_requireOther.2.1 37 = .ok (.iload_n 2, 1) := by decide +kernel
theorem d_In_requireOther_38 : decode m_In_requireOther.2.1 38 = .ok (.bipush 8, 2) := by decide +kernel
theorem d_In_requireOther_40 : decode m_In_requireOther.2.1 40 = .ok (.imul, 1) := by decide +kernel
theorem d_In_requireOther_41 : decode m_In_requireOther.2.1 41 = .ok (.iload_n 3, 1) := by decide +kernel
theorem d_In_requireOther_42 : decode m_In_requireOther.2.1 42 = .ok (.iadd, 1) := by decide +kernel
theorem d_In_requireOther_43 : decode m_In_requireOther.2.1 43 = .ok (.iaload, 1) := by decide +kernel
theorem d_In_requireOther_44 : decode m_In_requireOther.2.1 44 = .ok (.istore 4, 2) := by decide +kernel
theorem d_In_requireOther_46 : decode m_In_requireOther.2.1 46 = .ok (.aload_n 0, 1) := by decide +kernel
theorem d_In_requireOther_47 : decode m_In_requireOther.2.1 47 = .ok (.getfield 39, 3) := by decide +kernel
theorem d_In_requireOther_50 : decode m_In_requireOther.2.1 50 = .ok (.iload_n 1, 1) := by decide +kernel
theorem d_In_requireOther_51 : decode m_In_requireOther.2.1 51 = .ok (.aload_n 0, 1) := by decide +kernel
theorem d_In_requireOther_52 : decode m_In_requireOther.2.1 52 = .ok (.getfield 21, 3) := by decide +kernel
theorem d_In_requireOther_55 : decode m_In_requireOther.2.1 55 = .ok (.iload 4, 2) := by decide +kernel
theorem d_In_requireOther_57 : decode m_In_requireOther.2.1 57 = .ok (.invokevirtual 123, 3) := by decide +kernel
theorem d_In_requireOther_60 : decode m_In_requireOther.2.1 60 = .ok (.ifCond .eq 10, 3) := by decide +kernel
theorem d_In_requireOther_63 : decode m_In_requireOther.2.1 63 = .ok (.iload 4, 2) := by decide +kernel
theorem d_In_requireOther_65 : decode m_In_requireOther.2.1 65 = .ok (.iconst 1, 1) := by decide +kernel
theorem d_In_requireOther_66 : decode m_In_requireOther.2.1 66 = .ok (.ixor, 1) := by decide +kernel
theorem d_In_requireOther_67 : decode m_In_requireOther.2.1 67 = .ok (.goto 5, 3) := by decide +kernel
theorem d_In_requireOther_70 : decode m_In_requireOther.2.1 70 = .ok (.iload 4, 2) := by decide +kernel
theorem d_In_requireOther_72 : decode m_In_requireOther.2.1 72 = .ok (.iastore, 1) := by decide +kernel
theorem d_In_requireOther_73 : decode m_In_requireOther.2.1 73 = .ok (.iinc 1 1, 3) := by decide +kernel
theorem d_In_requireOther_76 : decode m_In_requireOther.2.1 76 = .ok (.iinc 3 1, 3) := by decide +kernel
theorem d_In_requireOther_79 : decode m_In_requireOther.2.1 79 = .ok (.goto (-62), 3) := by decide +kernel
theorem d_In_requireOther_82 : decode m_In_requireOther.2.1 82 = .ok (.iinc 2 1, 3) := by decide +kernel
theorem d_In_requireOther_85 : decode m_In_requireOther.2.1 85 = .ok (.goto (-81), 3) := by decide +kernel
theorem d_In_requireOther_88 : decode m_In_requireOther.2.1 88 = .ok (.aload_n 0, 1) := by decide +kernel
theorem d_In_requireOther_89 : decode m_In_requireOther.2.1 89 = .ok (.getfield 21, 3) := by decide +kernel
theorem d_In_requireOther_92 : decode m_In_requireOther.2.1 92 = .ok (.aload_n 0, 1) := by decide +kernel
theorem d_In_requireOther_93 : decode m_In_requireOther.2.1 93 = .ok (.getfield 39, 3) := by decide +kernel
theorem d_In_requireOther_96 : decode m_In_requireOther.2.1 96 = .ok (.iload_n 1, 1) := by decide +kernel
theorem d_In_requireOther_97 : decode m_In_requireOther.2.1 97 = .ok (.invokevirtual 107, 3) := by decide +kernel
theorem d_In_requireOther_100 : decode m_In_requireOther.2.1 100 = .ok (.return_, 1) := by decide +kernel
theorem cd_En_dropQuestion : q_cd m_En_dropQuestion := ⟨by decide +kernel, List.mem_of_getElem? (i := 11) (by decide +kernel), Or.inl ⟨rfl, List.mem_of_getElem? (i := 1182) (by decide +kernel)⟩⟩
theorem cV_In_67 : q_CV "ProofHall$Inquiry" 67 7 m_En_dropQuestion 0 := ⟨⟨cd_En_dropQuestion, by decide, by decide, by decide, by decide +kernel⟩, Or.inl (List.mem_of_getElem? (i := 1179) (by decide +kernel)), List.mem_of_getElem? (i := 1180) (by decide +kernel), _, _, _, rfl, List.mem_append_right _ (List.mem_of_getElem? (i := 1181) (by decide +kernel))⟩
theorem g_In_70 (nm : String) : q_G "ProofHall$Inquiry" 70 8 7 "I" nm := ⟨_, _, _, rfl, by decide, rfl, List.mem_of_getElem? (i := 592) (by decide +kernel), Or.inl rfl⟩
theorem g_In_73 (nm : String) : q_G "ProofHall$Inquiry" 73 8 8 "I" nm := ⟨_, _, _, rfl, by decide, rfl, List.mem_of_getElem? (i := 593) (by decide +kernel), Or.inl rfl⟩
theorem cd_In_concern : q_cd m_In_concern := ⟨by decide +kernel, List.mem_of_getElem? (i := 10) (by decide +kernel), Or.inl ⟨rfl, List.mem_of_getElem? (i := 1194) (by decide +kernel)⟩⟩
theorem cV_In_76 : q_CV "ProofHall$Inquiry" 76 8 m_In_concern 1 := ⟨⟨cd_In_concern, by decide, by decide, by decide, by decide +kernel⟩, Or.inl (List.mem_of_getElem? (i := 1191) (by decide +kernel)), List.mem_of_getElem? (i := 1193) (by decide +kernel), _, _, _, rfl, by decide +kernel⟩
theorem f_In_70 : q_F "ProofHall$Inquiry" 70 8 7 "I" := ⟨_, _, _, rfl, by decide, rfl, Or.inl (List.mem_of_getElem? (i := 592) (by decide +kernel))⟩
theorem f_In_36 : q_FR "ProofHall$Inquiry" 36 8 6 := ⟨"[I", by decide, ⟨_, _, _, rfl, by decide, rfl, Or.inl (List.mem_of_getElem? (i := 591) (by decide +kernel))⟩⟩
theorem cd_So_begin : q_cd m_So_begin := ⟨by decide +kernel, List.mem_of_getElem? (i := 14) (by decide +kernel), Or.inl ⟨rfl, List.mem_of_getElem? (i := 1202) (by decide +kernel)⟩⟩
theorem cV_In_90 : q_CV "ProofHall$Inquiry" 90 11 m_So_begin 3 := ⟨⟨cd_So_begin, by decide, by decide, by decide, by decide +kernel⟩, Or.inl (List.mem_of_getElem? (i := 1199) (by decide +kernel)), List.mem_of_getElem? (i := 1200) (by decide +kernel), _, _, _, rfl, List.mem_append_right _ (List.mem_of_getElem? (i := 1201) (by decide +kernel))⟩
theorem f_In_42 : q_FR "ProofHall$Inquiry" 42 8 2 := ⟨"LProofHall$Program;", by decide, ⟨_, _, _, rfl, by decide, rfl, Or.inl (List.mem_of_getElem? (i := 584) (by decide +kernel))⟩⟩
theorem f_In_94 : q_F "ProofHall$Inquiry" 94 2 0 "I" := ⟨_, _, _, rfl, by decide, rfl, Or.inl (List.mem_of_getElem? (i := 197) (by decide +kernel))⟩
theorem f_In_99 : q_FR "ProofHall$Inquiry" 99 2 2 := ⟨"[I", by decide, ⟨_, _, _, rfl, by decide, rfl, Or.inl (List.mem_of_getElem? (i := 202) (by decide +kernel))⟩⟩
theorem f_In_73 : q_F "ProofHall$Inquiry" 73 8 8 "I" := ⟨_, _, _, rfl, by decide, rfl, Or.inl (List.mem_of_getElem? (i := 593) (by decide +kernel))⟩
theorem f_In_39 : q_FR "ProofHall$Inquiry" 39 8 9 := ⟨"[I", by decide, ⟨_, _, _, rfl, by decide, rfl, Or.inl (List.mem_of_getElem? (i := 594) (by decide +kernel))⟩⟩
theorem cd_So_require : q_cd m_So_require := ⟨by decide +kernel, List.mem_of_getElem? (i := 14) (by decide +kernel), Or.inl ⟨rfl, List.mem_of_getElem? (i := 1243) (by decide +kernel)⟩⟩
theorem cV_In_107 : q_CV "ProofHall$Inquiry" 107 11 m_So_require 2 := ⟨⟨cd_So_require, by decide, by decide, by decide, by decide +kernel⟩, Or.inl (List.mem_of_getElem? (i := 1240) (by decide +kernel)), List.mem_of_getElem? (i := 1241) (by decide +kernel), _, _, _, rfl, List.mem_append_right _ (List.mem_of_getElem? (i := 1242) (by decide +kernel))⟩
theorem f_In_102 : q_FR "ProofHall$Inquiry" 102 7 2 := ⟨"[I", by decide, ⟨_, _, _, rfl, by decide, rfl, Or.inl (List.mem_of_getElem? (i := 417) (by decide +kernel))⟩⟩
theorem cd_So_wish : q_cd m_So_wish := ⟨by decide +kernel, List.mem_of_getElem? (i := 14) (by decide +kernel), Or.inl ⟨rfl, List.mem_of_getElem? (i := 1239) (by decide +kernel)⟩⟩
theorem cV_In_104 : q_CV "ProofHall$Inquiry" 104 11 m_So_wish 1 := ⟨⟨cd_So_wish, by decide, by decide, by decide, by decide +kernel⟩, Or.inl (List.mem_of_getElem? (i := 1236) (by decide +kernel)), List.mem_of_getElem? (i := 1237) (by decide +kernel), _, _, _, rfl, List.mem_append_right _ (List.mem_of_getElem? (i := 1238) (by decide +kernel))⟩
theorem cd_So_search : q_cd m_So_search := ⟨by decide +kernel, List.mem_of_getElem? (i := 14) (by decide +kernel), Or.inl ⟨rfl, List.mem_of_getElem? (i := 1267) (by decide +kernel)⟩⟩
theorem cV_In_111 : q_CV "ProofHall$Inquiry" 111 11 m_So_search 0 := ⟨⟨cd_So_search, by decide, by decide, by decide, by decide +kernel⟩, Or.inl (List.mem_of_getElem? (i := 1264) (by decide +kernel)), List.mem_of_getElem? (i := 1265) (by decide +kernel), _, _, _, rfl, List.mem_append_right _ (List.mem_of_getElem? (i := 1266) (by decide +kernel))⟩
theorem f_In_46 : q_F "ProofHall$Inquiry" 46 8 5 "Z" := ⟨_, _, _, rfl, by decide, rfl, Or.inl (List.mem_of_getElem? (i := 589) (by decide +kernel))⟩
theorem f_In_28 : q_FR "ProofHall$Inquiry" 28 8 3 := ⟨"LProofHall$Machine;", by decide, ⟨_, _, _, rfl, by decide, rfl, Or.inl (List.mem_of_getElem? (i := 585) (by decide +kernel))⟩⟩
theorem f_In_32 : q_FR "ProofHall$Inquiry" 32 8 4 := ⟨"[I", by decide, ⟨_, _, _, rfl, by decide, rfl, Or.inl (List.mem_of_getElem? (i := 587) (by decide +kernel))⟩⟩
theorem cd_Ma_execute : q_cd m_Ma_execute := ⟨by decide +kernel, List.mem_of_getElem? (i := 9) (by decide +kernel), Or.inl ⟨rfl, List.mem_of_getElem? (i := 1341) (by decide +kernel)⟩⟩
theorem cV_In_119 : q_CV "ProofHall$Inquiry" 119 4 m_Ma_execute 2 := ⟨⟨cd_Ma_execute, by decide, by decide, by decide, by decide +kernel⟩, Or.inl (List.mem_of_getElem? (i := 1338) (by decide +kernel)), List.mem_of_getElem? (i := 1339) (by decide +kernel), _, _, _, rfl, List.mem_append_right _ (List.mem_of_getElem? (i := 1340) (by decide +kernel))⟩
theorem cd_In_worth : q_cd m_In_worth := ⟨by decide +kernel, List.mem_of_getElem? (i := 10) (by decide +kernel), Or.inl ⟨rfl, List.mem_of_getElem? (i := 1333) (by decide +kernel)⟩⟩
theorem cV_In_115 : q_CV "ProofHall$Inquiry" 115 8 m_In_worth 3 := ⟨⟨cd_In_worth, by decide, by decide, by decide, by decide +kernel⟩, Or.inl (List.mem_of_getElem? (i := 1330) (by decide +kernel)), List.mem_of_getElem? (i := 1332) (by decide +kernel), _, _, _, rfl, by decide +kernel⟩
theorem cd_So_holds : q_cd m_So_holds := ⟨by decide +kernel, List.mem_of_getElem? (i := 14) (by decide +kernel), Or.inl ⟨rfl, List.mem_of_getElem? (i := 1337) (by decide +kernel)⟩⟩
theorem cV_In_123 : q_CV "ProofHall$Inquiry" 123 11 m_So_holds 1 := ⟨⟨cd_So_holds, by decide, by decide, by decide, by decide +kernel⟩, Or.inl (List.mem_of_getElem? (i := 1334) (by decide +kernel)), List.mem_of_getElem? (i := 1335) (by decide +kernel), _, _, _, rfl, List.mem_append_right _ (List.mem_of_getElem? (i := 1336) (by decide +kernel))⟩
theorem g_In_50 (nm : String) : q_G "ProofHall$Inquiry" 50 8 10 "I" nm := ⟨_, _, _, rfl, by decide, rfl, List.mem_of_getElem? (i := 595) (by decide +kernel), Or.inl rfl⟩
theorem cd_In_open : q_cd m_In_open := ⟨by decide +kernel, List.mem_of_getElem? (i := 10) (by decide +kernel), Or.inl ⟨rfl, List.mem_of_getElem? (i := 1178) (by decide +kernel)⟩⟩
theorem cV_In_127 : q_CV "ProofHall$Inquiry" 127 8 m_In_open 0 := ⟨⟨cd_In_open, by decide, by decide, by decide, by decide +kernel⟩, Or.inl (List.mem_of_getElem? (i := 1417) (by decide +kernel)), List.mem_of_getElem? (i := 1176) (by decide +kernel), _, _, _, rfl, List.mem_append_right _ (List.mem_of_getElem? (i := 1177) (by decide +kernel))⟩
theorem f_In_130 : q_F "ProofHall$Inquiry" 130 7 4 "I" := ⟨_, _, _, rfl, by decide, rfl, Or.inl (List.mem_of_getElem? (i := 422) (by decide +kernel))⟩
theorem cd_In_demand : q_cd m_In_demand := ⟨by decide +kernel, List.mem_of_getElem? (i := 10) (by decide +kernel), Or.inl ⟨rfl, List.mem_of_getElem? (i := 1190) (by decide +kernel)⟩⟩
theorem cV_In_84 : q_CV "ProofHall$Inquiry" 84 8 m_In_demand 1 := ⟨⟨cd_In_demand, by decide, by decide, by decide, by decide +kernel⟩, Or.inl (List.mem_of_getElem? (i := 1418) (by decide +kernel)), List.mem_of_getElem? (i := 1188) (by decide +kernel), _, _, _, rfl, List.mem_append_right _ (List.mem_of_getElem? (i := 1189) (by decide +kernel))⟩
theorem cd_In_pose : q_cd m_In_pose := ⟨by decide +kernel, List.mem_of_getElem? (i := 10) (by decide +kernel), Or.inl ⟨rfl, List.mem_of_getElem? (i := 1198) (by decide +kernel)⟩⟩
theorem cV_In_133 : q_CV "ProofHall$Inquiry" 133 8 m_In_pose 0 := ⟨⟨cd_In_pose, by decide, by decide, by decide, by decide +kernel⟩, Or.inl (List.mem_of_getElem? (i := 1419) (by decide +kernel)), List.mem_of_getElem? (i := 1196) (by decide +kernel), _, _, _, rfl, List.mem_append_right _ (List.mem_of_getElem? (i := 1197) (by decide +kernel))⟩
theorem f_In_87 : q_FR "ProofHall$Inquiry" 87 7 3 := ⟨"[I", by decide, ⟨_, _, _, rfl, by decide, rfl, Or.inl (List.mem_of_getElem? (i := 419) (by decide +kernel))⟩⟩
theorem cd_In_look : q_cd m_In_look := ⟨by decide +kernel, List.mem_of_getElem? (i := 10) (by decide +kernel), Or.inl ⟨rfl, List.mem_of_getElem? (i := 1263) (by decide +kernel)⟩⟩
theorem cV_In_136 : q_CV "ProofHall$Inquiry" 136 8 m_In_look 0 := ⟨⟨cd_In_look, by decide, by decide, by decide, by decide +kernel⟩, Or.inl (List.mem_of_getElem? (i := 1420) (by decide +kernel)), List.mem_of_getElem? (i := 1261) (by decide +kernel), _, _, _, rfl, List.mem_append_right _ (List.mem_of_getElem? (i := 1262) (by decide +kernel))⟩
theorem f_In_139 : q_FR "ProofHall$Inquiry" 139 2 5 := ⟨"[I", by decide, ⟨_, _, _, rfl, by decide, rfl, Or.inl (List.mem_of_getElem? (i := 213) (by decide +kernel))⟩⟩
theorem cS_In_80 : q_CS "ProofHall$Inquiry" 80 m_H_mask 1 := ⟨⟨cd_H_mask, by decide, by decide, by decide, by decide +kernel⟩, Or.inr ⟨"ProofHall", List.mem_of_getElem? (i := 1421) (by decide +kernel)⟩, List.mem_of_getElem? (i := 1359) (by decide +kernel)⟩
theorem f_In_142 : q_F "ProofHall$Inquiry" 142 4 0 "I" := ⟨_, _, _, rfl, by decide, rfl, Or.inl (List.mem_of_getElem? (i := 314) (by decide +kernel))⟩
theorem f_In_145 : q_FR "ProofHall$Inquiry" 145 4 2 := ⟨"[I", by decide, ⟨_, _, _, rfl, by decide, rfl, Or.inl (List.mem_of_getElem? (i := 319) (by decide +kernel))⟩⟩
theorem cd_In_verdict : q_cd m_In_verdict := ⟨by decide +kernel, List.mem_of_getElem? (i := 10) (by decide +kernel), Or.inl ⟨rfl, List.mem_of_getElem? (i := 1378) (by decide +kernel)⟩⟩
theorem cV_In_148 : q_CV "ProofHall$Inquiry" 148 8 m_In_verdict 1 := ⟨⟨cd_In_verdict, by decide, by decide, by decide, by decide +kernel⟩, Or.inl (List.mem_of_getElem? (i := 1422) (by decide +kernel)), List.mem_of_getElem? (i := 1376) (by decide +kernel), _, _, _, rfl, List.mem_append_right _ (List.mem_of_getElem? (i := 1377) (by decide +kernel))⟩
theorem cd_In_requireLess : q_cd m_In_requireLess := ⟨by decide +kernel, List.mem_of_getElem? (i := 10) (by decide +kernel), Or.inl ⟨rfl, List.mem_of_getElem? (i := 1426) (by decide +kernel)⟩⟩
theorem cV_In_152 : q_CV "ProofHall$Inquiry" 152 8 m_In_requireLess 3 := ⟨⟨cd_In_requireLess, by decide, by decide, by decide, by decide +kernel⟩, Or.inl (List.mem_of_getElem? (i := 1423) (by decide +kernel)), List.mem_of_getElem? (i := 1425) (by decide +kernel), _, _, _, rfl, by decide +kernel⟩
theorem cd_In_requireOther : q_cd m_In_requireOther := ⟨by decide +kernel, List.mem_of_getElem? (i := 10) (by decide +kernel), Or.inl ⟨rfl, List.mem_of_getElem? (i := 1471) (by decide +kernel)⟩⟩
theorem cV_In_156 : q_CV "ProofHall$Inquiry" 156 8 m_In_requireOther 0 := ⟨⟨cd_In_requireOther, by decide, by decide, by decide, by decide +kernel⟩, Or.inl (List.mem_of_getElem? (i := 1468) (by decide +kernel)), List.mem_of_getElem? (i := 1470) (by decide +kernel), _, _, _, rfl, by decide +kernel⟩
set_option maxHeartbeats 2000000 in
theorem b_In_mistakes_0 {ω : q_W} {σ : q_H} {Q : q_R → q_H → Prop} {d mc ms : Nat}  {p : Nat} (hp : p = 16 ∨ p = 29) (r472 : q_r σ 47 2 = p) (hE : q_E σ) (h : (J ω m_So_mistakes d 0 0 0 0 0 [(0, .ref 70)] [] σ (q_ki (fun v τ => J ω m_In_mistakes (d + 1) mc ms 0 0 11 [(0, .ref 47)] [.int (zI v), .int (zI (z σ 47 10))] τ Q)))) : J ω m_In_mistakes (d + 1) mc ms 0 0 0 [(0, .ref 47)] [] σ Q := by
  refine j_aload_n d_In_mistakes_0 0 rfl ?_
  refine zj_getI (z σ 47 10) f_In_50 d_In_mistakes_1 (tg_47 hE) (q_okE hE (by decide)) (q_z _ _ _) ?_
  refine j_aload_n d_In_mistakes_4 0 rfl ?_
  refine j_getR 70 f_In_21 d_In_mistakes_5 (tg_47 hE) (q_okE hE (by decide)) (rf_47_1 hE) (by decide) ?_
  refine j_callV m_So_mistakes [] [.int (zI (z σ 47 10))] d 0 0 cV_In_54 d_In_mistakes_8 rfl rfl (tg_70 hE) (q_okE hE (by decide)) (Nat.le_of_ble_eq_true rfl) (Nat.le_refl _) (Nat.le_of_ble_eq_true rfl) (Nat.zero_le _) (Nat.zero_le _) h (fun v τ h => ?_) (fun x τ h => ?_)
  · obtain ⟨v, hv, e1, h⟩ := h; cases e1; exact j_sel [0] rfl h
  · obtain ⟨v, hv, e1, h⟩ := h; cases e1
set_option maxHeartbeats 2000000 in
theorem b_In_mistakes_11 {ω : q_W} {σ : q_H} {Q : q_R → q_H → Prop} {d mc ms : Nat} {y0 : Int} {y1 : Int} {p : Nat} (hp : p = 16 ∨ p = 29) (r472 : q_r σ 47 2 = p) (hE : q_E σ) (h : (J ω m_En_circuit d 0 0 0 0 0 [(0, .ref 48)] [] σ (q_kr (fun v τ => v = 50 ∧ J ω m_In_mistakes (d + 1) mc ms 0 0 19 [] [.ref 50, .int (zI (y1 + y0))] τ Q)))) : J ω m_In_mistakes (d + 1) mc ms 0 0 11 [(0, .ref 47)] [.int (zI y0), .int (zI y1)] σ Q := by
  refine zj_iadd (y1 + y0) rfl d_In_mistakes_11 ?_
  refine j_aload_n d_In_mistakes_12 0 rfl ?_
  refine j_getR 48 f_In_12 d_In_mistakes_13 (tg_47 hE) (q_okE hE (by decide)) (rf_47_0 hE) (by decide) ?_
  refine j_callV m_En_circuit [] [.int (zI (y1 + y0))] d 0 0 cV_In_58 d_In_mistakes_16 rfl rfl (tg_48 hE) (q_okE hE (by decide)) (Nat.le_of_ble_eq_true rfl) (Nat.le_refl _) (Nat.le_of_ble_eq_true rfl) (Nat.zero_le _) (Nat.zero_le _) h (fun v τ h => ?_) (fun x τ h => ?_)
  · obtain ⟨v, e1, e2, h⟩ := h; cases e1; subst e2; exact j_sel [] rfl h
  · obtain ⟨v, e1, e2, h⟩ := h; cases e1
set_option maxHeartbeats 2000000 in
theorem b_In_mistakes_19 {ω : q_W} {σ : q_H} {Q : q_R → q_H → Prop} {d mc ms : Nat} {y1 : Int} {p : Nat} (hp : p = 16 ∨ p = 29) (r472 : q_r σ 47 2 = p) (hE : q_E σ) (h : (Q (.inl (some (.int (zI (y1 + (z σ 50 8)))))) σ)) : J ω m_In_mistakes (d + 1) mc ms 0 0 19 [] [.ref 50, .int (zI y1)] σ Q := by
  refine zj_getI (z σ 50 8) f_In_62 d_In_mistakes_19 (tg_50 hE) (q_okE hE (by decide)) (q_z _ _ _) ?_
  refine zj_iadd (y1 + (z σ 50 8)) rfl d_In_mistakes_22 ?_
  exact zj_iret d_In_mistakes_23 rfl (Nat.zero_le _) (Nat.zero_le _) h
set_option maxHeartbeats 2000000 in
theorem b_In_study_0 {ω : q_W} {σ : q_H} {Q : q_R → q_H → Prop} {d mc ms : Nat}  {p : Nat} (hp : p = 16 ∨ p = 29) (r472 : q_r σ 47 2 = p) (hE : q_E σ) (h : (Q (.inl none) (zs (zr σ 47 2 p) 47 5 0))) : J ω m_In_study d mc ms 0 0 0 [(0, .ref 47), (1, .ref p)] [] σ Q := by
  refine j_aload_n d_In_study_0 0 rfl ?_
  refine j_aload_n d_In_study_1 1 rfl ?_
  refine zj_putR (g_In_42 _) d_In_study_2 (tg_47 hE) (q_okE hE (by decide)) (by omega) ?_
  refine j_aload_n d_In_study_5 0 rfl ?_
  refine j_iconst (v := zI 0) d_In_study_6 (by decide) ?_
  refine zj_putZ (g_In_46 _) d_In_study_7 (tg_47 (zr_E hE (by decide))) (q_okE (zr_E hE (by decide)) (by decide)) (by decide) ?_
  exact j_vret d_In_study_10 rfl (Nat.zero_le _) (Nat.zero_le _) h
set_option maxHeartbeats 2000000 in
theorem b_In_open_0 {ω : q_W} {σ : q_H} {Q : q_R → q_H → Prop} {d mc ms : Nat}  {p : Nat} (hp : p = 16 ∨ p = 29) (r472 : q_r σ 47 2 = p) (hE : q_E σ) (h : (J ω m_En_dropQuestion d 0 0 0 0 0 [(0, .ref 48)] [] σ (q_kv (fun τ => J ω m_In_open (d + 1) mc ms 0 0 7 [(0, .ref 47)] [] τ Q)))) : J ω m_In_open (d + 1) mc ms 0 0 0 [(0, .ref 47)] [] σ Q := by
  refine j_aload_n d_In_open_0 0 rfl ?_
  refine j_getR 48 f_In_12 d_In_open_1 (tg_47 hE) (q_okE hE (by decide)) (rf_47_0 hE) (by decide) ?_
  refine j_callV m_En_dropQuestion [] [] d 0 0 cV_In_67 d_In_open_4 rfl rfl (tg_48 hE) (q_okE hE (by decide)) (Nat.le_of_ble_eq_true rfl) (Nat.le_refl _) (Nat.le_of_ble_eq_true rfl) (Nat.zero_le _) (Nat.zero_le _) h (fun v τ h => ?_) (fun x τ h => ?_)
  · obtain ⟨e1, h⟩ := h; cases e1; exact j_sel [0] rfl h
  · obtain ⟨e1, h⟩ := h; cases e1
set_option maxHeartbeats 2000000 in
theorem b_In_open_7 {ω : q_W} {σ : q_H} {Q : q_R → q_H → Prop} {d mc ms : Nat}  {p : Nat} (hp : p = 16 ∨ p = 29) (r472 : q_r σ 47 2 = p) (hE : q_E σ) (h : (Q (.inl none) (zs (zs σ 47 7 0) 47 8 0))) : J ω m_In_open (d + 1) mc ms 0 0 7 [(0, .ref 47)] [] σ Q := by
  refine j_aload_n d_In_open_7 0 rfl ?_
  refine j_iconst (v := zI 0) d_In_open_8 (by decide) ?_
  refine zj_putI (g_In_70 _) d_In_open_9 (tg_47 hE) (q_okE hE (by decide)) ?_
  refine j_aload_n d_In_open_12 0 rfl ?_
  refine j_iconst (v := zI 0) d_In_open_13 (by decide) ?_
  refine zj_putI (g_In_73 _) d_In_open_14 (tg_47 (zs_E hE)) (q_okE (zs_E hE) (by decide)) ?_
  exact j_vret d_In_open_17 rfl (Nat.zero_le _) (Nat.zero_le _) h
set_option maxHeartbeats 2000000 in
theorem b_In_demand_0 {ω : q_W} {σ : q_H} {Q : q_R → q_H → Prop} {d mc ms : Nat} {x1 : Int} {p : Nat} (hp : p = 16 ∨ p = 29) (r472 : q_r σ 47 2 = p) (hE : q_E σ) (h : (J ω m_In_concern d 0 0 0 0 0 [(0, .ref 47), (1, .int (zI x1))] [] σ (q_kv (fun τ => J ω m_In_demand (d + 1) mc ms 0 0 5 [(0, .ref 47)] [] τ Q)))) : J ω m_In_demand (d + 1) mc ms 0 0 0 [(0, .ref 47), (1, .int (zI x1))] [] σ Q := by
  refine j_aload_n d_In_demand_0 0 rfl ?_
  refine j_iload_n d_In_demand_1 1 rfl ?_
  refine j_callV m_In_concern [.int (zI x1)] [] d 0 0 cV_In_76 d_In_demand_2 rfl rfl (tg_47 hE) (q_okE hE (by decide)) (Nat.le_of_ble_eq_true rfl) (Nat.le_refl _) (Nat.le_of_ble_eq_true rfl) (Nat.zero_le _) (Nat.zero_le _) h (fun v τ h => ?_) (fun x τ h => ?_)
  · obtain ⟨e1, h⟩ := h; cases e1; exact j_sel [0] rfl h
  · obtain ⟨e1, h⟩ := h; cases e1
set_option maxHeartbeats 2000000 in
theorem b_In_demand_5 {ω : q_W} {σ : q_H} {Q : q_R → q_H → Prop} {d mc ms : Nat}  {p : Nat} (hp : p = 16 ∨ p = 29) (r472 : q_r σ 47 2 = p) (hE : q_E σ) (h : (Q (.inl none) (zs σ 47 8 (z σ 47 7)))) : J ω m_In_demand (d + 1) mc ms 0 0 5 [(0, .ref 47)] [] σ Q := by
  refine j_aload_n d_In_demand_5 0 rfl ?_
  refine j_aload_n d_In_demand_6 0 rfl ?_
  refine zj_getI (z σ 47 7) f_In_70 d_In_demand_7 (tg_47 hE) (q_okE hE (by decide)) (q_z _ _ _) ?_
  refine zj_putI (g_In_73 _) d_In_demand_10 (tg_47 hE) (q_okE hE (by decide)) ?_
  exact j_vret d_In_demand_13 rfl (Nat.zero_le _) (Nat.zero_le _) h
set_option maxHeartbeats 2000000 in
theorem b_In_concern_0 {ω : q_W} {σ : q_H} {Q : q_R → q_H → Prop} {d mc ms : Nat} {x1 : Int} {p : Nat} (hp : p = 16 ∨ p = 29) (r472 : q_r σ 47 2 = p) (hE : q_E σ) (h : q_imp ((z σ 47 7) ≥ 16) ((Q (.inl none) σ)) ∧ q_imp ((z σ 47 7) < 16) ((0 ≤ (z σ 47 7) ∧ (z σ 47 7) < 16) ∧ (Q (.inl none) (zs (zs σ 92 (z σ 47 7).toNat x1) 47 7 ((z σ 47 7) + 1))))) : J ω m_In_concern d mc ms 0 0 0 [(0, .ref 47), (1, .int (zI x1))] [] σ Q := by
  refine j_aload_n d_In_concern_0 0 rfl ?_
  refine zj_getI (z σ 47 7) f_In_70 d_In_concern_1 (tg_47 hE) (q_okE hE (by decide)) (q_z _ _ _) ?_
  refine j_bipush (v := zI 16) d_In_concern_4 (by decide) ?_
  obtain ⟨h1, h2⟩ := h
  refine zj_icmp_ge 29 d_In_concern_6 (by decide) (z_R _ _ _) ⟨by decide, by decide⟩ (fun k1 => ?_) (fun k1 => ?_)
  · have h := h1 k1
    exact j_vret d_In_concern_29 rfl (Nat.zero_le _) (Nat.zero_le _) h
  · have h := h2 k1
    refine j_aload_n d_In_concern_9 0 rfl ?_
    refine j_getR 92 f_In_36 d_In_concern_10 (tg_47 hE) (q_okE hE (by decide)) (rf_47_6 hE) (by decide) ?_
    refine j_aload_n d_In_concern_13 0 rfl ?_
    refine zj_getI (z σ 47 7) f_In_70 d_In_concern_14 (tg_47 hE) (q_okE hE (by decide)) (q_z _ _ _) ?_
    refine j_iload_n d_In_concern_17 1 rfl ?_
    obtain ⟨c2, h⟩ := h
    refine zj_iast d_In_concern_18 (tg_92 hE) (q_okE hE (by decide)) c2 (by decide) ?_
    refine j_aload_n d_In_concern_19 0 rfl ?_
    refine j_dup d_In_concern_20 rfl ?_
    refine zj_getI (z σ 47 7) f_In_70 d_In_concern_21 (tg_47 (zs_E hE)) (q_okE (zs_E hE) (by decide)) (Eq.trans (qs_o (by decide)) (q_z _ _ _)) ?_
    refine j_iconst (v := zI 1) d_In_concern_24 (by decide) ?_
    refine zj_iadd ((z σ 47 7) + 1) (by omega) d_In_concern_25 ?_
    refine zj_putI (g_In_70 _) d_In_concern_26 (tg_47 (zs_E hE)) (q_okE (zs_E hE) (by decide)) ?_
    exact j_vret d_In_concern_29 rfl (Nat.zero_le _) (Nat.zero_le _) h
set_option maxHeartbeats 2000000 in
theorem b_In_pose_0 {ω : q_W} {σ : q_H} {Q : q_R → q_H → Prop} {d mc ms : Nat}  {p : Nat} (hp : p = 16 ∨ p = 29) (r472 : q_r σ 47 2 = p) (hE : q_E σ) (h : (J ω m_En_circuit d 0 0 0 0 0 [(0, .ref 48)] [] σ (q_kr (fun v τ => v = 50 ∧ J ω m_In_pose (d + 1) mc ms 0 0 11 [(0, .ref 47)] [.ref 50, .ref 70] τ Q)))) : J ω m_In_pose (d + 1) mc ms 0 0 0 [(0, .ref 47)] [] σ Q := by
  refine j_aload_n d_In_pose_0 0 rfl ?_
  refine j_getR 70 f_In_21 d_In_pose_1 (tg_47 hE) (q_okE hE (by decide)) (rf_47_1 hE) (by decide) ?_
  refine j_aload_n d_In_pose_4 0 rfl ?_
  refine j_getR 48 f_In_12 d_In_pose_5 (tg_47 hE) (q_okE hE (by decide)) (rf_47_0 hE) (by decide) ?_
  refine j_callV m_En_circuit [] [.ref 70] d 0 0 cV_In_58 d_In_pose_8 rfl rfl (tg_48 hE) (q_okE hE (by decide)) (Nat.le_of_ble_eq_true rfl) (Nat.le_refl _) (Nat.le_of_ble_eq_true rfl) (Nat.zero_le _) (Nat.zero_le _) h (fun v τ h => ?_) (fun x τ h => ?_)
  · obtain ⟨v, e1, e2, h⟩ := h; cases e1; subst e2; exact j_sel [0] rfl h
  · obtain ⟨v, e1, e2, h⟩ := h; cases e1
set_option maxHeartbeats 2000000 in
theorem b_In_pose_11 {ω : q_W} {σ : q_H} {Q : q_R → q_H → Prop} {d mc ms : Nat}  {p : Nat} (hp : p = 16 ∨ p = 29) (r472 : q_r σ 47 2 = p) (hE : q_E σ) (h : (J ω m_So_begin d 0 0 0 0 0 [(0, .ref 70), (1, .ref 50), (2, .ref 92), (3, .int (zI (z σ 47 7)))] [] σ (q_kv (fun τ => J ω m_In_pose (d + 1) mc ms 0 0 22 [(0, .ref 47)] [] τ Q)))) : J ω m_In_pose (d + 1) mc ms 0 0 11 [(0, .ref 47)] [.ref 50, .ref 70] σ Q := by
  refine j_aload_n d_In_pose_11 0 rfl ?_
  refine j_getR 92 f_In_36 d_In_pose_12 (tg_47 hE) (q_okE hE (by decide)) (rf_47_6 hE) (by decide) ?_
  refine j_aload_n d_In_pose_15 0 rfl ?_
  refine zj_getI (z σ 47 7) f_In_70 d_In_pose_16 (tg_47 hE) (q_okE hE (by decide)) (q_z _ _ _) ?_
  refine j_callV m_So_begin [.ref 50, .ref 92, .int (zI (z σ 47 7))] [] d 0 0 cV_In_90 d_In_pose_19 rfl rfl (tg_70 hE) (q_okE hE (by decide)) (Nat.le_of_ble_eq_true rfl) (Nat.le_refl _) (Nat.le_of_ble_eq_true rfl) (Nat.zero_le _) (Nat.zero_le _) h (fun v τ h => ?_) (fun x τ h => ?_)
  · obtain ⟨e1, h⟩ := h; cases e1; exact j_sel [0] rfl h
  · obtain ⟨e1, h⟩ := h; cases e1
set_option maxHeartbeats 2000000 in
theorem b_In_pose_22 {ω : q_W} {σ : q_H} {Q : q_R → q_H → Prop} {d mc ms : Nat}  {p : Nat} (hp : p = 16 ∨ p = 29) (r472 : q_r σ 47 2 = p) (hE : q_E σ) (h : (J ω m_In_pose (d + 1) mc ms 0 0 24 [(0, .ref 47), (1, .int (zI 0))] [] σ Q)) : J ω m_In_pose (d + 1) mc ms 0 0 22 [(0, .ref 47)] [] σ Q := by
  refine j_iconst (v := zI 0) d_In_pose_22 (by decide) ?_
  refine j_istore_n (L' := [(1, .int (zI 0)), (0, .ref 47)]) d_In_pose_23 (by decide) rfl ?_
  exact j_sel [1, 0] rfl h
set_option maxHeartbeats 2000000 in
theorem b_In_pose_24 {ω : q_W} {σ : q_H} {Q : q_R → q_H → Prop} {d mc ms : Nat} {x1 : Int} {p : Nat} (hp : p = 16 ∨ p = 29) (r472 : q_r σ 47 2 = p) (hE : q_E σ) (h : inR x1 ∧ q_imp (x1 ≥ (z σ p 0)) ((J ω m_In_pose (d + 1) mc ms 0 0 88 [(0, .ref 47), (1, .int (zI 0))] [] σ Q)) ∧ q_imp (x1 < (z σ p 0)) ((0 ≤ x1 ∧ x1 < 12) ∧ (J ω m_In_pose (d + 1) mc ms 0 0 47 [(0, .ref 47), (1, .int (zI x1)), (2, .int (zI ((z σ (p + 1) x1.toNat) - 1)))] [] σ Q))) : J ω m_In_pose (d + 1) mc ms 0 0 24 [(0, .ref 47), (1, .int (zI x1))] [] σ Q := by
  refine j_iload_n d_In_pose_24 1 rfl ?_
  refine j_aload_n d_In_pose_25 0 rfl ?_
  refine j_getR p f_In_42 d_In_pose_26 (tg_47 hE) (q_okE hE (by decide)) (r472) (by omega) ?_
  refine zj_getI (z σ p 0) f_In_94 d_In_pose_29 (tY_p_0 hE hp) (q_okE hE (by omega)) (q_z _ _ _) ?_
  obtain ⟨r1, h⟩ := h
  obtain ⟨h1, h2⟩ := h
  refine zj_icmp_ge 86 d_In_pose_32 (by decide) r1 (z_R _ _ _) (fun k2 => ?_) (fun k2 => ?_)
  · have h := h1 k2
    refine j_iconst (v := zI 0) d_In_pose_86 (by decide) ?_
    refine j_istore_n (L' := [(1, .int (zI 0)), (0, .ref 47)]) d_In_pose_87 (by decide) rfl ?_
    exact j_sel [1, 0] rfl h
  · have h := h2 k2
    refine j_aload_n d_In_pose_35 0 rfl ?_
    refine j_getR p f_In_42 d_In_pose_36 (tg_47 hE) (q_okE hE (by decide)) (r472) (by omega) ?_
    refine j_getR (p + 1) f_In_99 d_In_pose_39 (tY_p_0 hE hp) (q_okE hE (by omega)) (rY_p_2 hE hp) (by omega) ?_
    refine j_iload_n d_In_pose_42 1 rfl ?_
    obtain ⟨c3, h⟩ := h
    refine zj_iald (z σ (p + 1) x1.toNat) d_In_pose_43 (tY_p_1 hE hp) (q_okE hE (by omega)) c3 (by decide) (q_z _ _ _) ?_
    refine j_iconst (v := zI 1) d_In_pose_44 (by decide) ?_
    refine zj_isub ((z σ (p + 1) x1.toNat) - 1) (by omega) d_In_pose_45 ?_
    refine j_istore_n (L' := [(2, .int (zI ((z σ (p + 1) x1.toNat) - 1))), (0, .ref 47), (1, .int (zI x1))]) d_In_pose_46 (by decide) rfl ?_
    exact j_sel [1, 2, 0] rfl h
set_option maxHeartbeats 2000000 in
theorem b_In_pose_88 {ω : q_W} {σ : q_H} {Q : q_R → q_H → Prop} {d mc ms : Nat} {x1 : Int} {p : Nat} (hp : p = 16 ∨ p = 29) (r472 : q_r σ 47 2 = p) (hE : q_E σ) (h : inR x1 ∧ q_imp (x1 ≥ (z σ 47 8)) ((Q (.inl none) σ)) ∧ q_imp (x1 < (z σ 47 8)) ((0 ≤ x1 ∧ x1 < 16) ∧ (J ω m_So_require d 0 0 0 0 0 [(0, .ref 70), (1, .ref 93), (2, .int (zI 1))] [] (zs σ 93 0 (z σ 92 x1.toNat)) (q_kv (fun τ => J ω m_In_pose (d + 1) mc ms 0 0 120 [(0, .ref 47), (1, .int (zI x1))] [] τ Q))))) : J ω m_In_pose (d + 1) mc ms 0 0 88 [(0, .ref 47), (1, .int (zI x1))] [] σ Q := by
  refine j_iload_n d_In_pose_88 1 rfl ?_
  refine j_aload_n d_In_pose_89 0 rfl ?_
  refine zj_getI (z σ 47 8) f_In_73 d_In_pose_90 (tg_47 hE) (q_okE hE (by decide)) (q_z _ _ _) ?_
  obtain ⟨r4, h⟩ := h
  obtain ⟨h1, h2⟩ := h
  refine zj_icmp_ge 126 d_In_pose_93 (by decide) r4 (z_R _ _ _) (fun k5 => ?_) (fun k5 => ?_)
  · have h := h1 k5
    exact j_vret d_In_pose_126 rfl (Nat.zero_le _) (Nat.zero_le _) h
  · have h := h2 k5
    refine j_aload_n d_In_pose_96 0 rfl ?_
    refine j_getR 93 f_In_39 d_In_pose_97 (tg_47 hE) (q_okE hE (by decide)) (rf_47_9 hE) (by decide) ?_
    refine j_iconst (v := zI 0) d_In_pose_100 (by decide) ?_
    refine j_aload_n d_In_pose_101 0 rfl ?_
    refine j_getR 92 f_In_36 d_In_pose_102 (tg_47 hE) (q_okE hE (by decide)) (rf_47_6 hE) (by decide) ?_
    refine j_iload_n d_In_pose_105 1 rfl ?_
    obtain ⟨c6, h⟩ := h
    refine zj_iald (z σ 92 x1.toNat) d_In_pose_106 (tg_92 hE) (q_okE hE (by decide)) c6 (by decide) (q_z _ _ _) ?_
    refine zj_iast d_In_pose_107 (tg_93 hE) (q_okE hE (by decide)) ⟨by decide, by decide⟩ (by decide) ?_
    refine j_aload_n d_In_pose_108 0 rfl ?_
    refine j_getR 70 f_In_21 d_In_pose_109 (tg_47 (zs_E hE)) (q_okE (zs_E hE) (by decide)) (rf_47_1 (zs_E hE)) (by decide) ?_
    refine j_aload_n d_In_pose_112 0 rfl ?_
    refine j_getR 93 f_In_39 d_In_pose_113 (tg_47 (zs_E hE)) (q_okE (zs_E hE) (by decide)) (rf_47_9 (zs_E hE)) (by decide) ?_
    refine j_iconst (v := zI 1) d_In_pose_116 (by decide) ?_
    refine j_callV m_So_require [.ref 93, .int (zI 1)] [] d 0 0 cV_In_107 d_In_pose_117 rfl rfl (tg_70 (zs_E hE)) (q_okE (zs_E hE) (by decide)) (Nat.le_of_ble_eq_true rfl) (Nat.le_refl _) (Nat.le_of_ble_eq_true rfl) (Nat.zero_le _) (Nat.zero_le _) h (fun v τ h => ?_) (fun x τ h => ?_)
    · obtain ⟨e1, h⟩ := h; cases e1; exact j_sel [0, 1] rfl h
    · obtain ⟨e1, h⟩ := h; cases e1
set_option maxHeartbeats 2000000 in
theorem b_In_pose_47 {ω : q_W} {σ : q_H} {Q : q_R → q_H → Prop} {d mc ms : Nat} {x1 : Int} {x2 : Int} {p : Nat} (hp : p = 16 ∨ p = 29) (r472 : q_r σ 47 2 = p) (hE : q_E σ) (h : inR x2 ∧ q_imp (x2 < 0) ((J ω m_In_pose (d + 1) mc ms 0 0 24 [(0, .ref 47), (1, .int (zI (x1 + 1)))] [] σ Q)) ∧ q_imp (0 ≤ x2) ((0 ≤ ((x1 * 8) + x2) ∧ ((x1 * 8) + x2) < 96) ∧ (J ω m_So_wish d 0 0 0 0 0 [(0, .ref 70), (1, .int (zI (zXor (z σ 61 ((x1 * 8) + x2).toNat) 1)))] [] σ (q_kv (fun τ => J ω m_In_pose (d + 1) mc ms 0 0 74 [(0, .ref 47), (1, .int (zI x1)), (2, .int (zI x2))] [] τ Q))))) : J ω m_In_pose (d + 1) mc ms 0 0 47 [(0, .ref 47), (1, .int (zI x1)), (2, .int (zI x2))] [] σ Q := by
  refine j_iload_n d_In_pose_47 2 rfl ?_
  obtain ⟨r7, h⟩ := h
  obtain ⟨h1, h2⟩ := h
  refine zj_if_lt 80 d_In_pose_48 (by decide) r7 (fun k8 => ?_) (fun k8 => ?_)
  · have h := h1 k8
    refine zj_iinc (L' := [(1, .int (zI (x1 + 1))), (0, .ref 47), (2, .int (zI x2))]) (x1 + 1) d_In_pose_80 1 rfl (by omega) (by decide) rfl ?_
    refine j_goto 24 d_In_pose_83 (by decide) ?_
    exact j_sel [1, 0] rfl h
  · have h := h2 k8
    refine j_aload_n d_In_pose_51 0 rfl ?_
    refine j_getR 70 f_In_21 d_In_pose_52 (tg_47 hE) (q_okE hE (by decide)) (rf_47_1 hE) (by decide) ?_
    refine j_aload_n d_In_pose_55 0 rfl ?_
    refine j_getR 48 f_In_12 d_In_pose_56 (tg_47 hE) (q_okE hE (by decide)) (rf_47_0 hE) (by decide) ?_
    refine j_getR 61 f_In_102 d_In_pose_59 (tg_48 hE) (q_okE hE (by decide)) (rf_48_2 hE) (by decide) ?_
    refine j_iload_n d_In_pose_62 1 rfl ?_
    refine j_bipush (v := zI 8) d_In_pose_63 (by decide) ?_
    refine zj_imul (x1 * 8) rfl d_In_pose_65 ?_
    refine j_iload_n d_In_pose_66 2 rfl ?_
    refine zj_iadd ((x1 * 8) + x2) rfl d_In_pose_67 ?_
    obtain ⟨c9, h⟩ := h
    refine zj_iald (z σ 61 ((x1 * 8) + x2).toNat) d_In_pose_68 (tg_61 hE) (q_okE hE (by decide)) c9 (by decide) (q_z _ _ _) ?_
    refine j_iconst (v := zI 1) d_In_pose_69 (by decide) ?_
    refine zj_ixor d_In_pose_70 ?_
    refine j_callV m_So_wish [.int (zI (zXor (z σ 61 ((x1 * 8) + x2).toNat) 1))] [] d 0 0 cV_In_104 d_In_pose_71 rfl rfl (tg_70 hE) (q_okE hE (by decide)) (Nat.le_of_ble_eq_true rfl) (Nat.le_refl _) (Nat.le_of_ble_eq_true rfl) (Nat.zero_le _) (Nat.zero_le _) h (fun v τ h => ?_) (fun x τ h => ?_)
    · obtain ⟨e1, h⟩ := h; cases e1; exact j_sel [0, 1, 2] rfl h
    · obtain ⟨e1, h⟩ := h; cases e1
set_option maxHeartbeats 2000000 in
theorem b_In_pose_120 {ω : q_W} {σ : q_H} {Q : q_R → q_H → Prop} {d mc ms : Nat} {x1 : Int} {p : Nat} (hp : p = 16 ∨ p = 29) (r472 : q_r σ 47 2 = p) (hE : q_E σ) (h : (J ω m_In_pose (d + 1) mc ms 0 0 88 [(0, .ref 47), (1, .int (zI (x1 + 1)))] [] σ Q)) : J ω m_In_pose (d + 1) mc ms 0 0 120 [(0, .ref 47), (1, .int (zI x1))] [] σ Q := by
  refine zj_iinc (L' := [(1, .int (zI (x1 + 1))), (0, .ref 47)]) (x1 + 1) d_In_pose_120 1 rfl (by omega) (by decide) rfl ?_
  refine j_goto 88 d_In_pose_123 (by decide) ?_
  exact j_sel [1, 0] rfl h
set_option maxHeartbeats 2000000 in
theorem b_In_pose_74 {ω : q_W} {σ : q_H} {Q : q_R → q_H → Prop} {d mc ms : Nat} {x1 : Int} {x2 : Int} {p : Nat} (hp : p = 16 ∨ p = 29) (r472 : q_r σ 47 2 = p) (hE : q_E σ) (h : (J ω m_In_pose (d + 1) mc ms 0 0 47 [(0, .ref 47), (1, .int (zI x1)), (2, .int (zI (x2 - 1)))] [] σ Q)) : J ω m_In_pose (d + 1) mc ms 0 0 74 [(0, .ref 47), (1, .int (zI x1)), (2, .int (zI x2))] [] σ Q := by
  refine zj_iinc (L' := [(2, .int (zI (x2 - 1))), (0, .ref 47), (1, .int (zI x1))]) (x2 - 1) d_In_pose_74 2 rfl (by omega) (by decide) rfl ?_
  refine j_goto 47 d_In_pose_77 (by decide) ?_
  exact j_sel [1, 2, 0] rfl h
set_option maxHeartbeats 2000000 in
theorem b_In_look_0 {ω : q_W} {σ : q_H} {Q : q_R → q_H → Prop} {d mc ms : Nat}  {p : Nat} (hp : p = 16 ∨ p = 29) (r472 : q_r σ 47 2 = p) (hE : q_E σ) (h : (J ω m_So_search d 0 0 0 0 0 [(0, .ref 70)] [] σ (q_ki (fun v τ => J ω m_In_look (d + 1) mc ms 0 0 8 [(0, .ref 47)] [.int (zI v), .ref 47] τ Q)))) : J ω m_In_look (d + 1) mc ms 0 0 0 [(0, .ref 47)] [] σ Q := by
  refine j_aload_n d_In_look_0 0 rfl ?_
  refine j_aload_n d_In_look_1 0 rfl ?_
  refine j_getR 70 f_In_21 d_In_look_2 (tg_47 hE) (q_okE hE (by decide)) (rf_47_1 hE) (by decide) ?_
  refine j_callV m_So_search [] [.ref 47] d 0 0 cV_In_111 d_In_look_5 rfl rfl (tg_70 hE) (q_okE hE (by decide)) (Nat.le_of_ble_eq_true rfl) (Nat.le_refl _) (Nat.le_of_ble_eq_true rfl) (Nat.zero_le _) (Nat.zero_le _) h (fun v τ h => ?_) (fun x τ h => ?_)
  · obtain ⟨v, hv, e1, h⟩ := h; cases e1; exact j_sel [0] rfl h
  · obtain ⟨v, hv, e1, h⟩ := h; cases e1
set_option maxHeartbeats 2000000 in
theorem b_In_look_8 {ω : q_W} {σ : q_H} {Q : q_R → q_H → Prop} {d mc ms : Nat} {y0 : Int} {p : Nat} (hp : p = 16 ∨ p = 29) (r472 : q_r σ 47 2 = p) (hE : q_E σ) (h : (y0 = 0 ∨ y0 = 1) ∧ inR y0 ∧ q_imp (y0 ≠ 0) ((J ω m_In_look (d + 1) mc ms 0 0 21 [(0, .ref 47), (1, .int (zI 0))] [] (zs σ 47 5 y0) Q)) ∧ q_imp (y0 = 0) ((Q (.inl none) (zs σ 47 5 y0)))) : J ω m_In_look (d + 1) mc ms 0 0 8 [(0, .ref 47)] [.int (zI y0), .ref 47] σ Q := by
  obtain ⟨c1, h⟩ := h
  refine zj_putZ (g_In_46 _) d_In_look_8 (tg_47 hE) (q_okE hE (by decide)) c1 ?_
  refine j_aload_n d_In_look_11 0 rfl ?_
  refine zj_getZ y0 f_In_46 d_In_look_12 (tg_47 (zs_E hE)) (q_okE (zs_E hE) (by decide)) (qs_s) ?_
  obtain ⟨r2, h⟩ := h
  obtain ⟨h1, h2⟩ := h
  refine zj_if_ne 19 d_In_look_15 (by decide) r2 (fun k3 => ?_) (fun k3 => ?_)
  · have h := h1 k3
    refine j_iconst (v := zI 0) d_In_look_19 (by decide) ?_
    refine j_istore_n (L' := [(1, .int (zI 0)), (0, .ref 47)]) d_In_look_20 (by decide) rfl ?_
    exact j_sel [1, 0] rfl h
  · have h := h2 k3
    exact j_vret d_In_look_18 rfl (Nat.zero_le _) (Nat.zero_le _) h
set_option maxHeartbeats 2000000 in
theorem b_In_look_21 {ω : q_W} {σ : q_H} {Q : q_R → q_H → Prop} {d mc ms : Nat} {x1 : Int} {p : Nat} (hp : p = 16 ∨ p = 29) (r472 : q_r σ 47 2 = p) (hE : q_E σ) (h : inR x1 ∧ q_imp (x1 ≥ (z σ p 0)) ((J ω m_Ma_execute d 0 0 0 0 0 [(0, .ref 87), (1, .ref p), (2, .ref 91)] [] σ (q_kv (fun τ => J ω m_In_look (d + 1) mc ms 0 0 72 [] [] τ Q)))) ∧ q_imp (x1 < (z σ p 0)) ((J ω m_In_worth d 0 0 0 0 0 [(0, .ref 47), (1, .ref 61), (2, .int (zI x1)), (3, .int (zI 0))] [] σ (q_ki (fun v τ => J ω m_In_look (d + 1) mc ms 0 0 50 [(0, .ref 47), (1, .int (zI x1))] [.int (zI v), .int (zI x1), .ref 91] τ Q))))) : J ω m_In_look (d + 1) mc ms 0 0 21 [(0, .ref 47), (1, .int (zI x1))] [] σ Q := by
  refine j_iload_n d_In_look_21 1 rfl ?_
  refine j_aload_n d_In_look_22 0 rfl ?_
  refine j_getR p f_In_42 d_In_look_23 (tg_47 hE) (q_okE hE (by decide)) (r472) (by omega) ?_
  refine zj_getI (z σ p 0) f_In_94 d_In_look_26 (tY_p_0 hE hp) (q_okE hE (by omega)) (q_z _ _ _) ?_
  obtain ⟨r4, h⟩ := h
  obtain ⟨h1, h2⟩ := h
  refine zj_icmp_ge 57 d_In_look_29 (by decide) r4 (z_R _ _ _) (fun k5 => ?_) (fun k5 => ?_)
  · have h := h1 k5
    refine j_aload_n d_In_look_57 0 rfl ?_
    refine j_getR 87 f_In_28 d_In_look_58 (tg_47 hE) (q_okE hE (by decide)) (rf_47_3 hE) (by decide) ?_
    refine j_aload_n d_In_look_61 0 rfl ?_
    refine j_getR p f_In_42 d_In_look_62 (tg_47 hE) (q_okE hE (by decide)) (r472) (by omega) ?_
    refine j_aload_n d_In_look_65 0 rfl ?_
    refine j_getR 91 f_In_32 d_In_look_66 (tg_47 hE) (q_okE hE (by decide)) (rf_47_4 hE) (by decide) ?_
    refine j_callV m_Ma_execute [.ref p, .ref 91] [] d 0 0 cV_In_119 d_In_look_69 rfl rfl (tg_87 hE) (q_okE hE (by decide)) (Nat.le_of_ble_eq_true rfl) (Nat.le_refl _) (Nat.le_of_ble_eq_true rfl) (Nat.zero_le _) (Nat.zero_le _) h (fun v τ h => ?_) (fun x τ h => ?_)
    · obtain ⟨e1, h⟩ := h; cases e1; exact j_sel [] rfl h
    · obtain ⟨e1, h⟩ := h; cases e1
  · have h := h2 k5
    refine j_aload_n d_In_look_32 0 rfl ?_
    refine j_getR 91 f_In_32 d_In_look_33 (tg_47 hE) (q_okE hE (by decide)) (rf_47_4 hE) (by decide) ?_
    refine j_iload_n d_In_look_36 1 rfl ?_
    refine j_aload_n d_In_look_37 0 rfl ?_
    refine j_aload_n d_In_look_38 0 rfl ?_
    refine j_getR 48 f_In_12 d_In_look_39 (tg_47 hE) (q_okE hE (by decide)) (rf_47_0 hE) (by decide) ?_
    refine j_getR 61 f_In_102 d_In_look_42 (tg_48 hE) (q_okE hE (by decide)) (rf_48_2 hE) (by decide) ?_
    refine j_iload_n d_In_look_45 1 rfl ?_
    refine j_iconst (v := zI 0) d_In_look_46 (by decide) ?_
    refine j_callV m_In_worth [.ref 61, .int (zI x1), .int (zI 0)] [.int (zI x1), .ref 91] d 0 0 cV_In_115 d_In_look_47 rfl rfl (tg_47 hE) (q_okE hE (by decide)) (Nat.le_of_ble_eq_true rfl) (Nat.le_refl _) (Nat.le_of_ble_eq_true rfl) (Nat.zero_le _) (Nat.zero_le _) h (fun v τ h => ?_) (fun x τ h => ?_)
    · obtain ⟨v, hv, e1, h⟩ := h; cases e1; exact j_sel [0, 1] rfl h
    · obtain ⟨v, hv, e1, h⟩ := h; cases e1
set_option maxHeartbeats 2000000 in
theorem b_In_look_72 {ω : q_W} {σ : q_H} {Q : q_R → q_H → Prop} {d mc ms : Nat}  {p : Nat} (hp : p = 16 ∨ p = 29) (r472 : q_r σ 47 2 = p) (hE : q_E σ) (h : (Q (.inl none) σ)) : J ω m_In_look (d + 1) mc ms 0 0 72 [] [] σ Q := by
  exact j_vret d_In_look_72 rfl (Nat.zero_le _) (Nat.zero_le _) h
set_option maxHeartbeats 2000000 in
theorem b_In_look_50 {ω : q_W} {σ : q_H} {Q : q_R → q_H → Prop} {d mc ms : Nat} {x1 : Int} {y0 : Int} {y1 : Int} {p : Nat} (hp : p = 16 ∨ p = 29) (r472 : q_r σ 47 2 = p) (hE : q_E σ) (h : (0 ≤ y1 ∧ y1 < 12) ∧ (J ω m_In_look (d + 1) mc ms 0 0 21 [(0, .ref 47), (1, .int (zI (x1 + 1)))] [] (zs σ 91 y1.toNat y0) Q)) : J ω m_In_look (d + 1) mc ms 0 0 50 [(0, .ref 47), (1, .int (zI x1))] [.int (zI y0), .int (zI y1), .ref 91] σ Q := by
  obtain ⟨c6, h⟩ := h
  refine zj_iast d_In_look_50 (tg_91 hE) (q_okE hE (by decide)) c6 (by decide) ?_
  refine zj_iinc (L' := [(1, .int (zI (x1 + 1))), (0, .ref 47)]) (x1 + 1) d_In_look_51 1 rfl (by omega) (by decide) rfl ?_
  refine j_goto 21 d_In_look_54 (by decide) ?_
  exact j_sel [1, 0] rfl h
set_option maxHeartbeats 2000000 in
theorem b_In_worth_0 {ω : q_W} {σ : q_H} {Q : q_R → q_H → Prop} {d mc ms : Nat} {x2 : Int} {x3 : Int} {p : Nat} (hp : p = 16 ∨ p = 29) (r472 : q_r σ 47 2 = p) {b : Nat} (hb : b = 61 ∨ b = 62) (hE : q_E σ) (h : (J ω m_In_worth (d + 1) mc ms 0 0 6 [(0, .ref 47), (1, .ref b), (2, .int (zI x2)), (3, .int (zI x3)), (4, .int (zI 0)), (5, .int (zI 0))] [] σ Q)) : J ω m_In_worth (d + 1) mc ms 0 0 0 [(0, .ref 47), (1, .ref b), (2, .int (zI x2)), (3, .int (zI x3))] [] σ Q := by
  refine j_iconst (v := zI 0) d_In_worth_0 (by decide) ?_
  refine j_istore (L' := [(4, .int (zI 0)), (0, .ref 47), (1, .ref b), (2, .int (zI x2)), (3, .int (zI x3))]) d_In_worth_1 (by decide) rfl ?_
  refine j_iconst (v := zI 0) d_In_worth_3 (by decide) ?_
  refine j_istore (L' := [(5, .int (zI 0)), (4, .int (zI 0)), (0, .ref 47), (1, .ref b), (2, .int (zI x2)), (3, .int (zI x3))]) d_In_worth_4 (by decide) rfl ?_
  exact j_sel [2, 3, 4, 5, 1, 0] rfl h
set_option maxHeartbeats 2000000 in
theorem b_In_worth_6 {ω : q_W} {σ : q_H} {Q : q_R → q_H → Prop} {d mc ms : Nat} {x2 : Int} {x3 : Int} {x4 : Int} {x5 : Int} {p : Nat} (hp : p = 16 ∨ p = 29) (r472 : q_r σ 47 2 = p) {b : Nat} (hb : b = 61 ∨ b = 62) (hE : q_E σ) (h : inR x5 ∧ q_imp (x5 ≥ 8) ((Q (.inl (some (.int (zI x4)))) σ)) ∧ q_imp (x5 < 8) ((0 ≤ ((x2 * 8) + x5) ∧ ((x2 * 8) + x5) < 96) ∧ (J ω m_So_holds d 0 0 0 0 0 [(0, .ref 70), (1, .int (zI (zXor (z σ b ((x2 * 8) + x5).toNat) x3)))] [] σ (q_ki (fun v τ => J ω m_In_worth (d + 1) mc ms 0 0 31 [(0, .ref 47), (1, .ref b), (2, .int (zI x2)), (3, .int (zI x3)), (4, .int (zI x4)), (5, .int (zI x5))] [.int (zI v)] τ Q))))) : J ω m_In_worth (d + 1) mc ms 0 0 6 [(0, .ref 47), (1, .ref b), (2, .int (zI x2)), (3, .int (zI x3)), (4, .int (zI x4)), (5, .int (zI x5))] [] σ Q := by
  refine j_iload d_In_worth_6 5 rfl ?_
  refine j_bipush (v := zI 8) d_In_worth_8 (by decide) ?_
  obtain ⟨r1, h⟩ := h
  obtain ⟨h1, h2⟩ := h
  refine zj_icmp_ge 49 d_In_worth_10 (by decide) r1 ⟨by decide, by decide⟩ (fun k2 => ?_) (fun k2 => ?_)
  · have h := h1 k2
    refine j_iload d_In_worth_49 4 rfl ?_
    exact zj_iret d_In_worth_51 rfl (Nat.zero_le _) (Nat.zero_le _) h
  · have h := h2 k2
    refine j_aload_n d_In_worth_13 0 rfl ?_
    refine j_getR 70 f_In_21 d_In_worth_14 (tg_47 hE) (q_okE hE (by decide)) (rf_47_1 hE) (by decide) ?_
    refine j_aload_n d_In_worth_17 1 rfl ?_
    refine j_iload_n d_In_worth_18 2 rfl ?_
    refine j_bipush (v := zI 8) d_In_worth_19 (by decide) ?_
    refine zj_imul (x2 * 8) rfl d_In_worth_21 ?_
    refine j_iload d_In_worth_22 5 rfl ?_
    refine zj_iadd ((x2 * 8) + x5) rfl d_In_worth_24 ?_
    obtain ⟨c3, h⟩ := h
    refine zj_iald (z σ b ((x2 * 8) + x5).toNat) d_In_worth_25 (tY_b_0 hE hb) (q_okE hE (by omega)) c3 (by decide) (q_z _ _ _) ?_
    refine j_iload_n d_In_worth_26 3 rfl ?_
    refine zj_ixor d_In_worth_27 ?_
    refine j_callV m_So_holds [.int (zI (zXor (z σ b ((x2 * 8) + x5).toNat) x3))] [] d 0 0 cV_In_123 d_In_worth_28 rfl rfl (tg_70 hE) (q_okE hE (by decide)) (Nat.le_of_ble_eq_true rfl) (Nat.le_refl _) (Nat.le_of_ble_eq_true rfl) (Nat.zero_le _) (Nat.zero_le _) h (fun v τ h => ?_) (fun x τ h => ?_)
    · obtain ⟨v, hv, e1, h⟩ := h; cases e1; exact j_sel [0, 1, 2, 3, 4, 5] rfl h
    · obtain ⟨v, hv, e1, h⟩ := h; cases e1
set_option maxHeartbeats 2000000 in
theorem b_In_worth_31 {ω : q_W} {σ : q_H} {Q : q_R → q_H → Prop} {d mc ms : Nat} {x2 : Int} {x3 : Int} {x4 : Int} {x5 : Int} {y0 : Int} {p : Nat} (hp : p = 16 ∨ p = 29) (r472 : q_r σ 47 2 = p) {b : Nat} (hb : b = 61 ∨ b = 62) (hE : q_E σ) (h : inR y0 ∧ q_imp (y0 = 0) ((J ω m_In_worth (d + 1) mc ms 0 0 6 [(0, .ref 47), (1, .ref b), (2, .int (zI x2)), (3, .int (zI x3)), (4, .int (zI x4)), (5, .int (zI (x5 + 1)))] [] σ Q)) ∧ q_imp (y0 ≠ 0) ((J ω m_In_worth (d + 1) mc ms 0 0 6 [(0, .ref 47), (1, .ref b), (2, .int (zI x2)), (3, .int (zI x3)), (4, .int (zI (zOr x4 (zShl 1 x5)))), (5, .int (zI (x5 + 1)))] [] σ Q))) : J ω m_In_worth (d + 1) mc ms 0 0 31 [(0, .ref 47), (1, .ref b), (2, .int (zI x2)), (3, .int (zI x3)), (4, .int (zI x4)), (5, .int (zI x5))] [.int (zI y0)] σ Q := by
  obtain ⟨r4, h⟩ := h
  obtain ⟨h1, h2⟩ := h
  refine zj_if_eq 43 d_In_worth_31 (by decide) r4 (fun k5 => ?_) (fun k5 => ?_)
  · have h := h1 k5
    refine zj_iinc (L' := [(5, .int (zI (x5 + 1))), (0, .ref 47), (1, .ref b), (2, .int (zI x2)), (3, .int (zI x3)), (4, .int (zI x4))]) (x5 + 1) d_In_worth_43 5 rfl (by omega) (by decide) rfl ?_
    refine j_goto 6 d_In_worth_46 (by decide) ?_
    exact j_sel [1, 2, 3, 4, 5, 0] rfl h
  · have h := h2 k5
    refine j_iload d_In_worth_34 4 rfl ?_
    refine j_iconst (v := zI 1) d_In_worth_36 (by decide) ?_
    refine j_iload d_In_worth_37 5 rfl ?_
    refine zj_ishl d_In_worth_39 ?_
    refine zj_ior d_In_worth_40 ?_
    refine j_istore (L' := [(4, .int (zI (zOr x4 (zShl 1 x5)))), (0, .ref 47), (1, .ref b), (2, .int (zI x2)), (3, .int (zI x3)), (5, .int (zI x5))]) d_In_worth_41 (by decide) rfl ?_
    refine zj_iinc (L' := [(5, .int (zI (x5 + 1))), (4, .int (zI (zOr x4 (zShl 1 x5)))), (0, .ref 47), (1, .ref b), (2, .int (zI x2)), (3, .int (zI x3))]) (x5 + 1) d_In_worth_43 5 rfl (by omega) (by decide) rfl ?_
    refine j_goto 6 d_In_worth_46 (by decide) ?_
    exact j_sel [2, 3, 4, 5, 1, 0] rfl h
set_option maxHeartbeats 2000000 in
theorem b_In_verdict_0 {ω : q_W} {σ : q_H} {Q : q_R → q_H → Prop} {d mc ms : Nat} {x1 : Int} {p : Nat} (hp : p = 16 ∨ p = 29) (r472 : q_r σ 47 2 = p) (hE : q_E σ) (h : q_imp ((z σ 47 5) = 0) (q_imp ((z σ 47 5) = 0) ((Q (.inl (some (.int (zI 0)))) σ)) ∧ q_imp ((z σ 47 5) ≠ 0) ((Q (.inl (some (.int (zI 1)))) σ))) ∧ q_imp ((z σ 47 5) ≠ 0) (inR x1 ∧ q_imp (x1 ≠ 0) (q_imp ((z σ 47 5) = 0) ((Q (.inl (some (.int (zI 0)))) σ)) ∧ q_imp ((z σ 47 5) ≠ 0) ((Q (.inl (some (.int (zI 1)))) σ))) ∧ q_imp (x1 = 0) (q_imp ((z σ 47 5) = 0) ((Q (.inl (some (.int (zI 0)))) (zs σ 47 10 ((z σ 47 10) + 1)))) ∧ q_imp ((z σ 47 5) ≠ 0) ((Q (.inl (some (.int (zI 1)))) (zs σ 47 10 ((z σ 47 10) + 1))))))) : J ω m_In_verdict d mc ms 0 0 0 [(0, .ref 47), (1, .int (zI x1))] [] σ Q := by
  refine j_aload_n d_In_verdict_0 0 rfl ?_
  refine zj_getZ (z σ 47 5) f_In_46 d_In_verdict_1 (tg_47 hE) (q_okE hE (by decide)) (q_z _ _ _) ?_
  obtain ⟨h1, h2⟩ := h
  refine zj_if_eq 21 d_In_verdict_4 (by decide) (z_R _ _ _) (fun k1 => ?_) (fun k1 => ?_)
  · have h := h1 k1
    refine j_aload_n d_In_verdict_21 0 rfl ?_
    refine zj_getZ (z σ 47 5) f_In_46 d_In_verdict_22 (tg_47 hE) (q_okE hE (by decide)) (q_z _ _ _) ?_
    obtain ⟨h1, h2⟩ := h
    refine zj_if_eq 32 d_In_verdict_25 (by decide) (z_R _ _ _) (fun k2 => ?_) (fun k2 => ?_)
    · have h := h1 k2
      refine j_iconst (v := zI 0) d_In_verdict_32 (by decide) ?_
      exact zj_iret d_In_verdict_33 rfl (Nat.zero_le _) (Nat.zero_le _) h
    · have h := h2 k2
      refine j_iconst (v := zI 1) d_In_verdict_28 (by decide) ?_
      refine j_goto 33 d_In_verdict_29 (by decide) ?_
      exact zj_iret d_In_verdict_33 rfl (Nat.zero_le _) (Nat.zero_le _) h
  · have h := h2 k1
    refine j_iload_n d_In_verdict_7 1 rfl ?_
    obtain ⟨r3, h⟩ := h
    obtain ⟨h1, h2⟩ := h
    refine zj_if_ne 21 d_In_verdict_8 (by decide) r3 (fun k4 => ?_) (fun k4 => ?_)
    · have h := h1 k4
      refine j_aload_n d_In_verdict_21 0 rfl ?_
      refine zj_getZ (z σ 47 5) f_In_46 d_In_verdict_22 (tg_47 hE) (q_okE hE (by decide)) (q_z _ _ _) ?_
      obtain ⟨h1, h2⟩ := h
      refine zj_if_eq 32 d_In_verdict_25 (by decide) (z_R _ _ _) (fun k5 => ?_) (fun k5 => ?_)
      · have h := h1 k5
        refine j_iconst (v := zI 0) d_In_verdict_32 (by decide) ?_
        exact zj_iret d_In_verdict_33 rfl (Nat.zero_le _) (Nat.zero_le _) h
      · have h := h2 k5
        refine j_iconst (v := zI 1) d_In_verdict_28 (by decide) ?_
        refine j_goto 33 d_In_verdict_29 (by decide) ?_
        exact zj_iret d_In_verdict_33 rfl (Nat.zero_le _) (Nat.zero_le _) h
    · have h := h2 k4
      refine j_aload_n d_In_verdict_11 0 rfl ?_
      refine j_dup d_In_verdict_12 rfl ?_
      refine zj_getI (z σ 47 10) f_In_50 d_In_verdict_13 (tg_47 hE) (q_okE hE (by decide)) (q_z _ _ _) ?_
      refine j_iconst (v := zI 1) d_In_verdict_16 (by decide) ?_
      refine zj_iadd ((z σ 47 10) + 1) (by omega) d_In_verdict_17 ?_
      refine zj_putI (g_In_50 _) d_In_verdict_18 (tg_47 hE) (q_okE hE (by decide)) ?_
      refine j_aload_n d_In_verdict_21 0 rfl ?_
      refine zj_getZ (z σ 47 5) f_In_46 d_In_verdict_22 (tg_47 (zs_E hE)) (q_okE (zs_E hE) (by decide)) (Eq.trans (qs_k (by decide)) (q_z _ _ _)) ?_
      obtain ⟨h1, h2⟩ := h
      refine zj_if_eq 32 d_In_verdict_25 (by decide) (z_R _ _ _) (fun k6 => ?_) (fun k6 => ?_)
      · have h := h1 k6
        refine j_iconst (v := zI 0) d_In_verdict_32 (by decide) ?_
        exact zj_iret d_In_verdict_33 rfl (Nat.zero_le _) (Nat.zero_le _) h
      · have h := h2 k6
        refine j_iconst (v := zI 1) d_In_verdict_28 (by decide) ?_
        refine j_goto 33 d_In_verdict_29 (by decide) ?_
        exact zj_iret d_In_verdict_33 rfl (Nat.zero_le _) (Nat.zero_le _) h
set_option maxHeartbeats 2000000 in
theorem b_In_extreme_0 {ω : q_W} {σ : q_H} {Q : q_R → q_H → Prop} {d mc ms : Nat} {x1 : Int} {x2 : Int} {p : Nat} (hp : p = 16 ∨ p = 29) (r472 : q_r σ 47 2 = p) (hE : q_E σ) (h : (J ω m_In_open d 0 0 0 0 0 [(0, .ref 47)] [] σ (q_kv (fun τ => J ω m_In_extreme (d + 1) mc ms 0 0 4 [(0, .ref 47), (1, .int (zI x1)), (2, .int (zI x2))] [] τ Q)))) : J ω m_In_extreme (d + 1) mc ms 0 0 0 [(0, .ref 47), (1, .int (zI x1)), (2, .int (zI x2))] [] σ Q := by
  refine j_aload_n d_In_extreme_0 0 rfl ?_
  refine j_callV m_In_open [] [] d 0 0 cV_In_127 d_In_extreme_1 rfl rfl (tg_47 hE) (q_okE hE (by decide)) (Nat.le_of_ble_eq_true rfl) (Nat.le_refl _) (Nat.le_of_ble_eq_true rfl) (Nat.zero_le _) (Nat.zero_le _) h (fun v τ h => ?_) (fun x τ h => ?_)
  · obtain ⟨e1, h⟩ := h; cases e1; exact j_sel [0, 1, 2] rfl h
  · obtain ⟨e1, h⟩ := h; cases e1
set_option maxHeartbeats 2000000 in
theorem b_In_extreme_4 {ω : q_W} {σ : q_H} {Q : q_R → q_H → Prop} {d mc ms : Nat} {x1 : Int} {x2 : Int} {p : Nat} (hp : p = 16 ∨ p = 29) (r472 : q_r σ 47 2 = p) (hE : q_E σ) (h : (J ω m_In_demand d 0 0 0 0 0 [(0, .ref 47), (1, .int (zI (z σ 48 4)))] [] σ (q_kv (fun τ => J ω m_In_extreme (d + 1) mc ms 0 0 15 [(0, .ref 47), (1, .int (zI x1)), (2, .int (zI x2))] [] τ Q)))) : J ω m_In_extreme (d + 1) mc ms 0 0 4 [(0, .ref 47), (1, .int (zI x1)), (2, .int (zI x2))] [] σ Q := by
  refine j_aload_n d_In_extreme_4 0 rfl ?_
  refine j_aload_n d_In_extreme_5 0 rfl ?_
  refine j_getR 48 f_In_12 d_In_extreme_6 (tg_47 hE) (q_okE hE (by decide)) (rf_47_0 hE) (by decide) ?_
  refine zj_getI (z σ 48 4) f_In_130 d_In_extreme_9 (tg_48 hE) (q_okE hE (by decide)) (q_z _ _ _) ?_
  refine j_callV m_In_demand [.int (zI (z σ 48 4))] [] d 0 0 cV_In_84 d_In_extreme_12 rfl rfl (tg_47 hE) (q_okE hE (by decide)) (Nat.le_of_ble_eq_true rfl) (Nat.le_refl _) (Nat.le_of_ble_eq_true rfl) (Nat.zero_le _) (Nat.zero_le _) h (fun v τ h => ?_) (fun x τ h => ?_)
  · obtain ⟨e1, h⟩ := h; cases e1; exact j_sel [0, 1, 2] rfl h
  · obtain ⟨e1, h⟩ := h; cases e1
set_option maxHeartbeats 2000000 in
theorem b_In_extreme_15 {ω : q_W} {σ : q_H} {Q : q_R → q_H → Prop} {d mc ms : Nat} {x1 : Int} {x2 : Int} {p : Nat} (hp : p = 16 ∨ p = 29) (r472 : q_r σ 47 2 = p) (hE : q_E σ) (h : (J ω m_In_extreme (d + 1) mc ms 0 0 17 [(0, .ref 47), (1, .int (zI x1)), (2, .int (zI x2)), (3, .int (zI 0))] [] σ Q)) : J ω m_In_extreme (d + 1) mc ms 0 0 15 [(0, .ref 47), (1, .int (zI x1)), (2, .int (zI x2))] [] σ Q := by
  refine j_iconst (v := zI 0) d_In_extreme_15 (by decide) ?_
  refine j_istore_n (L' := [(3, .int (zI 0)), (0, .ref 47), (1, .int (zI x1)), (2, .int (zI x2))]) d_In_extreme_16 (by decide) rfl ?_
  exact j_sel [1, 2, 3, 0] rfl h
set_option maxHeartbeats 2000000 in
theorem b_In_extreme_17 {ω : q_W} {σ : q_H} {Q : q_R → q_H → Prop} {d mc ms : Nat} {x1 : Int} {x2 : Int} {x3 : Int} {p : Nat} (hp : p = 16 ∨ p = 29) (r472 : q_r σ 47 2 = p) (hE : q_E σ) (h : inR x3 ∧ q_imp (x3 ≥ 8) ((J ω m_In_pose d 0 0 0 0 0 [(0, .ref 47)] [] σ (q_kv (fun τ => J ω m_In_extreme (d + 1) mc ms 0 0 51 [(0, .ref 47), (1, .int (zI x1)), (2, .int (zI x2))] [] τ Q)))) ∧ q_imp (x3 < 8) ((0 ≤ ((x1 * 8) + x3) ∧ ((x1 * 8) + x3) < 96) ∧ (J ω m_In_concern d 0 0 0 0 0 [(0, .ref 47), (1, .int (zI (z σ 62 ((x1 * 8) + x3).toNat)))] [] σ (q_kv (fun τ => J ω m_In_extreme (d + 1) mc ms 0 0 41 [(0, .ref 47), (1, .int (zI x1)), (2, .int (zI x2)), (3, .int (zI x3))] [] τ Q))))) : J ω m_In_extreme (d + 1) mc ms 0 0 17 [(0, .ref 47), (1, .int (zI x1)), (2, .int (zI x2)), (3, .int (zI x3))] [] σ Q := by
  refine j_iload_n d_In_extreme_17 3 rfl ?_
  refine j_bipush (v := zI 8) d_In_extreme_18 (by decide) ?_
  obtain ⟨r1, h⟩ := h
  obtain ⟨h1, h2⟩ := h
  refine zj_icmp_ge 47 d_In_extreme_20 (by decide) r1 ⟨by decide, by decide⟩ (fun k2 => ?_) (fun k2 => ?_)
  · have h := h1 k2
    refine j_aload_n d_In_extreme_47 0 rfl ?_
    refine j_callV m_In_pose [] [] d 0 0 cV_In_133 d_In_extreme_48 rfl rfl (tg_47 hE) (q_okE hE (by decide)) (Nat.le_of_ble_eq_true rfl) (Nat.le_refl _) (Nat.le_of_ble_eq_true rfl) (Nat.zero_le _) (Nat.zero_le _) h (fun v τ h => ?_) (fun x τ h => ?_)
    · obtain ⟨e1, h⟩ := h; cases e1; exact j_sel [0, 1, 2] rfl h
    · obtain ⟨e1, h⟩ := h; cases e1
  · have h := h2 k2
    refine j_aload_n d_In_extreme_23 0 rfl ?_
    refine j_aload_n d_In_extreme_24 0 rfl ?_
    refine j_getR 48 f_In_12 d_In_extreme_25 (tg_47 hE) (q_okE hE (by decide)) (rf_47_0 hE) (by decide) ?_
    refine j_getR 62 f_In_87 d_In_extreme_28 (tg_48 hE) (q_okE hE (by decide)) (rf_48_3 hE) (by decide) ?_
    refine j_iload_n d_In_extreme_31 1 rfl ?_
    refine j_bipush (v := zI 8) d_In_extreme_32 (by decide) ?_
    refine zj_imul (x1 * 8) rfl d_In_extreme_34 ?_
    refine j_iload_n d_In_extreme_35 3 rfl ?_
    refine zj_iadd ((x1 * 8) + x3) rfl d_In_extreme_36 ?_
    obtain ⟨c3, h⟩ := h
    refine zj_iald (z σ 62 ((x1 * 8) + x3).toNat) d_In_extreme_37 (tg_62 hE) (q_okE hE (by decide)) c3 (by decide) (q_z _ _ _) ?_
    refine j_callV m_In_concern [.int (zI (z σ 62 ((x1 * 8) + x3).toNat))] [] d 0 0 cV_In_76 d_In_extreme_38 rfl rfl (tg_47 hE) (q_okE hE (by decide)) (Nat.le_of_ble_eq_true rfl) (Nat.le_refl _) (Nat.le_of_ble_eq_true rfl) (Nat.zero_le _) (Nat.zero_le _) h (fun v τ h => ?_) (fun x τ h => ?_)
    · obtain ⟨e1, h⟩ := h; cases e1; exact j_sel [0, 1, 2, 3] rfl h
    · obtain ⟨e1, h⟩ := h; cases e1
set_option maxHeartbeats 2000000 in
theorem b_In_extreme_51 {ω : q_W} {σ : q_H} {Q : q_R → q_H → Prop} {d mc ms : Nat} {x1 : Int} {x2 : Int} {p : Nat} (hp : p = 16 ∨ p = 29) (r472 : q_r σ 47 2 = p) (hE : q_E σ) (h : (J ω m_In_look d 0 0 0 0 0 [(0, .ref 47)] [] σ (q_kv (fun τ => J ω m_In_extreme (d + 1) mc ms 0 0 55 [(0, .ref 47), (1, .int (zI x1)), (2, .int (zI x2))] [] τ Q)))) : J ω m_In_extreme (d + 1) mc ms 0 0 51 [(0, .ref 47), (1, .int (zI x1)), (2, .int (zI x2))] [] σ Q := by
  refine j_aload_n d_In_extreme_51 0 rfl ?_
  refine j_callV m_In_look [] [] d 0 0 cV_In_136 d_In_extreme_52 rfl rfl (tg_47 hE) (q_okE hE (by decide)) (Nat.le_of_ble_eq_true rfl) (Nat.le_refl _) (Nat.le_of_ble_eq_true rfl) (Nat.zero_le _) (Nat.zero_le _) h (fun v τ h => ?_) (fun x τ h => ?_)
  · obtain ⟨e1, h⟩ := h; cases e1; exact j_sel [0, 1, 2] rfl h
  · obtain ⟨e1, h⟩ := h; cases e1
set_option maxHeartbeats 2000000 in
theorem b_In_extreme_41 {ω : q_W} {σ : q_H} {Q : q_R → q_H → Prop} {d mc ms : Nat} {x1 : Int} {x2 : Int} {x3 : Int} {p : Nat} (hp : p = 16 ∨ p = 29) (r472 : q_r σ 47 2 = p) (hE : q_E σ) (h : (J ω m_In_extreme (d + 1) mc ms 0 0 17 [(0, .ref 47), (1, .int (zI x1)), (2, .int (zI x2)), (3, .int (zI (x3 + 1)))] [] σ Q)) : J ω m_In_extreme (d + 1) mc ms 0 0 41 [(0, .ref 47), (1, .int (zI x1)), (2, .int (zI x2)), (3, .int (zI x3))] [] σ Q := by
  refine zj_iinc (L' := [(3, .int (zI (x3 + 1))), (0, .ref 47), (1, .int (zI x1)), (2, .int (zI x2))]) (x3 + 1) d_In_extreme_41 3 rfl (by omega) (by decide) rfl ?_
  refine j_goto 17 d_In_extreme_44 (by decide) ?_
  exact j_sel [1, 2, 3, 0] rfl h
set_option maxHeartbeats 2000000 in
theorem b_In_extreme_55 {ω : q_W} {σ : q_H} {Q : q_R → q_H → Prop} {d mc ms : Nat} {x1 : Int} {x2 : Int} {p : Nat} (hp : p = 16 ∨ p = 29) (r472 : q_r σ 47 2 = p) (hE : q_E σ) (h : (0 ≤ x1 ∧ x1 < 12) ∧ (J ω m_In_extreme (d + 1) mc ms 0 0 74 [(0, .ref 47), (1, .int (zI x1)), (2, .int (zI x2)), (3, .int (zI (zShl 1 (z σ (p + 3) x1.toNat) - 1))), (4, .int (zI (-1))), (5, .int (zI 0))] [] σ Q)) : J ω m_In_extreme (d + 1) mc ms 0 0 55 [(0, .ref 47), (1, .int (zI x1)), (2, .int (zI x2))] [] σ Q := by
  refine j_aload_n d_In_extreme_55 0 rfl ?_
  refine j_getR p f_In_42 d_In_extreme_56 (tg_47 hE) (q_okE hE (by decide)) (r472) (by omega) ?_
  refine j_getR (p + 3) f_In_139 d_In_extreme_59 (tY_p_0 hE hp) (q_okE hE (by omega)) (rY_p_5 hE hp) (by omega) ?_
  refine j_iload_n d_In_extreme_62 1 rfl ?_
  obtain ⟨c4, h⟩ := h
  refine zj_iald (z σ (p + 3) x1.toNat) d_In_extreme_63 (tY_p_3 hE hp) (q_okE hE (by omega)) c4 (by decide) (q_z _ _ _) ?_
  refine j_callS m_H_mask [.int (zI (z σ (p + 3) x1.toNat))] [] 0 0 0 cS_In_80 d_In_extreme_64 rfl rfl (Nat.le_of_ble_eq_true rfl) (Nat.succ_le_succ (Nat.zero_le _)) (Nat.le_of_ble_eq_true rfl) (Nat.zero_le _) (Nat.zero_le _) (c_H_mask hE (z_R _ _ _)) (fun v τ h => ?_) (fun x τ h => absurd h.1 (by simp))
  obtain ⟨e1, e2⟩ := h; cases e1; rw [e2]
  refine j_istore_n (L' := [(3, .int (zI (zShl 1 (z σ (p + 3) x1.toNat) - 1))), (0, .ref 47), (1, .int (zI x1)), (2, .int (zI x2))]) d_In_extreme_67 (by decide) rfl ?_
  refine j_iconst (v := zI (-1)) d_In_extreme_68 (by decide) ?_
  refine j_istore (L' := [(4, .int (zI (-1))), (3, .int (zI (zShl 1 (z σ (p + 3) x1.toNat) - 1))), (0, .ref 47), (1, .int (zI x1)), (2, .int (zI x2))]) d_In_extreme_69 (by decide) rfl ?_
  refine j_iconst (v := zI 0) d_In_extreme_71 (by decide) ?_
  refine j_istore (L' := [(5, .int (zI 0)), (4, .int (zI (-1))), (3, .int (zI (zShl 1 (z σ (p + 3) x1.toNat) - 1))), (0, .ref 47), (1, .int (zI x1)), (2, .int (zI x2))]) d_In_extreme_72 (by decide) rfl ?_
  exact j_sel [3, 4, 5, 2, 1, 0] rfl h
set_option maxHeartbeats 2000000 in
theorem b_In_extreme_74 {ω : q_W} {σ : q_H} {Q : q_R → q_H → Prop} {d mc ms : Nat} {x1 : Int} {x2 : Int} {x3 : Int} {x4 : Int} {x5 : Int} {p : Nat} (hp : p = 16 ∨ p = 29) (r472 : q_r σ 47 2 = p) (hE : q_E σ) (h : inR x5 ∧ inR x3 ∧ q_imp (x5 > x3) ((J ω m_In_extreme (d + 1) mc ms 0 0 179 [(0, .ref 47), (4, .int (zI x4))] [] σ Q)) ∧ q_imp (x5 ≤ x3) (q_imp ((z σ 47 5) = 0) ((J ω m_In_extreme (d + 1) mc ms 0 0 179 [(0, .ref 47), (4, .int (zI x4))] [] σ Q)) ∧ q_imp ((z σ 47 5) ≠ 0) ((J ω m_In_worth d 0 0 0 0 0 [(0, .ref 47), (1, .ref 62), (2, .int (zI x1)), (3, .int (zI x2))] [] σ (q_ki (fun v τ => J ω m_In_extreme (d + 1) mc ms 0 0 100 [(0, .ref 47), (1, .int (zI x1)), (2, .int (zI x2)), (3, .int (zI x3)), (5, .int (zI x5))] [.int (zI v)] τ Q)))))) : J ω m_In_extreme (d + 1) mc ms 0 0 74 [(0, .ref 47), (1, .int (zI x1)), (2, .int (zI x2)), (3, .int (zI x3)), (4, .int (zI x4)), (5, .int (zI x5))] [] σ Q := by
  refine j_iload d_In_extreme_74 5 rfl ?_
  refine j_iload_n d_In_extreme_76 3 rfl ?_
  obtain ⟨r5, h⟩ := h
  obtain ⟨r6, h⟩ := h
  obtain ⟨h1, h2⟩ := h
  refine zj_icmp_gt 179 d_In_extreme_77 (by decide) r5 r6 (fun k7 => ?_) (fun k7 => ?_)
  · have h := h1 k7
    exact j_sel [0, 4] rfl h
  · have h := h2 k7
    refine j_aload_n d_In_extreme_80 0 rfl ?_
    refine zj_getZ (z σ 47 5) f_In_46 d_In_extreme_81 (tg_47 hE) (q_okE hE (by decide)) (q_z _ _ _) ?_
    obtain ⟨h1, h2⟩ := h
    refine zj_if_eq 179 d_In_extreme_84 (by decide) (z_R _ _ _) (fun k8 => ?_) (fun k8 => ?_)
    · have h := h1 k8
      exact j_sel [0, 4] rfl h
    · have h := h2 k8
      refine j_aload_n d_In_extreme_87 0 rfl ?_
      refine j_aload_n d_In_extreme_88 0 rfl ?_
      refine j_getR 48 f_In_12 d_In_extreme_89 (tg_47 hE) (q_okE hE (by decide)) (rf_47_0 hE) (by decide) ?_
      refine j_getR 62 f_In_87 d_In_extreme_92 (tg_48 hE) (q_okE hE (by decide)) (rf_48_3 hE) (by decide) ?_
      refine j_iload_n d_In_extreme_95 1 rfl ?_
      refine j_iload_n d_In_extreme_96 2 rfl ?_
      refine j_callV m_In_worth [.ref 62, .int (zI x1), .int (zI x2)] [] d 0 0 cV_In_115 d_In_extreme_97 rfl rfl (tg_47 hE) (q_okE hE (by decide)) (Nat.le_of_ble_eq_true rfl) (Nat.le_refl _) (Nat.le_of_ble_eq_true rfl) (Nat.zero_le _) (Nat.zero_le _) h (fun v τ h => ?_) (fun x τ h => ?_)
      · obtain ⟨v, hv, e1, h⟩ := h; cases e1; exact j_sel [0, 1, 2, 3, 5] rfl h
      · obtain ⟨v, hv, e1, h⟩ := h; cases e1
set_option maxHeartbeats 2000000 in
theorem b_In_extreme_179 {ω : q_W} {σ : q_H} {Q : q_R → q_H → Prop} {d mc ms : Nat} {x4 : Int} {p : Nat} (hp : p = 16 ∨ p = 29) (r472 : q_r σ 47 2 = p) (hE : q_E σ) (h : inR x4 ∧ q_imp (x4 < 0) ((Q (.inl (some (.int (zI x4)))) (zs σ 47 5 0))) ∧ q_imp (0 ≤ x4) ((Q (.inl (some (.int (zI x4)))) (zs σ 47 5 1)))) : J ω m_In_extreme (d + 1) mc ms 0 0 179 [(0, .ref 47), (4, .int (zI x4))] [] σ Q := by
  refine j_aload_n d_In_extreme_179 0 rfl ?_
  refine j_iload d_In_extreme_180 1 rfl ?_
  obtain ⟨r9, h⟩ := h
  obtain ⟨h1, h2⟩ := h
  refine zj_if_lt 189 d_In_extreme_182 (by decide) r9 (fun k10 => ?_) (fun k10 => ?_)
  · have h := h1 k10
    refine j_iconst (v := zI 0) d_In_extreme_189 (by decide) ?_
    refine zj_putZ (g_In_46 _) d_In_extreme_190 (tg_47 hE) (q_okE hE (by decide)) (by decide) ?_
    refine j_iload d_In_extreme_193 1 rfl ?_
    exact zj_iret d_In_extreme_195 rfl (Nat.zero_le _) (Nat.zero_le _) h
  · have h := h2 k10
    refine j_iconst (v := zI 1) d_In_extreme_185 (by decide) ?_
    refine j_goto 190 d_In_extreme_186 (by decide) ?_
    refine zj_putZ (g_In_46 _) d_In_extreme_190 (tg_47 hE) (q_okE hE (by decide)) (by decide) ?_
    refine j_iload d_In_extreme_193 1 rfl ?_
    exact zj_iret d_In_extreme_195 rfl (Nat.zero_le _) (Nat.zero_le _) h
set_option maxHeartbeats 2000000 in
theorem b_In_extreme_100 {ω : q_W} {σ : q_H} {Q : q_R → q_H → Prop} {d mc ms : Nat} {x1 : Int} {x2 : Int} {x3 : Int} {x5 : Int} {y0 : Int} {p : Nat} (hp : p = 16 ∨ p = 29) (r472 : q_r σ 47 2 = p) (hE : q_E σ) (h : inR x2 ∧ q_imp (x2 ≠ 0) ((J ω m_In_extreme (d + 1) mc ms 0 0 117 [(0, .ref 47), (1, .int (zI x1)), (2, .int (zI x2)), (3, .int (zI x3)), (5, .int (zI x5)), (6, .int (zI (zAnd y0 x3)))] [.int (zI (x3 - (zAnd y0 x3)))] σ Q)) ∧ q_imp (x2 = 0) ((J ω m_In_extreme (d + 1) mc ms 0 0 117 [(0, .ref 47), (1, .int (zI x1)), (2, .int (zI x2)), (3, .int (zI x3)), (5, .int (zI x5)), (6, .int (zI (zAnd y0 x3)))] [.int (zI (zAnd y0 x3))] σ Q))) : J ω m_In_extreme (d + 1) mc ms 0 0 100 [(0, .ref 47), (1, .int (zI x1)), (2, .int (zI x2)), (3, .int (zI x3)), (5, .int (zI x5))] [.int (zI y0)] σ Q := by
  refine j_iload_n d_In_extreme_100 3 rfl ?_
  refine zj_iand d_In_extreme_101 ?_
  refine j_istore (L' := [(6, .int (zI (zAnd y0 x3))), (0, .ref 47), (1, .int (zI x1)), (2, .int (zI x2)), (3, .int (zI x3)), (5, .int (zI x5))]) d_In_extreme_102 (by decide) rfl ?_
  refine j_iload_n d_In_extreme_104 3 rfl ?_
  obtain ⟨r11, h⟩ := h
  obtain ⟨h1, h2⟩ := h
  refine zj_if_ne 113 d_In_extreme_105 (by decide) r11 (fun k12 => ?_) (fun k12 => ?_)
  · have h := h1 k12
    refine j_iload_n d_In_extreme_113 4 rfl ?_
    refine j_iload d_In_extreme_114 0 rfl ?_
    refine zj_isub (x3 - (zAnd y0 x3)) rfl d_In_extreme_116 ?_
    exact j_sel [1, 2, 3, 4, 5, 0] rfl h
  · have h := h2 k12
    refine j_iload d_In_extreme_108 0 rfl ?_
    refine j_goto 117 d_In_extreme_110 (by decide) ?_
    exact j_sel [1, 2, 3, 4, 5, 0] rfl h
set_option maxHeartbeats 2000000 in
theorem b_In_extreme_117 {ω : q_W} {σ : q_H} {Q : q_R → q_H → Prop} {d mc ms : Nat} {x1 : Int} {x2 : Int} {x3 : Int} {x5 : Int} {x6 : Int} {y0 : Int} {p : Nat} (hp : p = 16 ∨ p = 29) (r472 : q_r σ 47 2 = p) (hE : q_E σ) (h : q_imp ((z σ 87 0) ≠ 0) ((J ω m_In_extreme (d + 1) mc ms 0 0 149 [(0, .ref 47), (1, .int (zI x1)), (2, .int (zI x2)), (3, .int (zI x3)), (4, .int (zI y0)), (5, .int (zI x5)), (6, .int (zI x6))] [.int (zI 0), .ref 47] σ Q)) ∧ q_imp ((z σ 87 0) = 0) ((0 ≤ x1 ∧ x1 < 12) ∧ inR y0 ∧ q_imp ((z σ 88 x1.toNat) ≠ y0) ((J ω m_In_extreme (d + 1) mc ms 0 0 149 [(0, .ref 47), (1, .int (zI x1)), (2, .int (zI x2)), (3, .int (zI x3)), (4, .int (zI y0)), (5, .int (zI x5)), (6, .int (zI x6))] [.int (zI 0), .ref 47] σ Q)) ∧ q_imp ((z σ 88 x1.toNat) = y0) ((J ω m_In_extreme (d + 1) mc ms 0 0 149 [(0, .ref 47), (1, .int (zI x1)), (2, .int (zI x2)), (3, .int (zI x3)), (4, .int (zI y0)), (5, .int (zI x5)), (6, .int (zI x6))] [.int (zI 1), .ref 47] σ Q)))) : J ω m_In_extreme (d + 1) mc ms 0 0 117 [(0, .ref 47), (1, .int (zI x1)), (2, .int (zI x2)), (3, .int (zI x3)), (5, .int (zI x5)), (6, .int (zI x6))] [.int (zI y0)] σ Q := by
  refine j_istore (L' := [(4, .int (zI y0)), (0, .ref 47), (1, .int (zI x1)), (2, .int (zI x2)), (3, .int (zI x3)), (5, .int (zI x5)), (6, .int (zI x6))]) d_In_extreme_117 (by decide) rfl ?_
  refine j_aload_n d_In_extreme_119 1 rfl ?_
  refine j_aload_n d_In_extreme_120 1 rfl ?_
  refine j_getR 87 f_In_28 d_In_extreme_121 (tg_47 hE) (q_okE hE (by decide)) (rf_47_3 hE) (by decide) ?_
  refine zj_getI (z σ 87 0) f_In_142 d_In_extreme_124 (tg_87 hE) (q_okE hE (by decide)) (q_z _ _ _) ?_
  obtain ⟨h1, h2⟩ := h
  refine zj_if_ne 148 d_In_extreme_127 (by decide) (z_R _ _ _) (fun k13 => ?_) (fun k13 => ?_)
  · have h := h1 k13
    refine j_iconst (v := zI 0) d_In_extreme_148 (by decide) ?_
    exact j_sel [1, 2, 3, 4, 0, 5, 6] rfl h
  · have h := h2 k13
    refine j_aload_n d_In_extreme_130 1 rfl ?_
    refine j_getR 87 f_In_28 d_In_extreme_131 (tg_47 hE) (q_okE hE (by decide)) (rf_47_3 hE) (by decide) ?_
    refine j_getR 88 f_In_145 d_In_extreme_134 (tg_87 hE) (q_okE hE (by decide)) (rf_87_2 hE) (by decide) ?_
    refine j_iload_n d_In_extreme_137 2 rfl ?_
    obtain ⟨c14, h⟩ := h
    refine zj_iald (z σ 88 x1.toNat) d_In_extreme_138 (tg_88 hE) (q_okE hE (by decide)) c14 (by decide) (q_z _ _ _) ?_
    refine j_iload d_In_extreme_139 0 rfl ?_
    obtain ⟨r15, h⟩ := h
    obtain ⟨h1, h2⟩ := h
    refine zj_icmp_ne 148 d_In_extreme_141 (by decide) (z_R _ _ _) r15 (fun k16 => ?_) (fun k16 => ?_)
    · have h := h1 k16
      refine j_iconst (v := zI 0) d_In_extreme_148 (by decide) ?_
      exact j_sel [1, 2, 3, 4, 0, 5, 6] rfl h
    · have h := h2 k16
      refine j_iconst (v := zI 1) d_In_extreme_144 (by decide) ?_
      refine j_goto 149 d_In_extreme_145 (by decide) ?_
      exact j_sel [1, 2, 3, 4, 0, 5, 6] rfl h
set_option maxHeartbeats 2000000 in
theorem b_In_extreme_149 {ω : q_W} {σ : q_H} {Q : q_R → q_H → Prop} {d mc ms : Nat} {x1 : Int} {x2 : Int} {x3 : Int} {x4 : Int} {x5 : Int} {x6 : Int} {y0 : Int} {p : Nat} (hp : p = 16 ∨ p = 29) (r472 : q_r σ 47 2 = p) (hE : q_E σ) (h : (J ω m_In_verdict d 0 0 0 0 0 [(0, .ref 47), (1, .int (zI y0))] [] σ (q_ki (fun v τ => J ω m_In_extreme (d + 1) mc ms 0 0 152 [(0, .ref 47), (1, .int (zI x1)), (2, .int (zI x2)), (3, .int (zI x3)), (4, .int (zI x4)), (5, .int (zI x5)), (6, .int (zI x6))] [.int (zI v)] τ Q)))) : J ω m_In_extreme (d + 1) mc ms 0 0 149 [(0, .ref 47), (1, .int (zI x1)), (2, .int (zI x2)), (3, .int (zI x3)), (4, .int (zI x4)), (5, .int (zI x5)), (6, .int (zI x6))] [.int (zI y0), .ref 47] σ Q := by
  refine j_callV m_In_verdict [.int (zI y0)] [] d 0 0 cV_In_148 d_In_extreme_149 rfl rfl (tg_47 hE) (q_okE hE (by decide)) (Nat.le_of_ble_eq_true rfl) (Nat.le_refl _) (Nat.le_of_ble_eq_true rfl) (Nat.zero_le _) (Nat.zero_le _) h (fun v τ h => ?_) (fun x τ h => ?_)
  · obtain ⟨v, hv, e1, h⟩ := h; cases e1; exact j_sel [0, 1, 2, 3, 4, 5, 6] rfl h
  · obtain ⟨v, hv, e1, h⟩ := h; cases e1
set_option maxHeartbeats 2000000 in
theorem b_In_extreme_152 {ω : q_W} {σ : q_H} {Q : q_R → q_H → Prop} {d mc ms : Nat} {x1 : Int} {x2 : Int} {x3 : Int} {x4 : Int} {x5 : Int} {x6 : Int} {y0 : Int} {p : Nat} (hp : p = 16 ∨ p = 29) (r472 : q_r σ 47 2 = p) (hE : q_E σ) (h : inR x6 ∧ q_imp (x6 ≠ 0) ((J ω m_In_requireLess d 0 0 0 0 0 [(0, .ref 47), (1, .int (zI x1)), (2, .int (zI x2)), (3, .int (zI x6))] [] σ (q_kv (fun τ => J ω m_In_extreme (d + 1) mc ms 0 0 169 [(0, .ref 47), (1, .int (zI x1)), (2, .int (zI x2)), (3, .int (zI x3)), (4, .int (zI x4)), (5, .int (zI x5))] [] τ Q)))) ∧ q_imp (x6 = 0) ((J ω m_In_extreme (d + 1) mc ms 0 0 179 [(0, .ref 47), (4, .int (zI x4))] [] σ Q))) : J ω m_In_extreme (d + 1) mc ms 0 0 152 [(0, .ref 47), (1, .int (zI x1)), (2, .int (zI x2)), (3, .int (zI x3)), (4, .int (zI x4)), (5, .int (zI x5)), (6, .int (zI x6))] [.int (zI y0)] σ Q := by
  refine j_pop d_In_extreme_152 rfl ?_
  refine j_iload d_In_extreme_153 6 rfl ?_
  obtain ⟨r17, h⟩ := h
  obtain ⟨h1, h2⟩ := h
  refine zj_if_ne 161 d_In_extreme_155 (by decide) r17 (fun k18 => ?_) (fun k18 => ?_)
  · have h := h1 k18
    refine j_aload_n d_In_extreme_161 0 rfl ?_
    refine j_iload_n d_In_extreme_162 1 rfl ?_
    refine j_iload_n d_In_extreme_163 2 rfl ?_
    refine j_iload d_In_extreme_164 6 rfl ?_
    refine j_callV m_In_requireLess [.int (zI x1), .int (zI x2), .int (zI x6)] [] d 0 0 cV_In_152 d_In_extreme_166 rfl rfl (tg_47 hE) (q_okE hE (by decide)) (Nat.le_of_ble_eq_true rfl) (Nat.le_refl _) (Nat.le_of_ble_eq_true rfl) (Nat.zero_le _) (Nat.zero_le _) h (fun v τ h => ?_) (fun x τ h => ?_)
    · obtain ⟨e1, h⟩ := h; cases e1; exact j_sel [0, 1, 2, 3, 4, 5] rfl h
    · obtain ⟨e1, h⟩ := h; cases e1
  · have h := h2 k18
    refine j_goto 179 d_In_extreme_158 (by decide) ?_
    exact j_sel [0, 4] rfl h
set_option maxHeartbeats 2000000 in
theorem b_In_extreme_169 {ω : q_W} {σ : q_H} {Q : q_R → q_H → Prop} {d mc ms : Nat} {x1 : Int} {x2 : Int} {x3 : Int} {x4 : Int} {x5 : Int} {p : Nat} (hp : p = 16 ∨ p = 29) (r472 : q_r σ 47 2 = p) (hE : q_E σ) (h : (J ω m_In_look d 0 0 0 0 0 [(0, .ref 47)] [] σ (q_kv (fun τ => J ω m_In_extreme (d + 1) mc ms 0 0 173 [(0, .ref 47), (1, .int (zI x1)), (2, .int (zI x2)), (3, .int (zI x3)), (4, .int (zI x4)), (5, .int (zI x5))] [] τ Q)))) : J ω m_In_extreme (d + 1) mc ms 0 0 169 [(0, .ref 47), (1, .int (zI x1)), (2, .int (zI x2)), (3, .int (zI x3)), (4, .int (zI x4)), (5, .int (zI x5))] [] σ Q := by
  refine j_aload_n d_In_extreme_169 0 rfl ?_
  refine j_callV m_In_look [] [] d 0 0 cV_In_136 d_In_extreme_170 rfl rfl (tg_47 hE) (q_okE hE (by decide)) (Nat.le_of_ble_eq_true rfl) (Nat.le_refl _) (Nat.le_of_ble_eq_true rfl) (Nat.zero_le _) (Nat.zero_le _) h (fun v τ h => ?_) (fun x τ h => ?_)
  · obtain ⟨e1, h⟩ := h; cases e1; exact j_sel [0, 1, 2, 3, 4, 5] rfl h
  · obtain ⟨e1, h⟩ := h; cases e1
set_option maxHeartbeats 2000000 in
theorem b_In_extreme_173 {ω : q_W} {σ : q_H} {Q : q_R → q_H → Prop} {d mc ms : Nat} {x1 : Int} {x2 : Int} {x3 : Int} {x4 : Int} {x5 : Int} {p : Nat} (hp : p = 16 ∨ p = 29) (r472 : q_r σ 47 2 = p) (hE : q_E σ) (h : (J ω m_In_extreme (d + 1) mc ms 0 0 74 [(0, .ref 47), (1, .int (zI x1)), (2, .int (zI x2)), (3, .int (zI x3)), (4, .int (zI x4)), (5, .int (zI (x5 + 1)))] [] σ Q)) : J ω m_In_extreme (d + 1) mc ms 0 0 173 [(0, .ref 47), (1, .int (zI x1)), (2, .int (zI x2)), (3, .int (zI x3)), (4, .int (zI x4)), (5, .int (zI x5))] [] σ Q := by
  refine zj_iinc (L' := [(5, .int (zI (x5 + 1))), (0, .ref 47), (1, .int (zI x1)), (2, .int (zI x2)), (3, .int (zI x3)), (4, .int (zI x4))]) (x5 + 1) d_In_extreme_173 5 rfl (by omega) (by decide) rfl ?_
  refine j_goto 74 d_In_extreme_176 (by decide) ?_
  exact j_sel [1, 2, 3, 4, 5, 0] rfl h
set_option maxHeartbeats 2000000 in
theorem b_In_requireLess_0 {ω : q_W} {σ : q_H} {Q : q_R → q_H → Prop} {d mc ms : Nat} {x1 : Int} {x2 : Int} {x3 : Int} {p : Nat} (hp : p = 16 ∨ p = 29) (r472 : q_r σ 47 2 = p) (hE : q_E σ) (h : (J ω m_In_requireLess (d + 1) mc ms 0 0 8 [(0, .ref 47), (1, .int (zI x1)), (2, .int (zI x2)), (4, .int (zI (x3 - 1))), (5, .int (zI 0))] [] σ Q)) : J ω m_In_requireLess (d + 1) mc ms 0 0 0 [(0, .ref 47), (1, .int (zI x1)), (2, .int (zI x2)), (3, .int (zI x3))] [] σ Q := by
  refine j_iload_n d_In_requireLess_0 3 rfl ?_
  refine j_iconst (v := zI 1) d_In_requireLess_1 (by decide) ?_
  refine zj_isub (x3 - 1) (by omega) d_In_requireLess_2 ?_
  refine j_istore (L' := [(4, .int (zI (x3 - 1))), (0, .ref 47), (1, .int (zI x1)), (2, .int (zI x2)), (3, .int (zI x3))]) d_In_requireLess_3 (by decide) rfl ?_
  refine j_iconst (v := zI 0) d_In_requireLess_5 (by decide) ?_
  refine j_istore (L' := [(5, .int (zI 0)), (4, .int (zI (x3 - 1))), (0, .ref 47), (1, .int (zI x1)), (2, .int (zI x2)), (3, .int (zI x3))]) d_In_requireLess_6 (by decide) rfl ?_
  exact j_sel [2, 3, 4, 1, 0] rfl h
set_option maxHeartbeats 2000000 in
theorem b_In_requireLess_8 {ω : q_W} {σ : q_H} {Q : q_R → q_H → Prop} {d mc ms : Nat} {x1 : Int} {x2 : Int} {x4 : Int} {x5 : Int} {p : Nat} (hp : p = 16 ∨ p = 29) (r472 : q_r σ 47 2 = p) (hE : q_E σ) (h : (0 ≤ x1 ∧ x1 < 12) ∧ inR x5 ∧ q_imp (x5 ≥ (z σ (p + 3) x1.toNat)) ((Q (.inl none) σ)) ∧ q_imp (x5 < (z σ (p + 3) x1.toNat)) (q_imp ((zAnd (zShr x4 x5) 1) ≠ 0) ((J ω m_In_requireLess (d + 1) mc ms 0 0 8 [(0, .ref 47), (1, .int (zI x1)), (2, .int (zI x2)), (4, .int (zI x4)), (5, .int (zI (x5 + 1)))] [] σ Q)) ∧ q_imp ((zAnd (zShr x4 x5) 1) = 0) ((J ω m_In_requireLess (d + 1) mc ms 0 0 39 [(0, .ref 47), (1, .int (zI x1)), (2, .int (zI x2)), (4, .int (zI x4)), (5, .int (zI x5)), (6, .int (zI 0)), (7, .int (zI x5))] [] σ Q)))) : J ω m_In_requireLess (d + 1) mc ms 0 0 8 [(0, .ref 47), (1, .int (zI x1)), (2, .int (zI x2)), (4, .int (zI x4)), (5, .int (zI x5))] [] σ Q := by
  refine j_iload d_In_requireLess_8 4 rfl ?_
  refine j_aload_n d_In_requireLess_10 0 rfl ?_
  refine j_getR p f_In_42 d_In_requireLess_11 (tg_47 hE) (q_okE hE (by decide)) (r472) (by omega) ?_
  refine j_getR (p + 3) f_In_139 d_In_requireLess_14 (tY_p_0 hE hp) (q_okE hE (by omega)) (rY_p_5 hE hp) (by omega) ?_
  refine j_iload_n d_In_requireLess_17 1 rfl ?_
  obtain ⟨c1, h⟩ := h
  refine zj_iald (z σ (p + 3) x1.toNat) d_In_requireLess_18 (tY_p_3 hE hp) (q_okE hE (by omega)) c1 (by decide) (q_z _ _ _) ?_
  obtain ⟨r2, h⟩ := h
  obtain ⟨h1, h2⟩ := h
  refine zj_icmp_ge 125 d_In_requireLess_19 (by decide) r2 (z_R _ _ _) (fun k3 => ?_) (fun k3 => ?_)
  · have h := h1 k3
    exact j_vret d_In_requireLess_125 rfl (Nat.zero_le _) (Nat.zero_le _) h
  · have h := h2 k3
    refine j_iload d_In_requireLess_22 3 rfl ?_
    refine j_iload d_In_requireLess_24 4 rfl ?_
    refine zj_ishr d_In_requireLess_26 ?_
    refine j_iconst (v := zI 1) d_In_requireLess_27 (by decide) ?_
    refine zj_iand d_In_requireLess_28 ?_
    obtain ⟨h1, h2⟩ := h
    refine zj_if_ne 119 d_In_requireLess_29 (by decide) (inR_of _) (fun k4 => ?_) (fun k4 => ?_)
    · have h := h1 k4
      refine zj_iinc (L' := [(5, .int (zI (x5 + 1))), (0, .ref 47), (1, .int (zI x1)), (2, .int (zI x2)), (4, .int (zI x4))]) (x5 + 1) d_In_requireLess_119 4 rfl (by omega) (by decide) rfl ?_
      refine j_goto 8 d_In_requireLess_122 (by decide) ?_
      exact j_sel [1, 2, 3, 4, 0] rfl h
    · have h := h2 k4
      refine j_iconst (v := zI 0) d_In_requireLess_32 (by decide) ?_
      refine j_istore (L' := [(6, .int (zI 0)), (0, .ref 47), (1, .int (zI x1)), (2, .int (zI x2)), (4, .int (zI x4)), (5, .int (zI x5))]) d_In_requireLess_33 (by decide) rfl ?_
      refine j_iload d_In_requireLess_35 5 rfl ?_
      refine j_istore (L' := [(7, .int (zI x5)), (6, .int (zI 0)), (0, .ref 47), (1, .int (zI x1)), (2, .int (zI x2)), (4, .int (zI x4)), (5, .int (zI x5))]) d_In_requireLess_37 (by decide) rfl ?_
      exact j_sel [2, 3, 4, 5, 6, 1, 0] rfl h
set_option maxHeartbeats 2000000 in
theorem b_In_requireLess_39 {ω : q_W} {σ : q_H} {Q : q_R → q_H → Prop} {d mc ms : Nat} {x1 : Int} {x2 : Int} {x4 : Int} {x5 : Int} {x6 : Int} {x7 : Int} {p : Nat} (hp : p = 16 ∨ p = 29) (r472 : q_r σ 47 2 = p) (hE : q_E σ) (h : (0 ≤ x1 ∧ x1 < 12) ∧ inR x7 ∧ q_imp (x7 ≥ (z σ (p + 3) x1.toNat)) ((J ω m_So_require d 0 0 0 0 0 [(0, .ref 70), (1, .ref 93), (2, .int (zI x6))] [] σ (q_kv (fun τ => J ω m_In_requireLess (d + 1) mc ms 0 0 119 [(0, .ref 47), (1, .int (zI x1)), (2, .int (zI x2)), (4, .int (zI x4)), (5, .int (zI x5))] [] τ Q)))) ∧ q_imp (x7 < (z σ (p + 3) x1.toNat)) (inR x5 ∧ q_imp (x7 = x5) ((J ω m_In_requireLess (d + 1) mc ms 0 0 71 [(0, .ref 47), (1, .int (zI x1)), (2, .int (zI x2)), (4, .int (zI x4)), (5, .int (zI x5)), (6, .int (zI x6)), (7, .int (zI x7))] [] σ Q)) ∧ q_imp (x7 ≠ x5) (q_imp ((zAnd (zShr x4 x7) 1) ≠ 1) ((J ω m_In_requireLess (d + 1) mc ms 0 0 39 [(0, .ref 47), (1, .int (zI x1)), (2, .int (zI x2)), (4, .int (zI x4)), (5, .int (zI x5)), (6, .int (zI x6)), (7, .int (zI (x7 + 1)))] [] σ Q)) ∧ q_imp ((zAnd (zShr x4 x7) 1) = 1) ((J ω m_In_requireLess (d + 1) mc ms 0 0 71 [(0, .ref 47), (1, .int (zI x1)), (2, .int (zI x2)), (4, .int (zI x4)), (5, .int (zI x5)), (6, .int (zI x6)), (7, .int (zI x7))] [] σ Q))))) : J ω m_In_requireLess (d + 1) mc ms 0 0 39 [(0, .ref 47), (1, .int (zI x1)), (2, .int (zI x2)), (4, .int (zI x4)), (5, .int (zI x5)), (6, .int (zI x6)), (7, .int (zI x7))] [] σ Q := by
  refine j_iload d_In_requireLess_39 6 rfl ?_
  refine j_aload_n d_In_requireLess_41 0 rfl ?_
  refine j_getR p f_In_42 d_In_requireLess_42 (tg_47 hE) (q_okE hE (by decide)) (r472) (by omega) ?_
  refine j_getR (p + 3) f_In_139 d_In_requireLess_45 (tY_p_0 hE hp) (q_okE hE (by omega)) (rY_p_5 hE hp) (by omega) ?_
  refine j_iload_n d_In_requireLess_48 1 rfl ?_
  obtain ⟨c5, h⟩ := h
  refine zj_iald (z σ (p + 3) x1.toNat) d_In_requireLess_49 (tY_p_3 hE hp) (q_okE hE (by omega)) c5 (by decide) (q_z _ _ _) ?_
  obtain ⟨r6, h⟩ := h
  obtain ⟨h1, h2⟩ := h
  refine zj_icmp_ge 106 d_In_requireLess_50 (by decide) r6 (z_R _ _ _) (fun k7 => ?_) (fun k7 => ?_)
  · have h := h1 k7
    refine j_aload_n d_In_requireLess_106 0 rfl ?_
    refine j_getR 70 f_In_21 d_In_requireLess_107 (tg_47 hE) (q_okE hE (by decide)) (rf_47_1 hE) (by decide) ?_
    refine j_aload_n d_In_requireLess_110 0 rfl ?_
    refine j_getR 93 f_In_39 d_In_requireLess_111 (tg_47 hE) (q_okE hE (by decide)) (rf_47_9 hE) (by decide) ?_
    refine j_iload d_In_requireLess_114 5 rfl ?_
    refine j_callV m_So_require [.ref 93, .int (zI x6)] [] d 0 0 cV_In_107 d_In_requireLess_116 rfl rfl (tg_70 hE) (q_okE hE (by decide)) (Nat.le_of_ble_eq_true rfl) (Nat.le_refl _) (Nat.le_of_ble_eq_true rfl) (Nat.zero_le _) (Nat.zero_le _) h (fun v τ h => ?_) (fun x τ h => ?_)
    · obtain ⟨e1, h⟩ := h; cases e1; exact j_sel [0, 1, 2, 3, 4] rfl h
    · obtain ⟨e1, h⟩ := h; cases e1
  · have h := h2 k7
    refine j_iload d_In_requireLess_53 6 rfl ?_
    refine j_iload d_In_requireLess_55 4 rfl ?_
    obtain ⟨r8, h⟩ := h
    obtain ⟨h1, h2⟩ := h
    refine zj_icmp_eq 71 d_In_requireLess_57 (by decide) r6 r8 (fun k9 => ?_) (fun k9 => ?_)
    · have h := h1 k9
      exact j_sel [0, 1, 2, 3, 4, 5, 6] rfl h
    · have h := h2 k9
      refine j_iload d_In_requireLess_60 3 rfl ?_
      refine j_iload d_In_requireLess_62 6 rfl ?_
      refine zj_ishr d_In_requireLess_64 ?_
      refine j_iconst (v := zI 1) d_In_requireLess_65 (by decide) ?_
      refine zj_iand d_In_requireLess_66 ?_
      refine j_iconst (v := zI 1) d_In_requireLess_67 (by decide) ?_
      obtain ⟨h1, h2⟩ := h
      refine zj_icmp_ne 100 d_In_requireLess_68 (by decide) (inR_of _) ⟨by decide, by decide⟩ (fun k10 => ?_) (fun k10 => ?_)
      · have h := h1 k10
        refine zj_iinc (L' := [(7, .int (zI (x7 + 1))), (0, .ref 47), (1, .int (zI x1)), (2, .int (zI x2)), (4, .int (zI x4)), (5, .int (zI x5)), (6, .int (zI x6))]) (x7 + 1) d_In_requireLess_100 6 rfl (by omega) (by decide) rfl ?_
        refine j_goto 39 d_In_requireLess_103 (by decide) ?_
        exact j_sel [1, 2, 3, 4, 5, 6, 0] rfl h
      · have h := h2 k10
        exact j_sel [0, 1, 2, 3, 4, 5, 6] rfl h
set_option maxHeartbeats 2000000 in
theorem b_In_requireLess_119 {ω : q_W} {σ : q_H} {Q : q_R → q_H → Prop} {d mc ms : Nat} {x1 : Int} {x2 : Int} {x4 : Int} {x5 : Int} {p : Nat} (hp : p = 16 ∨ p = 29) (r472 : q_r σ 47 2 = p) (hE : q_E σ) (h : (J ω m_In_requireLess (d + 1) mc ms 0 0 8 [(0, .ref 47), (1, .int (zI x1)), (2, .int (zI x2)), (4, .int (zI x4)), (5, .int (zI (x5 + 1)))] [] σ Q)) : J ω m_In_requireLess (d + 1) mc ms 0 0 119 [(0, .ref 47), (1, .int (zI x1)), (2, .int (zI x2)), (4, .int (zI x4)), (5, .int (zI x5))] [] σ Q := by
  refine zj_iinc (L' := [(5, .int (zI (x5 + 1))), (0, .ref 47), (1, .int (zI x1)), (2, .int (zI x2)), (4, .int (zI x4))]) (x5 + 1) d_In_requireLess_119 4 rfl (by omega) (by decide) rfl ?_
  refine j_goto 8 d_In_requireLess_122 (by decide) ?_
  exact j_sel [1, 2, 3, 4, 0] rfl h
set_option maxHeartbeats 2000000 in
theorem b_In_requireLess_71 {ω : q_W} {σ : q_H} {Q : q_R → q_H → Prop} {d mc ms : Nat} {x1 : Int} {x2 : Int} {x4 : Int} {x5 : Int} {x6 : Int} {x7 : Int} {p : Nat} (hp : p = 16 ∨ p = 29) (r472 : q_r σ 47 2 = p) (hE : q_E σ) (h : (0 ≤ ((x1 * 8) + x7) ∧ ((x1 * 8) + x7) < 96) ∧ (0 ≤ x6 ∧ x6 < 12) ∧ (J ω m_In_requireLess (d + 1) mc ms 0 0 39 [(0, .ref 47), (1, .int (zI x1)), (2, .int (zI x2)), (4, .int (zI x4)), (5, .int (zI x5)), (6, .int (zI (x6 + 1))), (7, .int (zI (x7 + 1)))] [] (zs σ 93 x6.toNat (zXor (zXor (z σ 62 ((x1 * 8) + x7).toNat) x2) 1)) Q)) : J ω m_In_requireLess (d + 1) mc ms 0 0 71 [(0, .ref 47), (1, .int (zI x1)), (2, .int (zI x2)), (4, .int (zI x4)), (5, .int (zI x5)), (6, .int (zI x6)), (7, .int (zI x7))] [] σ Q := by
  refine j_aload_n d_In_requireLess_71 0 rfl ?_
  refine j_getR 93 f_In_39 d_In_requireLess_72 (tg_47 hE) (q_okE hE (by decide)) (rf_47_9 hE) (by decide) ?_
  refine j_iload d_In_requireLess_75 5 rfl ?_
  refine j_aload_n d_In_requireLess_77 0 rfl ?_
  refine j_getR 48 f_In_12 d_In_requireLess_78 (tg_47 hE) (q_okE hE (by decide)) (rf_47_0 hE) (by decide) ?_
  refine j_getR 62 f_In_87 d_In_requireLess_81 (tg_48 hE) (q_okE hE (by decide)) (rf_48_3 hE) (by decide) ?_
  refine j_iload_n d_In_requireLess_84 1 rfl ?_
  refine j_bipush (v := zI 8) d_In_requireLess_85 (by decide) ?_
  refine zj_imul (x1 * 8) rfl d_In_requireLess_87 ?_
  refine j_iload d_In_requireLess_88 6 rfl ?_
  refine zj_iadd ((x1 * 8) + x7) rfl d_In_requireLess_90 ?_
  obtain ⟨c11, h⟩ := h
  refine zj_iald (z σ 62 ((x1 * 8) + x7).toNat) d_In_requireLess_91 (tg_62 hE) (q_okE hE (by decide)) c11 (by decide) (q_z _ _ _) ?_
  refine j_iload_n d_In_requireLess_92 2 rfl ?_
  refine zj_ixor d_In_requireLess_93 ?_
  refine j_iconst (v := zI 1) d_In_requireLess_94 (by decide) ?_
  refine zj_ixor d_In_requireLess_95 ?_
  obtain ⟨c12, h⟩ := h
  refine zj_iast d_In_requireLess_96 (tg_93 hE) (q_okE hE (by decide)) c12 (by decide) ?_
  refine zj_iinc (L' := [(6, .int (zI (x6 + 1))), (0, .ref 47), (1, .int (zI x1)), (2, .int (zI x2)), (4, .int (zI x4)), (5, .int (zI x5)), (7, .int (zI x7))]) (x6 + 1) d_In_requireLess_97 5 rfl (by omega) (by decide) rfl ?_
  refine zj_iinc (L' := [(7, .int (zI (x7 + 1))), (6, .int (zI (x6 + 1))), (0, .ref 47), (1, .int (zI x1)), (2, .int (zI x2)), (4, .int (zI x4)), (5, .int (zI x5))]) (x7 + 1) d_In_requireLess_100 6 rfl (by omega) (by decide) rfl ?_
  refine j_goto 39 d_In_requireLess_103 (by decide) ?_
  exact j_sel [2, 3, 4, 5, 6, 1, 0] rfl h
set_option maxHeartbeats 2000000 in
theorem b_In_demandWorth_0 {ω : q_W} {σ : q_H} {Q : q_R → q_H → Prop} {d mc ms : Nat} {x1 : Int} {x2 : Int} {p : Nat} (hp : p = 16 ∨ p = 29) (r472 : q_r σ 47 2 = p) (hE : q_E σ) (h : inR x2 ∧ q_imp ((zAnd x2 (zShl 1 8 - 1)) = x2) ((J ω m_In_demandWorth (d + 1) mc ms 0 0 18 [(0, .ref 47), (1, .int (zI x1)), (2, .int (zI x2)), (3, .int (zI 0))] [] σ Q)) ∧ q_imp ((zAnd x2 (zShl 1 8 - 1)) ≠ x2) ((J ω m_In_demand d 0 0 0 0 0 [(0, .ref 47), (1, .int (zI 1))] [] σ (q_kv (fun τ => J ω m_In_demandWorth (d + 1) mc ms 0 0 16 [(0, .ref 47), (1, .int (zI x1)), (2, .int (zI x2))] [] τ Q))))) : J ω m_In_demandWorth (d + 1) mc ms 0 0 0 [(0, .ref 47), (1, .int (zI x1)), (2, .int (zI x2))] [] σ Q := by
  refine j_iload_n d_In_demandWorth_0 2 rfl ?_
  refine j_bipush (v := zI 8) d_In_demandWorth_1 (by decide) ?_
  refine j_callS m_H_mask [.int (zI 8)] [.int (zI x2)] 0 0 0 cS_In_80 d_In_demandWorth_3 rfl rfl (Nat.le_of_ble_eq_true rfl) (Nat.succ_le_succ (Nat.zero_le _)) (Nat.le_of_ble_eq_true rfl) (Nat.zero_le _) (Nat.zero_le _) (c_H_mask hE ⟨by decide, by decide⟩) (fun v τ h => ?_) (fun x τ h => absurd h.1 (by simp))
  obtain ⟨e1, e2⟩ := h; cases e1; rw [e2]
  refine zj_iand d_In_demandWorth_6 ?_
  refine j_iload_n d_In_demandWorth_7 2 rfl ?_
  obtain ⟨r1, h⟩ := h
  obtain ⟨h1, h2⟩ := h
  refine zj_icmp_eq 16 d_In_demandWorth_8 (by decide) (inR_of _) r1 (fun k2 => ?_) (fun k2 => ?_)
  · have h := h1 k2
    refine j_iconst (v := zI 0) d_In_demandWorth_16 (by decide) ?_
    refine j_istore_n (L' := [(3, .int (zI 0)), (0, .ref 47), (1, .int (zI x1)), (2, .int (zI x2))]) d_In_demandWorth_17 (by decide) rfl ?_
    exact j_sel [1, 2, 3, 0] rfl h
  · have h := h2 k2
    refine j_aload_n d_In_demandWorth_11 0 rfl ?_
    refine j_iconst (v := zI 1) d_In_demandWorth_12 (by decide) ?_
    refine j_callV m_In_demand [.int (zI 1)] [] d 0 0 cV_In_84 d_In_demandWorth_13 rfl rfl (tg_47 hE) (q_okE hE (by decide)) (Nat.le_of_ble_eq_true rfl) (Nat.le_refl _) (Nat.le_of_ble_eq_true rfl) (Nat.zero_le _) (Nat.zero_le _) h (fun v τ h => ?_) (fun x τ h => ?_)
    · obtain ⟨e1, h⟩ := h; cases e1; exact j_sel [0, 1, 2] rfl h
    · obtain ⟨e1, h⟩ := h; cases e1
set_option maxHeartbeats 2000000 in
theorem b_In_demandWorth_18 {ω : q_W} {σ : q_H} {Q : q_R → q_H → Prop} {d mc ms : Nat} {x1 : Int} {x2 : Int} {x3 : Int} {p : Nat} (hp : p = 16 ∨ p = 29) (r472 : q_r σ 47 2 = p) (hE : q_E σ) (h : inR x3 ∧ q_imp (x3 ≥ 8) ((Q (.inl none) σ)) ∧ q_imp (x3 < 8) ((0 ≤ ((x1 * 8) + x3) ∧ ((x1 * 8) + x3) < 96) ∧ (J ω m_In_demand d 0 0 0 0 0 [(0, .ref 47), (1, .int (zI (zXor (zXor (z σ 62 ((x1 * 8) + x3).toNat) (zAnd (zShr x2 x3) 1)) 1)))] [] σ (q_kv (fun τ => J ω m_In_demandWorth (d + 1) mc ms 0 0 50 [(0, .ref 47), (1, .int (zI x1)), (2, .int (zI x2)), (3, .int (zI x3))] [] τ Q))))) : J ω m_In_demandWorth (d + 1) mc ms 0 0 18 [(0, .ref 47), (1, .int (zI x1)), (2, .int (zI x2)), (3, .int (zI x3))] [] σ Q := by
  refine j_iload_n d_In_demandWorth_18 3 rfl ?_
  refine j_bipush (v := zI 8) d_In_demandWorth_19 (by decide) ?_
  obtain ⟨r3, h⟩ := h
  obtain ⟨h1, h2⟩ := h
  refine zj_icmp_ge 56 d_In_demandWorth_21 (by decide) r3 ⟨by decide, by decide⟩ (fun k4 => ?_) (fun k4 => ?_)
  · have h := h1 k4
    exact j_vret d_In_demandWorth_56 rfl (Nat.zero_le _) (Nat.zero_le _) h
  · have h := h2 k4
    refine j_aload_n d_In_demandWorth_24 0 rfl ?_
    refine j_aload_n d_In_demandWorth_25 0 rfl ?_
    refine j_getR 48 f_In_12 d_In_demandWorth_26 (tg_47 hE) (q_okE hE (by decide)) (rf_47_0 hE) (by decide) ?_
    refine j_getR 62 f_In_87 d_In_demandWorth_29 (tg_48 hE) (q_okE hE (by decide)) (rf_48_3 hE) (by decide) ?_
    refine j_iload_n d_In_demandWorth_32 1 rfl ?_
    refine j_bipush (v := zI 8) d_In_demandWorth_33 (by decide) ?_
    refine zj_imul (x1 * 8) rfl d_In_demandWorth_35 ?_
    refine j_iload_n d_In_demandWorth_36 3 rfl ?_
    refine zj_iadd ((x1 * 8) + x3) rfl d_In_demandWorth_37 ?_
    obtain ⟨c5, h⟩ := h
    refine zj_iald (z σ 62 ((x1 * 8) + x3).toNat) d_In_demandWorth_38 (tg_62 hE) (q_okE hE (by decide)) c5 (by decide) (q_z _ _ _) ?_
    refine j_iload_n d_In_demandWorth_39 2 rfl ?_
    refine j_iload_n d_In_demandWorth_40 3 rfl ?_
    refine zj_ishr d_In_demandWorth_41 ?_
    refine j_iconst (v := zI 1) d_In_demandWorth_42 (by decide) ?_
    refine zj_iand d_In_demandWorth_43 ?_
    refine zj_ixor d_In_demandWorth_44 ?_
    refine j_iconst (v := zI 1) d_In_demandWorth_45 (by decide) ?_
    refine zj_ixor d_In_demandWorth_46 ?_
    refine j_callV m_In_demand [.int (zI (zXor (zXor (z σ 62 ((x1 * 8) + x3).toNat) (zAnd (zShr x2 x3) 1)) 1))] [] d 0 0 cV_In_84 d_In_demandWorth_47 rfl rfl (tg_47 hE) (q_okE hE (by decide)) (Nat.le_of_ble_eq_true rfl) (Nat.le_refl _) (Nat.le_of_ble_eq_true rfl) (Nat.zero_le _) (Nat.zero_le _) h (fun v τ h => ?_) (fun x τ h => ?_)
    · obtain ⟨e1, h⟩ := h; cases e1; exact j_sel [0, 1, 2, 3] rfl h
    · obtain ⟨e1, h⟩ := h; cases e1
set_option maxHeartbeats 2000000 in
theorem b_In_demandWorth_16 {ω : q_W} {σ : q_H} {Q : q_R → q_H → Prop} {d mc ms : Nat} {x1 : Int} {x2 : Int} {p : Nat} (hp : p = 16 ∨ p = 29) (r472 : q_r σ 47 2 = p) (hE : q_E σ) (h : (J ω m_In_demandWorth (d + 1) mc ms 0 0 18 [(0, .ref 47), (1, .int (zI x1)), (2, .int (zI x2)), (3, .int (zI 0))] [] σ Q)) : J ω m_In_demandWorth (d + 1) mc ms 0 0 16 [(0, .ref 47), (1, .int (zI x1)), (2, .int (zI x2))] [] σ Q := by
  refine j_iconst (v := zI 0) d_In_demandWorth_16 (by decide) ?_
  refine j_istore_n (L' := [(3, .int (zI 0)), (0, .ref 47), (1, .int (zI x1)), (2, .int (zI x2))]) d_In_demandWorth_17 (by decide) rfl ?_
  exact j_sel [1, 2, 3, 0] rfl h
set_option maxHeartbeats 2000000 in
theorem b_In_demandWorth_50 {ω : q_W} {σ : q_H} {Q : q_R → q_H → Prop} {d mc ms : Nat} {x1 : Int} {x2 : Int} {x3 : Int} {p : Nat} (hp : p = 16 ∨ p = 29) (r472 : q_r σ 47 2 = p) (hE : q_E σ) (h : (J ω m_In_demandWorth (d + 1) mc ms 0 0 18 [(0, .ref 47), (1, .int (zI x1)), (2, .int (zI x2)), (3, .int (zI (x3 + 1)))] [] σ Q)) : J ω m_In_demandWorth (d + 1) mc ms 0 0 50 [(0, .ref 47), (1, .int (zI x1)), (2, .int (zI x2)), (3, .int (zI x3))] [] σ Q := by
  refine zj_iinc (L' := [(3, .int (zI (x3 + 1))), (0, .ref 47), (1, .int (zI x1)), (2, .int (zI x2))]) (x3 + 1) d_In_demandWorth_50 3 rfl (by omega) (by decide) rfl ?_
  refine j_goto 18 d_In_demandWorth_53 (by decide) ?_
  exact j_sel [1, 2, 3, 0] rfl h
set_option maxHeartbeats 2000000 in
theorem b_In_tally_0 {ω : q_W} {σ : q_H} {Q : q_R → q_H → Prop} {d mc ms : Nat}  {p : Nat} (hp : p = 16 ∨ p = 29) (r472 : q_r σ 47 2 = p) (hE : q_E σ) (h : (J ω m_In_open d 0 0 0 0 0 [(0, .ref 47)] [] σ (q_kv (fun τ => J ω m_In_tally (d + 1) mc ms 0 0 4 [(0, .ref 47)] [] τ Q)))) : J ω m_In_tally (d + 1) mc ms 0 0 0 [(0, .ref 47)] [] σ Q := by
  refine j_aload_n d_In_tally_0 0 rfl ?_
  refine j_callV m_In_open [] [] d 0 0 cV_In_127 d_In_tally_1 rfl rfl (tg_47 hE) (q_okE hE (by decide)) (Nat.le_of_ble_eq_true rfl) (Nat.le_refl _) (Nat.le_of_ble_eq_true rfl) (Nat.zero_le _) (Nat.zero_le _) h (fun v τ h => ?_) (fun x τ h => ?_)
  · obtain ⟨e1, h⟩ := h; cases e1; exact j_sel [0] rfl h
  · obtain ⟨e1, h⟩ := h; cases e1
set_option maxHeartbeats 2000000 in
theorem b_In_tally_4 {ω : q_W} {σ : q_H} {Q : q_R → q_H → Prop} {d mc ms : Nat}  {p : Nat} (hp : p = 16 ∨ p = 29) (r472 : q_r σ 47 2 = p) (hE : q_E σ) (h : (J ω m_In_demand d 0 0 0 0 0 [(0, .ref 47), (1, .int (zI (z σ 48 4)))] [] σ (q_kv (fun τ => J ω m_In_tally (d + 1) mc ms 0 0 15 [(0, .ref 47)] [] τ Q)))) : J ω m_In_tally (d + 1) mc ms 0 0 4 [(0, .ref 47)] [] σ Q := by
  refine j_aload_n d_In_tally_4 0 rfl ?_
  refine j_aload_n d_In_tally_5 0 rfl ?_
  refine j_getR 48 f_In_12 d_In_tally_6 (tg_47 hE) (q_okE hE (by decide)) (rf_47_0 hE) (by decide) ?_
  refine zj_getI (z σ 48 4) f_In_130 d_In_tally_9 (tg_48 hE) (q_okE hE (by decide)) (q_z _ _ _) ?_
  refine j_callV m_In_demand [.int (zI (z σ 48 4))] [] d 0 0 cV_In_84 d_In_tally_12 rfl rfl (tg_47 hE) (q_okE hE (by decide)) (Nat.le_of_ble_eq_true rfl) (Nat.le_refl _) (Nat.le_of_ble_eq_true rfl) (Nat.zero_le _) (Nat.zero_le _) h (fun v τ h => ?_) (fun x τ h => ?_)
  · obtain ⟨e1, h⟩ := h; cases e1; exact j_sel [0] rfl h
  · obtain ⟨e1, h⟩ := h; cases e1
set_option maxHeartbeats 2000000 in
theorem b_In_tally_15 {ω : q_W} {σ : q_H} {Q : q_R → q_H → Prop} {d mc ms : Nat}  {p : Nat} (hp : p = 16 ∨ p = 29) (r472 : q_r σ 47 2 = p) (hE : q_E σ) (h : (J ω m_In_pose d 0 0 0 0 0 [(0, .ref 47)] [] σ (q_kv (fun τ => J ω m_In_tally (d + 1) mc ms 0 0 19 [(0, .ref 47)] [] τ Q)))) : J ω m_In_tally (d + 1) mc ms 0 0 15 [(0, .ref 47)] [] σ Q := by
  refine j_aload_n d_In_tally_15 0 rfl ?_
  refine j_callV m_In_pose [] [] d 0 0 cV_In_133 d_In_tally_16 rfl rfl (tg_47 hE) (q_okE hE (by decide)) (Nat.le_of_ble_eq_true rfl) (Nat.le_refl _) (Nat.le_of_ble_eq_true rfl) (Nat.zero_le _) (Nat.zero_le _) h (fun v τ h => ?_) (fun x τ h => ?_)
  · obtain ⟨e1, h⟩ := h; cases e1; exact j_sel [0] rfl h
  · obtain ⟨e1, h⟩ := h; cases e1
set_option maxHeartbeats 2000000 in
theorem b_In_tally_19 {ω : q_W} {σ : q_H} {Q : q_R → q_H → Prop} {d mc ms : Nat}  {p : Nat} (hp : p = 16 ∨ p = 29) (r472 : q_r σ 47 2 = p) (hE : q_E σ) (h : (J ω m_In_look d 0 0 0 0 0 [(0, .ref 47)] [] σ (q_kv (fun τ => J ω m_In_tally (d + 1) mc ms 0 0 23 [(0, .ref 47)] [] τ Q)))) : J ω m_In_tally (d + 1) mc ms 0 0 19 [(0, .ref 47)] [] σ Q := by
  refine j_aload_n d_In_tally_19 0 rfl ?_
  refine j_callV m_In_look [] [] d 0 0 cV_In_136 d_In_tally_20 rfl rfl (tg_47 hE) (q_okE hE (by decide)) (Nat.le_of_ble_eq_true rfl) (Nat.le_refl _) (Nat.le_of_ble_eq_true rfl) (Nat.zero_le _) (Nat.zero_le _) h (fun v τ h => ?_) (fun x τ h => ?_)
  · obtain ⟨e1, h⟩ := h; cases e1; exact j_sel [0] rfl h
  · obtain ⟨e1, h⟩ := h; cases e1
set_option maxHeartbeats 2000000 in
theorem b_In_tally_23 {ω : q_W} {σ : q_H} {Q : q_R → q_H → Prop} {d mc ms : Nat}  {p : Nat} (hp : p = 16 ∨ p = 29) (r472 : q_r σ 47 2 = p) (hE : q_E σ) (h : q_imp ((z σ 87 0) ≠ 0) ((J ω m_In_verdict d 0 0 0 0 0 [(0, .ref 47), (1, .int (zI 0))] [] σ (q_ki (fun v τ => J ω m_In_tally (d + 1) mc ms 0 0 42 [(0, .ref 47)] [.int (zI v)] τ Q)))) ∧ q_imp ((z σ 87 0) = 0) ((J ω m_In_verdict d 0 0 0 0 0 [(0, .ref 47), (1, .int (zI 1))] [] σ (q_ki (fun v τ => J ω m_In_tally (d + 1) mc ms 0 0 42 [(0, .ref 47)] [.int (zI v)] τ Q))))) : J ω m_In_tally (d + 1) mc ms 0 0 23 [(0, .ref 47)] [] σ Q := by
  refine j_aload_n d_In_tally_23 0 rfl ?_
  refine j_aload_n d_In_tally_24 0 rfl ?_
  refine j_getR 87 f_In_28 d_In_tally_25 (tg_47 hE) (q_okE hE (by decide)) (rf_47_3 hE) (by decide) ?_
  refine zj_getI (z σ 87 0) f_In_142 d_In_tally_28 (tg_87 hE) (q_okE hE (by decide)) (q_z _ _ _) ?_
  obtain ⟨h1, h2⟩ := h
  refine zj_if_ne 38 d_In_tally_31 (by decide) (z_R _ _ _) (fun k1 => ?_) (fun k1 => ?_)
  · have h := h1 k1
    refine j_iconst (v := zI 0) d_In_tally_38 (by decide) ?_
    refine j_callV m_In_verdict [.int (zI 0)] [] d 0 0 cV_In_148 d_In_tally_39 rfl rfl (tg_47 hE) (q_okE hE (by decide)) (Nat.le_of_ble_eq_true rfl) (Nat.le_refl _) (Nat.le_of_ble_eq_true rfl) (Nat.zero_le _) (Nat.zero_le _) h (fun v τ h => ?_) (fun x τ h => ?_)
    · obtain ⟨v, hv, e1, h⟩ := h; cases e1; exact j_sel [0] rfl h
    · obtain ⟨v, hv, e1, h⟩ := h; cases e1
  · have h := h2 k1
    refine j_iconst (v := zI 1) d_In_tally_34 (by decide) ?_
    refine j_goto 39 d_In_tally_35 (by decide) ?_
    refine j_callV m_In_verdict [.int (zI 1)] [] d 0 0 cV_In_148 d_In_tally_39 rfl rfl (tg_47 hE) (q_okE hE (by decide)) (Nat.le_of_ble_eq_true rfl) (Nat.le_refl _) (Nat.le_of_ble_eq_true rfl) (Nat.zero_le _) (Nat.zero_le _) h (fun v τ h => ?_) (fun x τ h => ?_)
    · obtain ⟨v, hv, e1, h⟩ := h; cases e1; exact j_sel [0] rfl h
    · obtain ⟨v, hv, e1, h⟩ := h; cases e1
set_option maxHeartbeats 2000000 in
theorem b_In_tally_42 {ω : q_W} {σ : q_H} {Q : q_R → q_H → Prop} {d mc ms : Nat} {y0 : Int} {p : Nat} (hp : p = 16 ∨ p = 29) (r472 : q_r σ 47 2 = p) (hE : q_E σ) (h : (J ω m_In_tally (d + 1) mc ms 0 0 45 [(0, .ref 47), (1, .int (zI y0)), (2, .int (zI 1))] [] σ Q)) : J ω m_In_tally (d + 1) mc ms 0 0 42 [(0, .ref 47)] [.int (zI y0)] σ Q := by
  refine j_istore_n (L' := [(1, .int (zI y0)), (0, .ref 47)]) d_In_tally_42 (by decide) rfl ?_
  refine j_iconst (v := zI 1) d_In_tally_43 (by decide) ?_
  refine j_istore_n (L' := [(2, .int (zI 1)), (1, .int (zI y0)), (0, .ref 47)]) d_In_tally_44 (by decide) rfl ?_
  exact j_sel [2, 1, 0] rfl h
set_option maxHeartbeats 2000000 in
theorem b_In_tally_45 {ω : q_W} {σ : q_H} {Q : q_R → q_H → Prop} {d mc ms : Nat} {x1 : Int} {x2 : Int} {p : Nat} (hp : p = 16 ∨ p = 29) (r472 : q_r σ 47 2 = p) (hE : q_E σ) (h : inR x2 ∧ q_imp (x2 ≥ 20) ((Q (.inl (some (.int (zI x1)))) (zs σ 47 5 0))) ∧ q_imp (x2 < 20) (q_imp ((z σ 47 5) = 0) ((Q (.inl (some (.int (zI x1)))) (zs σ 47 5 0))) ∧ q_imp ((z σ 47 5) ≠ 0) ((J ω m_In_requireOther d 0 0 0 0 0 [(0, .ref 47)] [] σ (q_kv (fun τ => J ω m_In_tally (d + 1) mc ms 0 0 62 [(0, .ref 47), (1, .int (zI x1)), (2, .int (zI x2))] [] τ Q)))))) : J ω m_In_tally (d + 1) mc ms 0 0 45 [(0, .ref 47), (1, .int (zI x1)), (2, .int (zI x2))] [] σ Q := by
  refine j_iload_n d_In_tally_45 2 rfl ?_
  refine j_bipush (v := zI 20) d_In_tally_46 (by decide) ?_
  obtain ⟨r2, h⟩ := h
  obtain ⟨h1, h2⟩ := h
  refine zj_icmp_ge 94 d_In_tally_48 (by decide) r2 ⟨by decide, by decide⟩ (fun k3 => ?_) (fun k3 => ?_)
  · have h := h1 k3
    refine j_aload_n d_In_tally_94 0 rfl ?_
    refine j_iconst (v := zI 0) d_In_tally_95 (by decide) ?_
    refine zj_putZ (g_In_46 _) d_In_tally_96 (tg_47 hE) (q_okE hE (by decide)) (by decide) ?_
    refine j_iload_n d_In_tally_99 1 rfl ?_
    exact zj_iret d_In_tally_100 rfl (Nat.zero_le _) (Nat.zero_le _) h
  · have h := h2 k3
    refine j_aload_n d_In_tally_51 0 rfl ?_
    refine zj_getZ (z σ 47 5) f_In_46 d_In_tally_52 (tg_47 hE) (q_okE hE (by decide)) (q_z _ _ _) ?_
    obtain ⟨h1, h2⟩ := h
    refine zj_if_eq 94 d_In_tally_55 (by decide) (z_R _ _ _) (fun k4 => ?_) (fun k4 => ?_)
    · have h := h1 k4
      refine j_aload_n d_In_tally_94 0 rfl ?_
      refine j_iconst (v := zI 0) d_In_tally_95 (by decide) ?_
      refine zj_putZ (g_In_46 _) d_In_tally_96 (tg_47 hE) (q_okE hE (by decide)) (by decide) ?_
      refine j_iload_n d_In_tally_99 1 rfl ?_
      exact zj_iret d_In_tally_100 rfl (Nat.zero_le _) (Nat.zero_le _) h
    · have h := h2 k4
      refine j_aload_n d_In_tally_58 0 rfl ?_
      refine j_callV m_In_requireOther [] [] d 0 0 cV_In_156 d_In_tally_59 rfl rfl (tg_47 hE) (q_okE hE (by decide)) (Nat.le_of_ble_eq_true rfl) (Nat.le_refl _) (Nat.le_of_ble_eq_true rfl) (Nat.zero_le _) (Nat.zero_le _) h (fun v τ h => ?_) (fun x τ h => ?_)
      · obtain ⟨e1, h⟩ := h; cases e1; exact j_sel [0, 1, 2] rfl h
      · obtain ⟨e1, h⟩ := h; cases e1
set_option maxHeartbeats 2000000 in
theorem b_In_tally_62 {ω : q_W} {σ : q_H} {Q : q_R → q_H → Prop} {d mc ms : Nat} {x1 : Int} {x2 : Int} {p : Nat} (hp : p = 16 ∨ p = 29) (r472 : q_r σ 47 2 = p) (hE : q_E σ) (h : (J ω m_In_look d 0 0 0 0 0 [(0, .ref 47)] [] σ (q_kv (fun τ => J ω m_In_tally (d + 1) mc ms 0 0 66 [(0, .ref 47), (1, .int (zI x1)), (2, .int (zI x2))] [] τ Q)))) : J ω m_In_tally (d + 1) mc ms 0 0 62 [(0, .ref 47), (1, .int (zI x1)), (2, .int (zI x2))] [] σ Q := by
  refine j_aload_n d_In_tally_62 0 rfl ?_
  refine j_callV m_In_look [] [] d 0 0 cV_In_136 d_In_tally_63 rfl rfl (tg_47 hE) (q_okE hE (by decide)) (Nat.le_of_ble_eq_true rfl) (Nat.le_refl _) (Nat.le_of_ble_eq_true rfl) (Nat.zero_le _) (Nat.zero_le _) h (fun v τ h => ?_) (fun x τ h => ?_)
  · obtain ⟨e1, h⟩ := h; cases e1; exact j_sel [0, 1, 2] rfl h
  · obtain ⟨e1, h⟩ := h; cases e1
set_option maxHeartbeats 2000000 in
theorem b_In_tally_66 {ω : q_W} {σ : q_H} {Q : q_R → q_H → Prop} {d mc ms : Nat} {x1 : Int} {x2 : Int} {p : Nat} (hp : p = 16 ∨ p = 29) (r472 : q_r σ 47 2 = p) (hE : q_E σ) (h : q_imp ((z σ 87 0) ≠ 0) ((J ω m_In_verdict d 0 0 0 0 0 [(0, .ref 47), (1, .int (zI 0))] [] σ (q_ki (fun v τ => J ω m_In_tally (d + 1) mc ms 0 0 86 [(0, .ref 47), (2, .int (zI x2))] [.int (zI v), .int (zI x1)] τ Q)))) ∧ q_imp ((z σ 87 0) = 0) ((J ω m_In_verdict d 0 0 0 0 0 [(0, .ref 47), (1, .int (zI 1))] [] σ (q_ki (fun v τ => J ω m_In_tally (d + 1) mc ms 0 0 86 [(0, .ref 47), (2, .int (zI x2))] [.int (zI v), .int (zI x1)] τ Q))))) : J ω m_In_tally (d + 1) mc ms 0 0 66 [(0, .ref 47), (1, .int (zI x1)), (2, .int (zI x2))] [] σ Q := by
  refine j_iload_n d_In_tally_66 1 rfl ?_
  refine j_aload_n d_In_tally_67 0 rfl ?_
  refine j_aload_n d_In_tally_68 0 rfl ?_
  refine j_getR 87 f_In_28 d_In_tally_69 (tg_47 hE) (q_okE hE (by decide)) (rf_47_3 hE) (by decide) ?_
  refine zj_getI (z σ 87 0) f_In_142 d_In_tally_72 (tg_87 hE) (q_okE hE (by decide)) (q_z _ _ _) ?_
  obtain ⟨h1, h2⟩ := h
  refine zj_if_ne 82 d_In_tally_75 (by decide) (z_R _ _ _) (fun k5 => ?_) (fun k5 => ?_)
  · have h := h1 k5
    refine j_iconst (v := zI 0) d_In_tally_82 (by decide) ?_
    refine j_callV m_In_verdict [.int (zI 0)] [.int (zI x1)] d 0 0 cV_In_148 d_In_tally_83 rfl rfl (tg_47 hE) (q_okE hE (by decide)) (Nat.le_of_ble_eq_true rfl) (Nat.le_refl _) (Nat.le_of_ble_eq_true rfl) (Nat.zero_le _) (Nat.zero_le _) h (fun v τ h => ?_) (fun x τ h => ?_)
    · obtain ⟨v, hv, e1, h⟩ := h; cases e1; exact j_sel [0, 2] rfl h
    · obtain ⟨v, hv, e1, h⟩ := h; cases e1
  · have h := h2 k5
    refine j_iconst (v := zI 1) d_In_tally_78 (by decide) ?_
    refine j_goto 83 d_In_tally_79 (by decide) ?_
    refine j_callV m_In_verdict [.int (zI 1)] [.int (zI x1)] d 0 0 cV_In_148 d_In_tally_83 rfl rfl (tg_47 hE) (q_okE hE (by decide)) (Nat.le_of_ble_eq_true rfl) (Nat.le_refl _) (Nat.le_of_ble_eq_true rfl) (Nat.zero_le _) (Nat.zero_le _) h (fun v τ h => ?_) (fun x τ h => ?_)
    · obtain ⟨v, hv, e1, h⟩ := h; cases e1; exact j_sel [0, 2] rfl h
    · obtain ⟨v, hv, e1, h⟩ := h; cases e1
set_option maxHeartbeats 2000000 in
theorem b_In_tally_86 {ω : q_W} {σ : q_H} {Q : q_R → q_H → Prop} {d mc ms : Nat} {x2 : Int} {y0 : Int} {y1 : Int} {p : Nat} (hp : p = 16 ∨ p = 29) (r472 : q_r σ 47 2 = p) (hE : q_E σ) (h : (J ω m_In_tally (d + 1) mc ms 0 0 45 [(0, .ref 47), (1, .int (zI (y1 + y0))), (2, .int (zI (x2 + 1)))] [] σ Q)) : J ω m_In_tally (d + 1) mc ms 0 0 86 [(0, .ref 47), (2, .int (zI x2))] [.int (zI y0), .int (zI y1)] σ Q := by
  refine zj_iadd (y1 + y0) rfl d_In_tally_86 ?_
  refine j_istore_n (L' := [(1, .int (zI (y1 + y0))), (0, .ref 47), (2, .int (zI x2))]) d_In_tally_87 (by decide) rfl ?_
  refine zj_iinc (L' := [(2, .int (zI (x2 + 1))), (1, .int (zI (y1 + y0))), (0, .ref 47)]) (x2 + 1) d_In_tally_88 2 rfl (by omega) (by decide) rfl ?_
  refine j_goto 45 d_In_tally_91 (by decide) ?_
  exact j_sel [2, 1, 0] rfl h
set_option maxHeartbeats 2000000 in
theorem b_In_requireOther_0 {ω : q_W} {σ : q_H} {Q : q_R → q_H → Prop} {d mc ms : Nat}  {p : Nat} (hp : p = 16 ∨ p = 29) (r472 : q_r σ 47 2 = p) (hE : q_E σ) (h : (J ω m_In_requireOther (d + 1) mc ms 0 0 4 [(0, .ref 47), (1, .int (zI 0)), (2, .int (zI 0))] [] σ Q)) : J ω m_In_requireOther (d + 1) mc ms 0 0 0 [(0, .ref 47)] [] σ Q := by
  refine j_iconst (v := zI 0) d_In_requireOther_0 (by decide) ?_
  refine j_istore_n (L' := [(1, .int (zI 0)), (0, .ref 47)]) d_In_requireOther_1 (by decide) rfl ?_
  refine j_iconst (v := zI 0) d_In_requireOther_2 (by decide) ?_
  refine j_istore_n (L' := [(2, .int (zI 0)), (1, .int (zI 0)), (0, .ref 47)]) d_In_requireOther_3 (by decide) rfl ?_
  exact j_sel [2, 1, 0] rfl h
set_option maxHeartbeats 2000000 in
theorem b_In_requireOther_4 {ω : q_W} {σ : q_H} {Q : q_R → q_H → Prop} {d mc ms : Nat} {x1 : Int} {x2 : Int} {p : Nat} (hp : p = 16 ∨ p = 29) (r472 : q_r σ 47 2 = p) (hE : q_E σ) (h : inR x2 ∧ q_imp (x2 ≥ (z σ p 0)) ((J ω m_So_require d 0 0 0 0 0 [(0, .ref 70), (1, .ref 93), (2, .int (zI x1))] [] σ (q_kv (fun τ => J ω m_In_requireOther (d + 1) mc ms 0 0 100 [] [] τ Q)))) ∧ q_imp (x2 < (z σ p 0)) ((J ω m_In_requireOther (d + 1) mc ms 0 0 17 [(0, .ref 47), (1, .int (zI x1)), (2, .int (zI x2)), (3, .int (zI 0))] [] σ Q))) : J ω m_In_requireOther (d + 1) mc ms 0 0 4 [(0, .ref 47), (1, .int (zI x1)), (2, .int (zI x2))] [] σ Q := by
  refine j_iload_n d_In_requireOther_4 2 rfl ?_
  refine j_aload_n d_In_requireOther_5 0 rfl ?_
  refine j_getR p f_In_42 d_In_requireOther_6 (tg_47 hE) (q_okE hE (by decide)) (r472) (by omega) ?_
  refine zj_getI (z σ p 0) f_In_94 d_In_requireOther_9 (tY_p_0 hE hp) (q_okE hE (by omega)) (q_z _ _ _) ?_
  obtain ⟨r1, h⟩ := h
  obtain ⟨h1, h2⟩ := h
  refine zj_icmp_ge 88 d_In_requireOther_12 (by decide) r1 (z_R _ _ _) (fun k2 => ?_) (fun k2 => ?_)
  · have h := h1 k2
    refine j_aload_n d_In_requireOther_88 0 rfl ?_
    refine j_getR 70 f_In_21 d_In_requireOther_89 (tg_47 hE) (q_okE hE (by decide)) (rf_47_1 hE) (by decide) ?_
    refine j_aload_n d_In_requireOther_92 0 rfl ?_
    refine j_getR 93 f_In_39 d_In_requireOther_93 (tg_47 hE) (q_okE hE (by decide)) (rf_47_9 hE) (by decide) ?_
    refine j_iload_n d_In_requireOther_96 1 rfl ?_
    refine j_callV m_So_require [.ref 93, .int (zI x1)] [] d 0 0 cV_In_107 d_In_requireOther_97 rfl rfl (tg_70 hE) (q_okE hE (by decide)) (Nat.le_of_ble_eq_true rfl) (Nat.le_refl _) (Nat.le_of_ble_eq_true rfl) (Nat.zero_le _) (Nat.zero_le _) h (fun v τ h => ?_) (fun x τ h => ?_)
    · obtain ⟨e1, h⟩ := h; cases e1; exact j_sel [] rfl h
    · obtain ⟨e1, h⟩ := h; cases e1
  · have h := h2 k2
    refine j_iconst (v := zI 0) d_In_requireOther_15 (by decide) ?_
    refine j_istore_n (L' := [(3, .int (zI 0)), (0, .ref 47), (1, .int (zI x1)), (2, .int (zI x2))]) d_In_requireOther_16 (by decide) rfl ?_
    exact j_sel [1, 2, 3, 0] rfl h
set_option maxHeartbeats 2000000 in
theorem b_In_requireOther_100 {ω : q_W} {σ : q_H} {Q : q_R → q_H → Prop} {d mc ms : Nat}  {p : Nat} (hp : p = 16 ∨ p = 29) (r472 : q_r σ 47 2 = p) (hE : q_E σ) (h : (Q (.inl none) σ)) : J ω m_In_requireOther (d + 1) mc ms 0 0 100 [] [] σ Q := by
  exact j_vret d_In_requireOther_100 rfl (Nat.zero_le _) (Nat.zero_le _) h
set_option maxHeartbeats 2000000 in
theorem b_In_requireOther_17 {ω : q_W} {σ : q_H} {Q : q_R → q_H → Prop} {d mc ms : Nat} {x1 : Int} {x2 : Int} {x3 : Int} {p : Nat} (hp : p = 16 ∨ p = 29) (r472 : q_r σ 47 2 = p) (hE : q_E σ) (h : (0 ≤ x2 ∧ x2 < 12) ∧ inR x3 ∧ q_imp (x3 ≥ (z σ (p + 1) x2.toNat)) ((J ω m_In_requireOther (d + 1) mc ms 0 0 4 [(0, .ref 47), (1, .int (zI x1)), (2, .int (zI (x2 + 1)))] [] σ Q)) ∧ q_imp (x3 < (z σ (p + 1) x2.toNat)) ((0 ≤ ((x2 * 8) + x3) ∧ ((x2 * 8) + x3) < 96) ∧ (J ω m_So_holds d 0 0 0 0 0 [(0, .ref 70), (1, .int (zI (z σ 61 ((x2 * 8) + x3).toNat)))] [] σ (q_ki (fun v τ => J ω m_In_requireOther (d + 1) mc ms 0 0 60 [(0, .ref 47), (1, .int (zI x1)), (2, .int (zI x2)), (3, .int (zI x3)), (4, .int (zI (z σ 61 ((x2 * 8) + x3).toNat)))] [.int (zI v), .int (zI x1), .ref 93] τ Q))))) : J ω m_In_requireOther (d + 1) mc ms 0 0 17 [(0, .ref 47), (1, .int (zI x1)), (2, .int (zI x2)), (3, .int (zI x3))] [] σ Q := by
  refine j_iload_n d_In_requireOther_17 3 rfl ?_
  refine j_aload_n d_In_requireOther_18 0 rfl ?_
  refine j_getR p f_In_42 d_In_requireOther_19 (tg_47 hE) (q_okE hE (by decide)) (r472) (by omega) ?_
  refine j_getR (p + 1) f_In_99 d_In_requireOther_22 (tY_p_0 hE hp) (q_okE hE (by omega)) (rY_p_2 hE hp) (by omega) ?_
  refine j_iload_n d_In_requireOther_25 2 rfl ?_
  obtain ⟨c3, h⟩ := h
  refine zj_iald (z σ (p + 1) x2.toNat) d_In_requireOther_26 (tY_p_1 hE hp) (q_okE hE (by omega)) c3 (by decide) (q_z _ _ _) ?_
  obtain ⟨r4, h⟩ := h
  obtain ⟨h1, h2⟩ := h
  refine zj_icmp_ge 82 d_In_requireOther_27 (by decide) r4 (z_R _ _ _) (fun k5 => ?_) (fun k5 => ?_)
  · have h := h1 k5
    refine zj_iinc (L' := [(2, .int (zI (x2 + 1))), (0, .ref 47), (1, .int (zI x1)), (3, .int (zI x3))]) (x2 + 1) d_In_requireOther_82 2 rfl (by omega) (by decide) rfl ?_
    refine j_goto 4 d_In_requireOther_85 (by decide) ?_
    exact j_sel [1, 2, 0] rfl h
  · have h := h2 k5
    refine j_aload_n d_In_requireOther_30 0 rfl ?_
    refine j_getR 48 f_In_12 d_In_requireOther_31 (tg_47 hE) (q_okE hE (by decide)) (rf_47_0 hE) (by decide) ?_
    refine j_getR 61 f_In_102 d_In_requireOther_34 (tg_48 hE) (q_okE hE (by decide)) (rf_48_2 hE) (by decide) ?_
    refine j_iload_n d_In_requireOther_37 2 rfl ?_
    refine j_bipush (v := zI 8) d_In_requireOther_38 (by decide) ?_
    refine zj_imul (x2 * 8) rfl d_In_requireOther_40 ?_
    refine j_iload_n d_In_requireOther_41 3 rfl ?_
    refine zj_iadd ((x2 * 8) + x3) rfl d_In_requireOther_42 ?_
    obtain ⟨c6, h⟩ := h
    refine zj_iald (z σ 61 ((x2 * 8) + x3).toNat) d_In_requireOther_43 (tg_61 hE) (q_okE hE (by decide)) c6 (by decide) (q_z _ _ _) ?_
    refine j_istore (L' := [(4, .int (zI (z σ 61 ((x2 * 8) + x3).toNat))), (0, .ref 47), (1, .int (zI x1)), (2, .int (zI x2)), (3, .int (zI x3))]) d_In_requireOther_44 (by decide) rfl ?_
    refine j_aload_n d_In_requireOther_46 1 rfl ?_
    refine j_getR 93 f_In_39 d_In_requireOther_47 (tg_47 hE) (q_okE hE (by decide)) (rf_47_9 hE) (by decide) ?_
    refine j_iload_n d_In_requireOther_50 2 rfl ?_
    refine j_aload_n d_In_requireOther_51 1 rfl ?_
    refine j_getR 70 f_In_21 d_In_requireOther_52 (tg_47 hE) (q_okE hE (by decide)) (rf_47_1 hE) (by decide) ?_
    refine j_iload d_In_requireOther_55 0 rfl ?_
    refine j_callV m_So_holds [.int (zI (z σ 61 ((x2 * 8) + x3).toNat))] [.int (zI x1), .ref 93] d 0 0 cV_In_123 d_In_requireOther_57 rfl rfl (tg_70 hE) (q_okE hE (by decide)) (Nat.le_of_ble_eq_true rfl) (Nat.le_refl _) (Nat.le_of_ble_eq_true rfl) (Nat.zero_le _) (Nat.zero_le _) h (fun v τ h => ?_) (fun x τ h => ?_)
    · obtain ⟨v, hv, e1, h⟩ := h; cases e1; exact j_sel [1, 2, 3, 4, 0] rfl h
    · obtain ⟨v, hv, e1, h⟩ := h; cases e1
set_option maxHeartbeats 2000000 in
theorem b_In_requireOther_60 {ω : q_W} {σ : q_H} {Q : q_R → q_H → Prop} {d mc ms : Nat} {x1 : Int} {x2 : Int} {x3 : Int} {x4 : Int} {y0 : Int} {y1 : Int} {p : Nat} (hp : p = 16 ∨ p = 29) (r472 : q_r σ 47 2 = p) (hE : q_E σ) (h : inR y0 ∧ q_imp (y0 = 0) ((0 ≤ y1 ∧ y1 < 12) ∧ (J ω m_In_requireOther (d + 1) mc ms 0 0 17 [(0, .ref 47), (1, .int (zI (x1 + 1))), (2, .int (zI x2)), (3, .int (zI (x3 + 1)))] [] (zs σ 93 y1.toNat x4) Q)) ∧ q_imp (y0 ≠ 0) ((0 ≤ y1 ∧ y1 < 12) ∧ (J ω m_In_requireOther (d + 1) mc ms 0 0 17 [(0, .ref 47), (1, .int (zI (x1 + 1))), (2, .int (zI x2)), (3, .int (zI (x3 + 1)))] [] (zs σ 93 y1.toNat (zXor x4 1)) Q))) : J ω m_In_requireOther (d + 1) mc ms 0 0 60 [(0, .ref 47), (1, .int (zI x1)), (2, .int (zI x2)), (3, .int (zI x3)), (4, .int (zI x4))] [.int (zI y0), .int (zI y1), .ref 93] σ Q := by
  obtain ⟨r7, h⟩ := h
  obtain ⟨h1, h2⟩ := h
  refine zj_if_eq 70 d_In_requireOther_60 (by decide) r7 (fun k8 => ?_) (fun k8 => ?_)
  · have h := h1 k8
    refine j_iload d_In_requireOther_70 4 rfl ?_
    obtain ⟨c9, h⟩ := h
    refine zj_iast d_In_requireOther_72 (tg_93 hE) (q_okE hE (by decide)) c9 (by decide) ?_
    refine zj_iinc (L' := [(1, .int (zI (x1 + 1))), (0, .ref 47), (2, .int (zI x2)), (3, .int (zI x3)), (4, .int (zI x4))]) (x1 + 1) d_In_requireOther_73 1 rfl (by omega) (by decide) rfl ?_
    refine zj_iinc (L' := [(3, .int (zI (x3 + 1))), (1, .int (zI (x1 + 1))), (0, .ref 47), (2, .int (zI x2)), (4, .int (zI x4))]) (x3 + 1) d_In_requireOther_76 3 rfl (by omega) (by decide) rfl ?_
    refine j_goto 17 d_In_requireOther_79 (by decide) ?_
    exact j_sel [2, 1, 3, 0] rfl h
  · have h := h2 k8
    refine j_iload d_In_requireOther_63 4 rfl ?_
    refine j_iconst (v := zI 1) d_In_requireOther_65 (by decide) ?_
    refine zj_ixor d_In_requireOther_66 ?_
    refine j_goto 72 d_In_requireOther_67 (by decide) ?_
    obtain ⟨c10, h⟩ := h
    refine zj_iast d_In_requireOther_72 (tg_93 hE) (q_okE hE (by decide)) c10 (by decide) ?_
    refine zj_iinc (L' := [(1, .int (zI (x1 + 1))), (0, .ref 47), (2, .int (zI x2)), (3, .int (zI x3)), (4, .int (zI x4))]) (x1 + 1) d_In_requireOther_73 1 rfl (by omega) (by decide) rfl ?_
    refine zj_iinc (L' := [(3, .int (zI (x3 + 1))), (1, .int (zI (x1 + 1))), (0, .ref 47), (2, .int (zI x2)), (4, .int (zI x4))]) (x3 + 1) d_In_requireOther_76 3 rfl (by omega) (by decide) rfl ?_
    refine j_goto 17 d_In_requireOther_79 (by decide) ?_
    exact j_sel [2, 1, 3, 0] rfl h
