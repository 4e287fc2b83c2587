/-! stretches of bytecode as conditions: So -/
theorem d_So_begin_0 : decode m_So_begin.2.1 0 = .ok (.aload_n 0, 1) := by decide +kernel
theorem d_So_begin_1 : decode m_So_begin.2.1 1 = .ok (.getfield 12, 3) := by decide +kernel
theorem d_So_begin_4 : decode m_So_begin.2.1 4 = .ok (.aload_n 1, 1) := by decide +kernel
theorem d_So_begin_5 : decode m_So_begin.2.1 5 = .ok (.getfield 62, 3) := by decide +kernel
theorem d_So_begin_8 : decode m_So_begin.2.1 8 = .ok (.invokevirtual 65, 3) := by decide +kernel
theorem d_So_begin_11 : decode m_So_begin.2.1 11 = .ok (.aload_n 0, 1) := by decide +kernel
theorem d_So_begin_12 : decode m_So_begin.2.1 12 = .ok (.getfield 12, 3) := by decide +kernel
theorem d_So_begin_15 : decode m_So_begin.2.1 15 = .ok (.aload_n 1, 1) := by decide +kernel
theorem d_So_begin_16 : decode m_So_begin.2.1 16 = .ok (.aload_n 2, 1) := by decide +kernel
theorem d_So_begin_17 : decode m_So_begin.2.1 17 = .ok (.iload_n 3, 1) := by decide +kernel
theorem d_So_begin_18 : decode m_So_begin.2.1 18 = .ok (.invokevirtual 69, 3) := by decide +kernel
theorem d_So_begin_21 : decode m_So_begin.2.1 21 = .ok (.aload_n 0, 1) := by decide +kernel
theorem d_So_begin_22 : decode m_So_begin.2.1 22 = .ok (.getfield 21, 3) := by decide +kernel
theorem d_So_begin_25 : decode m_So_begin.2.1 25 = .ok (.aload_n 1, 1) := by decide +kernel
theorem d_So_begin_26 : decode m_So_begin.2.1 26 = .ok (.getfield 62, 3) := by decide +kernel
theorem d_So_begin_29 : decode m_So_begin.2.1 29 = .ok (.invokevirtual 73, 3) := by decide +kernel
theorem d_So_begin_32 : decode m_So_begin.2.1 32 = .ok (.aload_n 0, 1) := by decide +kernel
theorem d_So_begin_33 : decode m_So_begin.2.1 33 = .ok (.getfield 27, 3) := by decide +kernel
theorem d_So_begin_36 : decode m_So_begin.2.1 36 = .ok (.iconst 2, 1) := by decide +kernel
theorem d_So_begin_37 : decode m_So_begin.2.1 37 = .ok (.aload_n 1, 1) := by decide +kernel
theorem d_So_begin_38 : decode m_So_begin.2.1 38 = .ok (.getfield 62, 3) := by decide +kernel
theorem d_So_begin_41 : decode m_So_begin.2.1 41 = .ok (.imul, 1) := by decide +kernel
theorem d_So_begin_42 : decode m_So_begin.2.1 42 = .ok (.invokestatic 74, 3) := by decide +kernel
theorem d_So_begin_45 : decode m_So_begin.2.1 45 = .ok (.aload_n 0, 1) := by decide +kernel
theorem d_So_begin_46 : decode m_So_begin.2.1 46 = .ok (.iconst 0, 1) := by decide +kernel
theorem d_So_begin_47 : decode m_So_begin.2.1 47 = .ok (.putfield 78, 3) := by decide +kernel
theorem d_So_begin_50 : decode m_So_begin.2.1 50 = .ok (.aload_n 0, 1) := by decide +kernel
theorem d_So_begin_51 : decode m_So_begin.2.1 51 = .ok (.iconst 0, 1) := by decide +kernel
theorem d_So_begin_52 : decode m_So_begin.2.1 52 = .ok (.putfield 81, 3) := by decide +kernel
theorem d_So_begin_55 : decode m_So_begin.2.1 55 = .ok (.aload_n 0, 1) := by decide +kernel
theorem d_So_begin_56 : decode m_So_begin.2.1 56 = .ok (.iconst 0, 1) := by decide +kernel
theorem d_So_begin_57 : decode m_So_begin.2.1 57 = .ok (.putfield 84, 3) := by decide +kernel
theorem d_So_begin_60 : decode m_So_begin.2.1 60 = .ok (.aload_n 0, 1) := by decide +kernel
theorem d_So_begin_61 : decode m_So_begin.2.1 61 = .ok (.iconst 0, 1) := by decide +kernel
theorem d_So_begin_62 : decode m_So_begin.2.1 62 = .ok (.putfield 87, 3) := by decide +kernel
theorem d_So_begin_65 : decode m_So_begin.2.1 65 = .ok (.aload_n 0, 1) := by decide +kernel
theorem d_So_begin_66 : decode m_So_begin.2.1 66 = .ok (.iconst 0, 1) := by decide +kernel
theorem d_So_begin_67 : decode m_So_begin.2.1 67 = .ok (.putfield 90, 3) := by decide +kernel
theorem d_So_begin_70 : decode m_So_begin.2.1 70 = .ok (.aload_n 0, 1) := by decide +kernel
theorem d_So_begin_71 : decode m_So_begin.2.1 71 = .ok (.iconst 0, 1) := by decide +kernel
theorem d_So_begin_72 : decode m_So_begin.2.1 72 = .ok (.putfield 93, 3) := by decide +kernel
theorem d_So_begin_75 : decode m_So_begin.2.1 75 = .ok (.aload_n 0, 1) := by decide +kernel
theorem d_So_begin_76 : decode m_So_begin.2.1 76 = .ok (.iconst 0, 1) := by decide +kernel
theorem d_So_begin_77 : decode m_So_begin.2.1 77 = .ok (.iconst 0, 1) := by decide +kernel
theorem d_So_begin_78 : decode m_So_begin.2.1 78 = .ok (.invokevirtual 96, 3) := by decide +kernel
theorem d_So_begin_81 : decode m_So_begin.2.1 81 = .ok (.return_, 1) := by decide +kernel
theorem d_So_assign_0 : decode m_So_assign.2.1 0 = .ok (.aload_n 0, 1) := by decide +kernel
theorem d_So_assign_1 : decode m_So_assign.2.1 1 = .ok (.getfield 27, 3) := by decide +kernel
theorem d_So_assign_4 : decode m_So_assign.2.1 4 = .ok (.iload_n 1, 1) := by decide +kernel
theorem d_So_assign_5 : decode m_So_assign.2.1 5 = .ok (.iconst 1, 1) := by decide +kernel
theorem d_So_assign_6 : decode m_So_assign.2.1 6 = .ok (.iastore, 1) := by decide +kernel
theorem d_So_assign_7 : decode m_So_assign.2.1 7 = .ok (.aload_n 0, 1) := by decide +kernel
theorem d_So_assign_8 : decode m_So_assign.2.1 8 = .ok (.getfield 27, 3) := by decide +kernel
theorem d_So_assign_11 : decode m_So_assign.2.1 11 = .ok (.iload_n 1, 1) := by decide +kernel
theorem d_So_assign_12 : decode m_So_assign.2.1 12 = .ok (.iconst 1, 1) := by decide +kernel
theorem d_So_assign_13 : decode m_So_assign.2.1 13 = .ok (.ixor, 1) := by decide +kernel
theorem d_So_assign_14 : decode m_So_assign.2.1 14 = .ok (.iconst (-1), 1) := by decide +kernel
theorem d_So_assign_15 : decode m_So_assign.2.1 15 = .ok (.iastore, 1) := by decide +kernel
theorem d_So_assign_16 : decode m_So_assign.2.1 16 = .ok (.aload_n 0, 1) := by decide +kernel
theorem d_So_assign_17 : decode m_So_assign.2.1 17 = .ok (.getfield 31, 3) := by decide +kernel
theorem d_So_assign_20 : decode m_So_assign.2.1 20 = .ok (.iload_n 1, 1) := by decide +kernel
theorem d_So_assign_21 : decode m_So_assign.2.1 21 = .ok (.iconst 1, 1) := by decide +kernel
theorem d_So_assign_22 : decode m_So_assign.2.1 22 = .ok (.ishr, 1) := by decide +kernel
theorem d_So_assign_23 : decode m_So_assign.2.1 23 = .ok (.aload_n 0, 1) := by decide +kernel
theorem d_So_assign_24 : decode m_So_assign.2.1 24 = .ok (.getfield 87, 3) := by decide +kernel
theorem d_So_assign_27 : decode m_So_assign.2.1 27 = .ok (.iastore, 1) := by decide +kernel
theorem d_So_assign_28 : decode m_So_assign.2.1 28 = .ok (.aload_n 0, 1) := by decide +kernel
theorem d_So_assign_29 : decode m_So_assign.2.1 29 = .ok (.getfield 34, 3) := by decide +kernel
theorem d_So_assign_32 : decode m_So_assign.2.1 32 = .ok (.iload_n 1, 1) := by decide +kernel
theorem d_So_assign_33 : decode m_So_assign.2.1 33 = .ok (.iconst 1, 1) := by decide +kernel
theorem d_So_assign_34 : decode m_So_assign.2.1 34 = .ok (.ishr, 1) := by decide +kernel
theorem d_So_assign_35 : decode m_So_assign.2.1 35 = .ok (.iload_n 2, 1) := by decide +kernel
theorem d_So_assign_36 : decode m_So_assign.2.1 36 = .ok (.iastore, 1) := by decide +kernel
theorem d_So_assign_37 : decode m_So_assign.2.1 37 = .ok (.aload_n 0, 1) := by decide +kernel
theorem d_So_assign_38 : decode m_So_assign.2.1 38 = .ok (.getfield 37, 3) := by decide +kernel
theorem d_So_assign_41 : decode m_So_assign.2.1 41 = .ok (.aload_n 0, 1) := by decide +kernel
theorem d_So_assign_42 : decode m_So_assign.2.1 42 = .ok (.getfield 78, 3) := by decide +kernel
theorem d_So_assign_45 : decode m_So_assign.2.1 45 = .ok (.iload_n 1, 1) := by decide +kernel
theorem d_So_assign_46 : decode m_So_assign.2.1 46 = .ok (.iastore, 1) := by decide +kernel
theorem d_So_assign_47 : decode m_So_assign.2.1 47 = .ok (.aload_n 0, 1) := by decide +kernel
theorem d_So_assign_48 : decode m_So_assign.2.1 48 = .ok (.dup, 1) := by decide +kernel
theorem d_So_assign_49 : decode m_So_assign.2.1 49 = .ok (.getfield 78, 3) := by decide +kernel
theorem d_So_assign_52 : decode m_So_assign.2.1 52 = .ok (.iconst 1, 1) := by decide +kernel
theorem d_So_assign_53 : decode m_So_assign.2.1 53 = .ok (.iadd, 1) := by decide +kernel
theorem d_So_assign_54 : decode m_So_assign.2.1 54 = .ok (.putfield 78, 3) := by decide +kernel
theorem d_So_assign_57 : decode m_So_assign.2.1 57 = .ok (.return_, 1) := by decide +kernel
theorem d_So_wish_0 : decode m_So_wish.2.1 0 = .ok (.aload_n 0, 1) := by decide +kernel
theorem d_So_wish_1 : decode m_So_wish.2.1 1 = .ok (.getfield 90, 3) := by decide +kernel
theorem d_So_wish_4 : decode m_So_wish.2.1 4 = .ok (.bipush 12, 2) := by decide +kernel
theorem d_So_wish_6 : decode m_So_wish.2.1 6 = .ok (.if_icmp .ge 23, 3) := by decide +kernel
theorem d_So_wish_9 : decode m_So_wish.2.1 9 = .ok (.aload_n 0, 1) := by decide +kernel
theorem d_So_wish_10 : decode m_So_wish.2.1 10 = .ok (.getfield 43, 3) := by decide +kernel
theorem d_So_wish_13 : decode m_So_wish.2.1 13 = .ok (.aload_n 0, 1) := by decide +kernel
theorem d_So_wish_14 : decode m_So_wish.2.1 14 = .ok (.getfield 90, 3) := by decide +kernel
theorem d_So_wish_17 : decode m_So_wish.2.1 17 = .ok (.iload_n 1, 1) := by decide +kernel
theorem d_So_wish_18 : decode m_So_wish.2.1 18 = .ok (.iastore, 1) := by decide +kernel
theorem d_So_wish_19 : decode m_So_wish.2.1 19 = .ok (.aload_n 0, 1) := by decide +kernel
theorem d_So_wish_20 : decode m_So_wish.2.1 20 = .ok (.dup, 1) := by decide +kernel
theorem d_So_wish_21 : decode m_So_wish.2.1 21 = .ok (.getfield 90, 3) := by decide +kernel
theorem d_So_wish_24 : decode m_So_wish.2.1 24 = .ok (.iconst 1, 1) := by decide +kernel
theorem d_So_wish_25 : decode m_So_wish.2.1 25 = .ok (.iadd, 1) := by decide +kernel
theorem d_So_wish_26 : decode m_So_wish.2.1 26 = .ok (.putfield 90, 3) := by decide +kernel
theorem d_So_wish_29 : decode m_So_wish.2.1 29 = .ok (.return_, 1) := by decide +kernel
theorem d_So_require_0 : decode m_So_require.2.1 0 = .ok (.aload_n 0, 1) := by decide +kernel
theorem d_So_require_1 : decode m_So_require.2.1 1 = .ok (.iconst 0, 1) := by decide +kernel
theorem d_So_require_2 : decode m_So_require.2.1 2 = .ok (.invokevirtual 100, 3) := by decide +kernel
theorem d_So_require_5 : decode m_So_require.2.1 5 = .ok (.iconst 0, 1) := by decide +kernel
theorem d_So_require_6 : decode m_So_require.2.1 6 = .ok (.istore_n 3, 1) := by decide +kernel
theorem d_So_require_7 : decode m_So_require.2.1 7 = .ok (.iconst 0, 1) := by decide +kernel
theorem d_So_require_8 : decode m_So_require.2.1 8 = .ok (.istore 4, 2) := by decide +kernel
theorem d_So_require_10 : decode m_So_require.2.1 10 = .ok (.iload 4, 2) := by decide +kernel
theorem d_So_require_12 : decode m_So_require.2.1 12 = .ok (.iload_n 2, 1) := by decide +kernel
theorem d_So_require_13 : decode m_So_require.2.1 13 = .ok (.if_icmp .ge 57, 3) := by decide +kernel
theorem d_So_require_16 : decode m_So_require.2.1 16 = .ok (.aload_n 1, 1) := by decide +kernel
theorem d_So_require_17 : decode m_So_require.2.1 17 = .ok (.iload 4, 2) := by decide +kernel
theorem d_So_require_19 : decode m_So_require.2.1 19 = .ok (.iaload, 1) := by decide +kernel
theorem d_So_require_20 : decode m_So_require.2.1 20 = .ok (.istore 5, 2) := by decide +kernel
theorem d_So_require_22 : decode m_So_require.2.1 22 = .ok (.aload_n 0, 1) := by decide +kernel
theorem d_So_require_23 : decode m_So_require.2.1 23 = .ok (.getfield 27, 3) := by decide +kernel
theorem d_So_require_26 : decode m_So_require.2.1 26 = .ok (.iload 5, 2) := by decide +kernel
theorem d_So_require_28 : decode m_So_require.2.1 28 = .ok (.iaload, 1) := by decide +kernel
theorem d_So_require_29 : decode m_So_require.2.1 29 = .ok (.iconst 1, 1) := by decide +kernel
theorem d_So_require_30 : decode m_So_require.2.1 30 = .ok (.if_icmp .eq 15, 3) := by decide +kernel
theorem d_So_require_33 : decode m_So_require.2.1 33 = .ok (.aload_n 1, 1) := by decide +kernel
theorem d_So_require_34 : decode m_So_require.2.1 34 = .ok (.iload_n 3, 1) := by decide +kernel
theorem d_So_require_35 : decode m_So_require.2.1 35 = .ok (.iload 5, 2) := by decide +kernel
theorem d_So_require_37 : decode m_So_require.2.1 37 = .ok (.iconst 1, 1) := by decide +kernel
theorem d_So_require_38 : decode m_So_require.2.1 38 = .ok (.ixor, 1) := by decide +kernel
theorem d_So_require_39 : decode m_So_require.2.1 39 = .ok (.invokestatic 103, 3) := by decide +kernel
theorem d_So_require_42 : decode m_So_require.2.1 42 = .ok (.ifCond .eq 4, 3) := by decide +kernel
theorem d_So_require_45 : decode m_So_require.2.1 45 = .ok (.return_, 1) := by decide +kernel
theorem d_So_require_46 : decode m_So_require.2.1 46 = .ok (.aload_n 1, 1) := by decide +kernel
theorem d_So_require_47 : decode m_So_require.2.1 47 = .ok (.iload_n 3, 1) := by decide +kernel
theorem d_So_require_48 : decode m_So_require.2.1 48 = .ok (.iload 5, 2) := by decide +kernel
theorem d_So_require_50 : decode m_So_require.2.1 50 = .ok (.invokestatic 103, 3) := by decide +kernel
theorem d_So_require_53 : decode m_So_require.2.1 53 = .ok (.ifCond .ne 11, 3) := by decide +kernel
theorem d_So_require_56 : decode m_So_require.2.1 56 = .ok (.aload_n 1, 1) := by decide +kernel
theorem d_So_require_57 : decode m_So_require.2.1 57 = .ok (.iload_n 3, 1) := by decide +kernel
theorem d_So_require_58 : decode m_So_require.2.1 58 = .ok (.iload 5, 2) := by decide +kernel
theorem d_So_require_60 : decode m_So_require.2.1 60 = .ok (.iastore, 1) := by decide +kernel
theorem d_So_require_61 : decode m_So_require.2.1 61 = .ok (.iinc 3 1, 3) := by decide +kernel
theorem d_So_require_64 : decode m_So_require.2.1 64 = .ok (.iinc 4 1, 3) := by decide +kernel
theorem d_So_require_67 : decode m_So_require.2.1 67 = .ok (.goto (-57), 3) := by decide +kernel
theorem d_So_require_70 : decode m_So_require.2.1 70 = .ok (.aload_n 0, 1) := by decide +kernel
theorem d_So_require_71 : decode m_So_require.2.1 71 = .ok (.aload_n 1, 1) := by decide +kernel
theorem d_So_require_72 : decode m_So_require.2.1 72 = .ok (.iload_n 3, 1) := by decide +kernel
theorem d_So_require_73 : decode m_So_require.2.1 73 = .ok (.invokevirtual 107, 3) := by decide +kernel
theorem d_So_require_76 : decode m_So_require.2.1 76 = .ok (.istore 4, 2) := by decide +kernel
theorem d_So_require_78 : decode m_So_require.2.1 78 = .ok (.aload_n 0, 1) := by decide +kernel
theorem d_So_require_79 : decode m_So_require.2.1 79 = .ok (.getfield 12, 3) := by decide +kernel
theorem d_So_require_82 : decode m_So_require.2.1 82 = .ok (.aload_n 1, 1) := by decide +kernel
theorem d_So_require_83 : decode m_So_require.2.1 83 = .ok (.iload_n 3, 1) := by decide +kernel
theorem d_So_require_84 : decode m_So_require.2.1 84 = .ok (.invokevirtual 111, 3) := by decide +kernel
theorem d_So_require_87 : decode m_So_require.2.1 87 = .ok (.istore 5, 2) := by decide +kernel
theorem d_So_require_89 : decode m_So_require.2.1 89 = .ok (.iload 4, 2) := by decide +kernel
theorem d_So_require_91 : decode m_So_require.2.1 91 = .ok (.ifCond .ne 12, 3) := by decide +kernel
theorem d_So_require_94 : decode m_So_require.2.1 94 = .ok (.aload_n 0, 1) := by decide +kernel
theorem d_So_require_95 : decode m_So_require.2.1 95 = .ok (.iload 5, 2) := by decide +kernel
theorem d_So_require_97 : decode m_So_require.2.1 97 = .ok (.putfield 93, 3) := by decide +kernel
theorem d_So_require_100 : decode m_So_require.2.1 100 = .ok (.goto 18, 3) := by decide +kernel
theorem d_So_require_103 : decode m_So_require.2.1 103 = .ok (.iload 4, 2) := by decide +kernel
theorem d_So_require_105 : decode m_So_require.2.1 105 = .ok (.iconst 1, 1) := by decide +kernel
theorem d_So_require_106 : decode m_So_require.2.1 106 = .ok (.if_icmp .ne 12, 3) := by decide +kernel
theorem d_So_require_109 : decode m_So_require.2.1 109 = .ok (.aload_n 0, 1) := by decide +kernel
theorem d_So_require_110 : decode m_So_require.2.1 110 = .ok (.aload_n 1, 1) := by decide +kernel
theorem d_So_require_111 : decode m_So_require.2.1 111 = .ok (.iconst 0, 1) := by decide +kernel
theorem d_So_require_112 : decode m_So_require.2.1 112 = .ok (.iaload, 1) := by decide +kernel
theorem d_So_require_113 : decode m_So_require.2.1 113 = .ok (.iload 5, 2) := by decide +kernel
theorem d_So_require_115 : decode m_So_require.2.1 115 = .ok (.invokevirtual 96, 3) := by decide +kernel
theorem d_So_require_118 : decode m_So_require.2.1 118 = .ok (.return_, 1) := by decide +kernel
theorem d_So_backTo_0 : decode m_So_backTo.2.1 0 = .ok (.aload_n 0, 1) := by decide +kernel
theorem d_So_backTo_1 : decode m_So_backTo.2.1 1 = .ok (.getfield 87, 3) := by decide +kernel
theorem d_So_backTo_4 : decode m_So_backTo.2.1 4 = .ok (.iload_n 1, 1) := by decide +kernel
theorem d_So_backTo_5 : decode m_So_backTo.2.1 5 = .ok (.if_icmp .gt 4, 3) := by decide +kernel
theorem d_So_backTo_8 : decode m_So_backTo.2.1 8 = .ok (.return_, 1) := by decide +kernel
theorem d_So_backTo_9 : decode m_So_backTo.2.1 9 = .ok (.aload_n 0, 1) := by decide +kernel
theorem d_So_backTo_10 : decode m_So_backTo.2.1 10 = .ok (.getfield 40, 3) := by decide +kernel
theorem d_So_backTo_13 : decode m_So_backTo.2.1 13 = .ok (.iload_n 1, 1) := by decide +kernel
theorem d_So_backTo_14 : decode m_So_backTo.2.1 14 = .ok (.iconst 1, 1) := by decide +kernel
theorem d_So_backTo_15 : decode m_So_backTo.2.1 15 = .ok (.iadd, 1) := by decide +kernel
theorem d_So_backTo_16 : decode m_So_backTo.2.1 16 = .ok (.iaload, 1) := by decide +kernel
theorem d_So_backTo_17 : decode m_So_backTo.2.1 17 = .ok (.istore_n 2, 1) := by decide +kernel
theorem d_So_backTo_18 : decode m_So_backTo.2.1 18 = .ok (.iload_n 2, 1) := by decide +kernel
theorem d_So_backTo_19 : decode m_So_backTo.2.1 19 = .ok (.istore_n 3, 1) := by decide +kernel
theorem d_So_backTo_20 : decode m_So_backTo.2.1 20 = .ok (.iload_n 3, 1) := by decide +kernel
theorem d_So_backTo_21 : decode m_So_backTo.2.1 21 = .ok (.aload_n 0, 1) := by decide +kernel
theorem d_So_backTo_22 : decode m_So_backTo.2.1 22 = .ok (.getfield 78, 3) := by decide +kernel
theorem d_So_backTo_25 : decode m_So_backTo.2.1 25 = .ok (.if_icmp .ge 35, 3) := by decide +kernel
theorem d_So_backTo_28 : decode m_So_backTo.2.1 28 = .ok (.aload_n 0, 1) := by decide +kernel
theorem d_So_backTo_29 : decode m_So_backTo.2.1 29 = .ok (.getfield 27, 3) := by decide +kernel
theorem d_So_backTo_32 : decode m_So_backTo.2.1 32 = .ok (.aload_n 0, 1) := by decide +kernel
theorem d_So_backTo_33 : decode m_So_backTo.2.1 33 = .ok (.getfield 37, 3) := by decide +kernel
theorem d_So_backTo_36 : decode m_So_backTo.2.1 36 = .ok (.iload_n 3, 1) := by decide +kernel
theorem d_So_backTo_37 : decode m_So_backTo.2.1 37 = .ok (.iaload, 1) := by decide +kernel
theorem d_So_backTo_38 : decode m_So_backTo.2.1 38 = .ok (.iconst 0, 1) := by decide +kernel
theorem d_So_backTo_39 : decode m_So_backTo.2.1 39 = .ok (.iastore, 1) := by decide +kernel
theorem d_So_backTo_40 : decode m_So_backTo.2.1 40 = .ok (.aload_n 0, 1) := by decide +kernel
theorem d_So_backTo_41 : decode m_So_backTo.2.1 41 = .ok (.getfield 27, 3) := by decide +kernel
theorem d_So_backTo_44 : decode m_So_backTo.2.1 44 = .ok (.aload_n 0, 1) := by decide +kernel
theorem d_So_backTo_45 : decode m_So_backTo.2.1 45 = .ok (.getfield 37, 3) := by decide +kernel
theorem d_So_backTo_48 : decode m_So_backTo.2.1 48 = .ok (.iload_n 3, 1) := by decide +kernel
theorem d_So_backTo_49 : decode m_So_backTo.2.1 49 = .ok (.iaload, 1) := by decide +kernel
theorem d_So_backTo_50 : decode m_So_backTo.2.1 50 = .ok (.iconst 1, 1) := by decide +kernel
theorem d_So_backTo_51 : decode m_So_backTo.2.1 51 = .ok (.ixor, 1) := by decide +kernel
theorem d_So_backTo_52 : decode m_So_backTo.2.1 52 = .ok (.iconst 0, 1) := by decide +kernel
theorem d_So_backTo_53 : decode m_So_backTo.2.1 53 = .ok (.iastore, 1) := by decide +kernel
theorem d_So_backTo_54 : decode m_So_backTo.2.1 54 = .ok (.iinc 3 1, 3) := by decide +kernel
theorem d_So_backTo_57 : decode m_So_backTo.2.1 57 = .ok (.goto (-37), 3) := by decide +kernel
theorem d_So_backTo_60 : decode m_So_backTo.2.1 60 = .ok (.aload_n 0, 1) := by decide +kernel
theorem d_So_backTo_61 : decode m_So_backTo.2.1 61 = .ok (.iload_n 2, 1) := by decide +kernel
theorem d_So_backTo_62 : decode m_So_backTo.2.1 62 = .ok (.putfield 78, 3) := by decide +kernel
theorem d_So_backTo_65 : decode m_So_backTo.2.1 65 = .ok (.aload_n 0, 1) := by decide +kernel
theorem d_So_backTo_66 : decode m_So_backTo.2.1 66 = .ok (.iload_n 2, 1) := by decide +kernel
theorem d_So_backTo_67 : decode m_So_backTo.2.1 67 = .ok (.putfield 81, 3) := by decide +kernel
theorem d_So_backTo_70 : decode m_So_backTo.2.1 70 = .ok (.aload_n 0, 1) := by decide +kernel
theorem d_So_backTo_71 : decode m_So_backTo.2.1 71 = .ok (.iload_n 1, 1) := by decide +kernel
theorem d_So_backTo_72 : decode m_So_backTo.2.1 72 = .ok (.putfield 87, 3) := by decide +kernel
theorem d_So_backTo_75 : decode m_So_backTo.2.1 75 = .ok (.return_, 1) := by decide +kernel
theorem d_So_has_0 : decode m_So_has.2.1 0 = .ok (.iconst 0, 1) := by decide +kernel
theorem d_So_has_1 : decode m_So_has.2.1 1 = .ok (.istore_n 3, 1) := by decide +kernel
theorem d_So_has_2 : decode m_So_has.2.1 2 = .ok (.iload_n 3, 1) := by decide +kernel
theorem d_So_has_3 : decode m_So_has.2.1 3 = .ok (.iload_n 1, 1) := by decide +kernel
theorem d_So_has_4 : decode m_So_has.2.1 4 = .ok (.if_icmp .ge 18, 3) := by decide +kernel
theorem d_So_has_7 : decode m_So_has.2.1 7 = .ok (.aload_n 0, 1) := by decide +kernel
theorem d_So_has_8 : decode m_So_has.2.1 8 = .ok (.iload_n 3, 1) := by decide +kernel
theorem d_So_has_9 : decode m_So_has.2.1 9 = .ok (.iaload, 1) := by decide +kernel
theorem d_So_has_10 : decode m_So_has.2.1 10 = .ok (.iload_n 2, 1) := by decide +kernel
theorem d_So_has_11 : decode m_So_has.2.1 11 = .ok (.if_icmp .ne 5, 3) := by decide +kernel
theorem d_So_has_14 : decode m_So_has.2.1 14 = .ok (.iconst 1, 1) := by decide +kernel
theorem d_So_has_15 : decode m_So_has.2.1 15 = .ok (.ireturn, 1) := by decide +kernel
theorem d_So_has_16 : decode m_So_has.2.1 16 = .ok (.iinc 3 1, 3) := by decide +kernel
theorem d_So_has_19 : decode m_So_has.2.1 19 = .ok (.goto (-17), 3) := by decide +kernel
theorem d_So_has_22 : decode m_So_has.2.1 22 = .ok (.iconst 0, 1) := by decide +kernel
theorem d_So_has_23 : decode m_So_has.2.1 23 = .ok (.ireturn, 1) := by decide +kernel
theorem d_So_freeFirst_0 : decode m_So_freeFirst.2.1 0 = .ok (.iconst 0, 1) := by decide +kernel
theorem d_So_freeFirst_1 : decode m_So_freeFirst.2.1 1 = .ok (.istore_n 3, 1) := by decide +kernel
theorem d_So_freeFirst_2 : decode m_So_freeFirst.2.1 2 = .ok (.iconst 0, 1) := by decide +kernel
theorem d_So_freeFirst_3 : decode m_So_freeFirst.2.1 3 = .ok (.istore 4, 2) := by decide +kernel
theorem d_So_freeFirst_5 : decode m_So_freeFirst.2.1 5 = .ok (.iload 4, 2) := by decide +kernel
theorem d_So_freeFirst_7 : decode m_So_freeFirst.2.1 7 = .ok (.iload_n 2, 1) := by decide +kernel
theorem d_So_freeFirst_8 : decode m_So_freeFirst.2.1 8 = .ok (.if_icmp .ge 42, 3) := by decide +kernel
theorem d_So_freeFirst_11 : decode m_So_freeFirst.2.1 11 = .ok (.aload_n 0, 1) := by decide +kernel
theorem d_So_freeFirst_12 : decode m_So_freeFirst.2.1 12 = .ok (.getfield 27, 3) := by decide +kernel
theorem d_So_freeFirst_15 : decode m_So_freeFirst.2.1 15 = .ok (.aload_n 1, 1) := by decide +kernel
theorem d_So_freeFirst_16 : decode m_So_freeFirst.2.1 16 = .ok (.iload 4, 2) := by decide +kernel
theorem d_So_freeFirst_18 : decode m_So_freeFirst.2.1 18 = .ok (.iaload, 1) := by decide +kernel
theorem d_So_freeFirst_19 : decode m_So_freeFirst.2.1 19 = .ok (.iaload, 1) := by decide +kernel
theorem d_So_freeFirst_20 : decode m_So_freeFirst.2.1 20 = .ok (.ifCond .ne 24, 3) := by decide +kernel
theorem d_So_freeFirst_23 : decode m_So_freeFirst.2.1 23 = .ok (.aload_n 1, 1) := by decide +kernel
theorem d_So_freeFirst_24 : decode m_So_freeFirst.2.1 24 = .ok (.iload 4, 2) := by decide +kernel
theorem d_So_freeFirst_26 : decode m_So_freeFirst.2.1 26 = .ok (.iaload, 1) := by decide +kernel
theorem d_So_freeFirst_27 : decode m_So_freeFirst.2.1 27 = .ok (.istore 5, 2) := by decide +kernel
theorem d_So_freeFirst_29 : decode m_So_freeFirst.2.1 29 = .ok (.aload_n 1, 1) := by decide +kernel
theorem d_So_freeFirst_30 : decode m_So_freeFirst.2.1 30 = .ok (.iload 4, 2) := by decide +kernel
theorem d_So_freeFirst_32 : decode m_So_freeFirst.2.1 32 = .ok (.aload_n 1, 1) := by decide +kernel
theorem d_So_freeFirst_33 : decode m_So_freeFirst.2.1 33 = .ok (.iload_n 3, 1) := by decide +kernel
theorem d_So_freeFirst_34 : decode m_So_freeFirst.2.1 34 = .ok (.iaload, 1) := by decide +kernel
theorem d_So_freeFirst_35 : decode m_So_freeFirst.2.1 35 = .ok (.iastore, 1) := by decide +kernel
theorem d_So_freeFirst_36 : decode m_So_freeFirst.2.1 36 = .ok (.aload_n 1, 1) := by decide +kernel
theorem d_So_freeFirst_37 : decode m_So_freeFirst.2.1 37 = .ok (.iload_n 3, 1) := by decide +kernel
theorem d_So_freeFirst_38 : decode m_So_freeFirst.2.1 38 = .ok (.iload 5, 2) := by decide +kernel
theorem d_So_freeFirst_40 : decode m_So_freeFirst.2.1 40 = .ok (.iastore, 1) := by decide +kernel
theorem d_So_freeFirst_41 : decode m_So_freeFirst.2.1 41 = .ok (.iinc 3 1, 3) := by decide +kernel
theorem d_So_freeFirst_44 : decode m_So_freeFirst.2.1 44 = .ok (.iinc 4 1, 3) := by decide +kernel
theorem d_So_freeFirst_47 : decode m_So_freeFirst.2.1 47 = .ok (.goto (-42), 3) := by decide +kernel
theorem d_So_freeFirst_50 : decode m_So_freeFirst.2.1 50 = .ok (.iload_n 3, 1) := by decide +kernel
theorem d_So_freeFirst_51 : decode m_So_freeFirst.2.1 51 = .ok (.ireturn, 1) := by decide +kernel
theorem d_So_search_0 : decode m_So_search.2.1 0 = .ok (.iconst 0, 1) := by decide +kernel
theorem d_So_search_1 : decode m_So_search.2.1 1 = .ok (.istore_n 1, 1) := by decide +kernel
theorem d_So_search_2 : decode m_So_search.2.1 2 = .ok (.iload_n 1, 1) := by decide +kernel
theorem d_So_search_3 : decode m_So_search.2.1 3 = .ok (.ldc 114, 2) := by decide +kernel
theorem d_So_search_5 : decode m_So_search.2.1 5 = .ok (.if_icmp .ge 98, 3) := by decide +kernel
theorem d_So_search_8 : decode m_So_search.2.1 8 = .ok (.aload_n 0, 1) := by decide +kernel
theorem d_So_search_9 : decode m_So_search.2.1 9 = .ok (.getfield 93, 3) := by decide +kernel
theorem d_So_search_12 : decode m_So_search.2.1 12 = .ok (.ifCond .eq 10, 3) := by decide +kernel
theorem d_So_search_15 : decode m_So_search.2.1 15 = .ok (.aload_n 0, 1) := by decide +kernel
theorem d_So_search_16 : decode m_So_search.2.1 16 = .ok (.getfield 93, 3) := by decide +kernel
theorem d_So_search_19 : decode m_So_search.2.1 19 = .ok (.goto 7, 3) := by decide +kernel
theorem d_So_search_22 : decode m_So_search.2.1 22 = .ok (.aload_n 0, 1) := by decide +kernel
theorem d_So_search_23 : decode m_So_search.2.1 23 = .ok (.invokevirtual 115, 3) := by decide +kernel
theorem d_So_search_26 : decode m_So_search.2.1 26 = .ok (.istore_n 2, 1) := by decide +kernel
theorem d_So_search_27 : decode m_So_search.2.1 27 = .ok (.aload_n 0, 1) := by decide +kernel
theorem d_So_search_28 : decode m_So_search.2.1 28 = .ok (.getfield 87, 3) := by decide +kernel
theorem d_So_search_31 : decode m_So_search.2.1 31 = .ok (.ifCond .ne 7, 3) := by decide +kernel
theorem d_So_search_34 : decode m_So_search.2.1 34 = .ok (.aload_n 0, 1) := by decide +kernel
theorem d_So_search_35 : decode m_So_search.2.1 35 = .ok (.invokevirtual 119, 3) := by decide +kernel
theorem d_So_search_38 : decode m_So_search.2.1 38 = .ok (.iload_n 2, 1) := by decide +kernel
theorem d_So_search_39 : decode m_So_search.2.1 39 = .ok (.ifCond .eq 13, 3) := by decide +kernel
theorem d_So_search_42 : decode m_So_search.2.1 42 = .ok (.aload_n 0, 1) := by decide +kernel
theorem d_So_search_43 : decode m_So_search.2.1 43 = .ok (.iload_n 2, 1) := by decide +kernel
theorem d_So_search_44 : decode m_So_search.2.1 44 = .ok (.invokevirtual 122, 3) := by decide +kernel
theorem d_So_search_47 : decode m_So_search.2.1 47 = .ok (.ifCond .ne 50, 3) := by decide +kernel
theorem d_So_search_50 : decode m_So_search.2.1 50 = .ok (.iconst 0, 1) := by decide +kernel
theorem d_So_search_51 : decode m_So_search.2.1 51 = .ok (.ireturn, 1) := by decide +kernel
theorem d_So_search_52 : decode m_So_search.2.1 52 = .ok (.aload_n 0, 1) := by decide +kernel
theorem d_So_search_53 : decode m_So_search.2.1 53 = .ok (.invokevirtual 126, 3) := by decide +kernel
theorem d_So_search_56 : decode m_So_search.2.1 56 = .ok (.istore_n 3, 1) := by decide +kernel
theorem d_So_search_57 : decode m_So_search.2.1 57 = .ok (.iload_n 3, 1) := by decide +kernel
theorem d_So_search_58 : decode m_So_search.2.1 58 = .ok (.iconst (-1), 1) := by decide +kernel
theorem d_So_search_59 : decode m_So_search.2.1 59 = .ok (.if_icmp .ne 9, 3) := by decide +kernel
theorem d_So_search_62 : decode m_So_search.2.1 62 = .ok (.aload_n 0, 1) := by decide +kernel
theorem d_So_search_63 : decode m_So_search.2.1 63 = .ok (.invokevirtual 129, 3) := by decide +kernel
theorem d_So_search_66 : decode m_So_search.2.1 66 = .ok (.iconst 1, 1) := by decide +kernel
theorem d_So_search_67 : decode m_So_search.2.1 67 = .ok (.ireturn, 1) := by decide +kernel
theorem d_So_search_68 : decode m_So_search.2.1 68 = .ok (.aload_n 0, 1) := by decide +kernel
theorem d_So_search_69 : decode m_So_search.2.1 69 = .ok (.dup, 1) := by decide +kernel
theorem d_So_search_70 : decode m_So_search.2.1 70 = .ok (.getfield 87, 3) := by decide +kernel
theorem d_So_search_73 : decode m_So_search.2.1 73 = .ok (.iconst 1, 1) := by decide +kernel
theorem d_So_search_74 : decode m_So_search.2.1 74 = .ok (.iadd, 1) := by decide +kernel
theorem d_So_search_75 : decode m_So_search.2.1 75 = .ok (.putfield 87, 3) := by decide +kernel
theorem d_So_search_78 : decode m_So_search.2.1 78 = .ok (.aload_n 0, 1) := by decide +kernel
theorem d_So_search_79 : decode m_So_search.2.1 79 = .ok (.getfield 40, 3) := by decide +kernel
theorem d_So_search_82 : decode m_So_search.2.1 82 = .ok (.aload_n 0, 1) := by decide +kernel
theorem d_So_search_83 : decode m_So_search.2.1 83 = .ok (.getfield 87, 3) := by decide +kernel
theorem d_So_search_86 : decode m_So_search.2.1 86 = .ok (.aload_n 0, 1) := by decide +kernel
theorem d_So_search_87 : decode m_So_search.2.1 87 = .ok (.getfield 78, 3) := by decide +kernel
theorem d_So_search_90 : decode m_So_search.2.1 90 = .ok (.iastore, 1) := by decide +kernel
theorem d_So_search_91 : decode m_So_search.2.1 91 = .ok (.aload_n 0, 1) := by decide +kernel
theorem d_So_search_92 : decode m_So_search.2.1 92 = .ok (.iload_n 3, 1) := by decide +kernel
theorem d_So_search_93 : decode m_So_search.2.1 93 = .ok (.iconst 0, 1) := by decide +kernel
theorem d_So_search_94 : decode m_So_search.2.1 94 = .ok (.invokevirtual 96, 3) := by decide +kernel
theorem d_So_search_97 : decode m_So_search.2.1 97 = .ok (.iinc 1 1, 3) := by decide +kernel
theorem d_So_search_100 : decode m_So_search.2.1 100 = .ok (.goto (-98), 3) := by decide +kernel
theorem d_So_search_103 : decode m_So_search.2.1 103 = .ok (.aload_n 0, 1) := by decide +kernel
theorem d_So_search_104 : decode m_So_search.2.1 104 = .ok (.getfield 21, 3) := by decide +kernel
theorem d_So_search_107 : decode m_So_search.2.1 107 = .ok (.dup, 1) := by decide +kernel
theorem d_So_search_108 : decode m_So_search.2.1 108 = .ok (.getfield 55, 3) := by decide +kernel
theorem d_So_search_111 : decode m_So_search.2.1 111 = .ok (.iconst 1, 1) := by decide +kernel
theorem d_So_search_112 : decode m_So_search.2.1 112 = .ok (.iadd, 1) := by decide +kernel
theorem d_So_search_113 : decode m_So_search.2.1 113 = .ok (.putfield 55, 3) := by decide +kernel
theorem d_So_search_116 : decode m_So_search.2.1 116 = .ok (.iconst 0, 1) := by decide +kernel
theorem d_So_search_117 : decode m_So_search.2.1 117 = .ok (.ireturn, 1) := by decide +kernel
theorem d_So_propagate_0 : decode m_So_propagate.2.1 0 = .ok (.iconst 0, 1) := by decide +kernel
theorem d_So_propagate_1 : decode m_So_propagate.2.1 1 = .ok (.istore_n 1, 1) := by decide +kernel
theorem d_So_propagate_2 : decode m_So_propagate.2.1 2 = .ok (.iload_n 1, 1) := by decide +kernel
theorem d_So_propagate_3 : decode m_So_propagate.2.1 3 = .ok (.ifCond .ne 53, 3) := by decide +kernel
theorem d_So_propagate_6 : decode m_So_propagate.2.1 6 = .ok (.aload_n 0, 1) := by decide +kernel
theorem d_So_propagate_7 : decode m_So_propagate.2.1 7 = .ok (.getfield 81, 3) := by decide +kernel
theorem d_So_propagate_10 : decode m_So_propagate.2.1 10 = .ok (.aload_n 0, 1) := by decide +kernel
theorem d_So_propagate_11 : decode m_So_propagate.2.1 11 = .ok (.getfield 78, 3) := by decide +kernel
theorem d_So_propagate_14 : decode m_So_propagate.2.1 14 = .ok (.if_icmp .ge 42, 3) := by decide +kernel
theorem d_So_propagate_17 : decode m_So_propagate.2.1 17 = .ok (.aload_n 0, 1) := by decide +kernel
theorem d_So_propagate_18 : decode m_So_propagate.2.1 18 = .ok (.getfield 81, 3) := by decide +kernel
theorem d_So_propagate_21 : decode m_So_propagate.2.1 21 = .ok (.sipush 10240, 3) := by decide +kernel
theorem d_So_propagate_24 : decode m_So_propagate.2.1 24 = .ok (.if_icmp .ge 32, 3) := by decide +kernel
theorem d_So_propagate_27 : decode m_So_propagate.2.1 27 = .ok (.aload_n 0, 1) := by decide +kernel
theorem d_So_propagate_28 : decode m_So_propagate.2.1 28 = .ok (.aload_n 0, 1) := by decide +kernel
theorem d_So_propagate_29 : decode m_So_propagate.2.1 29 = .ok (.getfield 37, 3) := by decide +kernel
theorem d_So_propagate_32 : decode m_So_propagate.2.1 32 = .ok (.aload_n 0, 1) := by decide +kernel
theorem d_So_propagate_33 : decode m_So_propagate.2.1 33 = .ok (.getfield 81, 3) := by decide +kernel
theorem d_So_propagate_36 : decode m_So_propagate.2.1 36 = .ok (.iaload, 1) := by decide +kernel
theorem d_So_propagate_37 : decode m_So_propagate.2.1 37 = .ok (.iconst 1, 1) := by decide +kernel
theorem d_So_propagate_38 : decode m_So_propagate.2.1 38 = .ok (.ixor, 1) := by decide +kernel
theorem d_So_propagate_39 : decode m_So_propagate.2.1 39 = .ok (.invokevirtual 132, 3) := by decide +kernel
theorem d_So_propagate_42 : decode m_So_propagate.2.1 42 = .ok (.istore_n 1, 1) := by decide +kernel
theorem d_So_propagate_43 : decode m_So_propagate.2.1 43 = .ok (.aload_n 0, 1) := by decide +kernel
theorem d_So_propagate_44 : decode m_So_propagate.2.1 44 = .ok (.dup, 1) := by decide +kernel
theorem d_So_propagate_45 : decode m_So_propagate.2.1 45 = .ok (.getfield 81, 3) := by decide +kernel
theorem d_So_propagate_48 : decode m_So_propagate.2.1 48 = .ok (.iconst 1, 1) := by decide +kernel
theorem d_So_propagate_49 : decode m_So_propagate.2.1 49 = .ok (.iadd, 1) := by decide +kernel
theorem d_So_propagate_50 : decode m_So_propagate.2.1 50 = .ok (.putfield 81, 3) := by decide +kernel
theorem d_So_propagate_53 : decode m_So_propagate.2.1 53 = .ok (.goto (-51), 3) := by decide +kernel
theorem d_So_propagate_56 : decode m_So_propagate.2.1 56 = .ok (.iload_n 1, 1) := by decide +kernel
theorem d_So_propagate_57 : decode m_So_propagate.2.1 57 = .ok (.ireturn, 1) := by decide +kernel
theorem d_So_visit_0 : decode m_So_visit.2.1 0 = .ok (.aload_n 0, 1) := by decide +kernel
theorem d_So_visit_1 : decode m_So_visit.2.1 1 = .ok (.getfield 12, 3) := by decide +kernel
theorem d_So_visit_4 : decode m_So_visit.2.1 4 = .ok (.getfield 136, 3) := by decide +kernel
theorem d_So_visit_7 : decode m_So_visit.2.1 7 = .ok (.astore_n 2, 1) := by decide +kernel
theorem d_So_visit_8 : decode m_So_visit.2.1 8 = .ok (.aload_n 0, 1) := by decide +kernel
theorem d_So_visit_9 : decode m_So_visit.2.1 9 = .ok (.getfield 12, 3) := by decide +kernel
theorem d_So_visit_12 : decode m_So_visit.2.1 12 = .ok (.getfield 139, 3) := by decide +kernel
theorem d_So_visit_15 : decode m_So_visit.2.1 15 = .ok (.astore_n 3, 1) := by decide +kernel
theorem d_So_visit_16 : decode m_So_visit.2.1 16 = .ok (.iconst 0, 1) := by decide +kernel
theorem d_So_visit_17 : decode m_So_visit.2.1 17 = .ok (.istore 4, 2) := by decide +kernel
theorem d_So_visit_19 : decode m_So_visit.2.1 19 = .ok (.aload_n 3, 1) := by decide +kernel
theorem d_So_visit_20 : decode m_So_visit.2.1 20 = .ok (.iload_n 1, 1) := by decide +kernel
theorem d_So_visit_21 : decode m_So_visit.2.1 21 = .ok (.iaload, 1) := by decide +kernel
theorem d_So_visit_22 : decode m_So_visit.2.1 22 = .ok (.istore 5, 2) := by decide +kernel
theorem d_So_visit_24 : decode m_So_visit.2.1 24 = .ok (.iconst 0, 1) := by decide +kernel
theorem d_So_visit_25 : decode m_So_visit.2.1 25 = .ok (.istore 6, 2) := by decide +kernel
theorem d_So_visit_27 : decode m_So_visit.2.1 27 = .ok (.iload 5, 2) := by decide +kernel
theorem d_So_visit_29 : decode m_So_visit.2.1 29 = .ok (.ifCond .eq 187, 3) := by decide +kernel
theorem d_So_visit_32 : decode m_So_visit.2.1 32 = .ok (.iload 6, 2) := by decide +kernel
theorem d_So_visit_34 : decode m_So_visit.2.1 34 = .ok (.aload_n 2, 1) := by decide +kernel
theorem d_So_visit_35 : decode m_So_visit.2.1 35 = .ok (.arraylength, 1) := by decide +kernel
theorem d_So_visit_36 : decode m_So_visit.2.1 36 = .ok (.if_icmp .ge 180, 3) := by decide +kernel
theorem d_So_visit_39 : decode m_So_visit.2.1 39 = .ok (.aload_n 2, 1) := by decide +kernel
theorem d_So_visit_40 : decode m_So_visit.2.1 40 = .ok (.iload 5, 2) := by decide +kernel
theorem d_So_visit_42 : decode m_So_visit.2.1 42 = .ok (.iconst 3, 1) := by decide +kernel
theorem d_So_visit_43 : decode m_So_visit.2.1 43 = .ok (.iadd, 1) := by decide +kernel
theorem d_So_visit_44 : decode m_So_visit.2.1 44 = .ok (.iaload, 1) := by decide +kernel
theorem d_So_visit_45 : decode m_So_visit.2.1 45 = .ok (.iload_n 1, 1) := by decide +kernel
theorem d_So_visit_46 : decode m_So_visit.2.1 46 = .ok (.if_icmp .ne 7, 3) := by decide +kernel
theorem d_So_visit_49 : decode m_So_visit.2.1 49 = .ok (.iconst 0, 1) := by decide +kernel
theorem d_So_visit_50 : decode m_So_visit.2.1 50 = .ok (.goto 4, 3) := by decide +kernel
theorem d_So_visit_53 : decode m_So_visit.2.1 53 = .ok (.iconst 1, 1) := by decide +kernel
theorem d_So_visit_54 : decode m_So_visit.2.1 54 = .ok (.istore 7, 2) := by decide +kernel
theorem d_So_visit_56 : decode m_So_visit.2.1 56 = .ok (.aload_n 2, 1) := by decide +kernel
theorem d_So_visit_57 : decode m_So_visit.2.1 57 = .ok (.iload 5, 2) := by decide +kernel
theorem d_So_visit_59 : decode m_So_visit.2.1 59 = .ok (.iconst 3, 1) := by decide +kernel
theorem d_So_visit_60 : decode m_So_visit.2.1 60 = .ok (.iadd, 1) := by decide +kernel
theorem d_So_visit_61 : decode m_So_visit.2.1 61 = .ok (.iconst 1, 1) := by decide +kernel
theorem d_So_visit_62 : decode m_So_visit.2.1 62 = .ok (.iadd, 1) := by decide +kernel
theorem d_So_visit_63 : decode m_So_visit.2.1 63 = .ok (.iload 7, 2) := by decide +kernel
theorem d_So_visit_65 : decode m_So_visit.2.1 65 = .ok (.isub, 1) := by decide +kernel
theorem d_So_visit_66 : decode m_So_visit.2.1 66 = .ok (.iaload, 1) := by decide +kernel
theorem d_So_visit_67 : decode m_So_visit.2.1 67 = .ok (.istore 8, 2) := by decide +kernel
theorem d_So_visit_69 : decode m_So_visit.2.1 69 = .ok (.iload 5, 2) := by decide +kernel
theorem d_So_visit_71 : decode m_So_visit.2.1 71 = .ok (.iconst 1, 1) := by decide +kernel
theorem d_So_visit_72 : decode m_So_visit.2.1 72 = .ok (.iadd, 1) := by decide +kernel
theorem d_So_visit_73 : decode m_So_visit.2.1 73 = .ok (.iload 7, 2) := by decide +kernel
theorem d_So_visit_75 : decode m_So_visit.2.1 75 = .ok (.iadd, 1) := by decide +kernel
theorem d_So_visit_76 : decode m_So_visit.2.1 76 = .ok (.istore 9, 2) := by decide +kernel
theorem d_So_visit_78 : decode m_So_visit.2.1 78 = .ok (.aload_n 2, 1) := by decide +kernel
theorem d_So_visit_79 : decode m_So_visit.2.1 79 = .ok (.iload 9, 2) := by decide +kernel
theorem d_So_visit_81 : decode m_So_visit.2.1 81 = .ok (.iaload, 1) := by decide +kernel
theorem d_So_visit_82 : decode m_So_visit.2.1 82 = .ok (.istore 10, 2) := by decide +kernel
theorem d_So_visit_84 : decode m_So_visit.2.1 84 = .ok (.aload_n 0, 1) := by decide +kernel
theorem d_So_visit_85 : decode m_So_visit.2.1 85 = .ok (.getfield 27, 3) := by decide +kernel
theorem d_So_visit_88 : decode m_So_visit.2.1 88 = .ok (.iload 8, 2) := by decide +kernel
theorem d_So_visit_90 : decode m_So_visit.2.1 90 = .ok (.iaload, 1) := by decide +kernel
theorem d_So_visit_91 : decode m_So_visit.2.1 91 = .ok (.iconst 1, 1) := by decide +kernel
theorem d_So_visit_92 : decode m_So_visit.2.1 92 = .ok (.if_icmp .ne 7, 3) := by decide +kernel
theorem d_So_visit_95 : decode m_So_visit.2.1 95 = .ok (.iconst 0, 1) := by decide +kernel
theorem d_So_visit_96 : decode m_So_visit.2.1 96 = .ok (.goto 9, 3) := by decide +kernel
theorem d_So_visit_99 : decode m_So_visit.2.1 99 = .ok (.aload_n 0, 1) := by decide +kernel
theorem d_So_visit_100 : decode m_So_visit.2.1 100 = .ok (.iload 5, 2) := by decide +kernel
theorem d_So_visit_102 : decode m_So_visit.2.1 102 = .ok (.invokevirtual 142, 3) := by decide +kernel
theorem d_So_visit_105 : decode m_So_visit.2.1 105 = .ok (.istore 11, 2) := by decide +kernel
theorem d_So_visit_107 : decode m_So_visit.2.1 107 = .ok (.iload 11, 2) := by decide +kernel
theorem d_So_visit_109 : decode m_So_visit.2.1 109 = .ok (.ifCond .eq 61, 3) := by decide +kernel
theorem d_So_visit_112 : decode m_So_visit.2.1 112 = .ok (.aload_n 2, 1) := by decide +kernel
theorem d_So_visit_113 : decode m_So_visit.2.1 113 = .ok (.iload 11, 2) := by decide +kernel
theorem d_So_visit_115 : decode m_So_visit.2.1 115 = .ok (.iaload, 1) := by decide +kernel
theorem d_So_visit_116 : decode m_So_visit.2.1 116 = .ok (.istore 12, 2) := by decide +kernel
theorem d_So_visit_118 : decode m_So_visit.2.1 118 = .ok (.aload_n 2, 1) := by decide +kernel
theorem d_So_visit_119 : decode m_So_visit.2.1 119 = .ok (.iload 11, 2) := by decide +kernel
theorem d_So_visit_121 : decode m_So_visit.2.1 121 = .ok (.iload_n 1, 1) := by decide +kernel
theorem d_So_visit_122 : decode m_So_visit.2.1 122 = .ok (.iastore, 1) := by decide +kernel
theorem d_So_visit_123 : decode m_So_visit.2.1 123 = .ok (.aload_n 2, 1) := by decide +kernel
theorem d_So_visit_124 : decode m_So_visit.2.1 124 = .ok (.iload 5, 2) := by decide +kernel
theorem d_So_visit_126 : decode m_So_visit.2.1 126 = .ok (.iconst 3, 1) := by decide +kernel
theorem d_So_visit_127 : decode m_So_visit.2.1 127 = .ok (.iadd, 1) := by decide +kernel
theorem d_So_visit_128 : decode m_So_visit.2.1 128 = .ok (.iload 7, 2) := by decide +kernel
theorem d_So_visit_130 : decode m_So_visit.2.1 130 = .ok (.iadd, 1) := by decide +kernel
theorem d_So_visit_131 : decode m_So_visit.2.1 131 = .ok (.iload 12, 2) := by decide +kernel
theorem d_So_visit_133 : decode m_So_visit.2.1 133 = .ok (.iastore, 1) := by decide +kernel
theorem d_So_visit_134 : decode m_So_visit.2.1 134 = .ok (.aload_n 2, 1) := by decide +kernel
theorem d_So_visit_135 : decode m_So_visit.2.1 135 = .ok (.iload 9, 2) := by decide +kernel
theorem d_So_visit_137 : decode m_So_visit.2.1 137 = .ok (.aload_n 3, 1) := by decide +kernel
theorem d_So_visit_138 : decode m_So_visit.2.1 138 = .ok (.iload 12, 2) := by decide +kernel
theorem d_So_visit_140 : decode m_So_visit.2.1 140 = .ok (.iaload, 1) := by decide +kernel
theorem d_So_visit_141 : decode m_So_visit.2.1 141 = .ok (.iastore, 1) := by decide +kernel
theorem d_So_visit_142 : decode m_So_visit.2.1 142 = .ok (.aload_n 3, 1) := by decide +kernel
theorem d_So_visit_143 : decode m_So_visit.2.1 143 = .ok (.iload 12, 2) := by decide +kernel
theorem d_So_visit_145 : decode m_So_visit.2.1 145 = .ok (.iload 5, 2) := by decide +kernel
theorem d_So_visit_147 : decode m_So_visit.2.1 147 = .ok (.iastore, 1) := by decide +kernel
theorem d_So_visit_148 : decode m_So_visit.2.1 148 = .ok (.iload 4, 2) := by decide +kernel
theorem d_So_visit_150 : decode m_So_visit.2.1 150 = .ok (.ifCond .ne 11, 3) := by decide +kernel
theorem d_So_visit_153 : decode m_So_visit.2.1 153 = .ok (.aload_n 3, 1) := by decide +kernel
theorem d_So_visit_154 : decode m_So_visit.2.1 154 = .ok (.iload_n 1, 1) := by decide +kernel
theorem d_So_visit_155 : decode m_So_visit.2.1 155 = .ok (.iload 10, 2) := by decide +kernel
theorem d_So_visit_157 : decode m_So_visit.2.1 157 = .ok (.iastore, 1) := by decide +kernel
theorem d_So_visit_158 : decode m_So_visit.2.1 158 = .ok (.goto 9, 3) := by decide +kernel
theorem d_So_visit_161 : decode m_So_visit.2.1 161 = .ok (.aload_n 2, 1) := by decide +kernel
theorem d_So_visit_162 : decode m_So_visit.2.1 162 = .ok (.iload 4, 2) := by decide +kernel
theorem d_So_visit_164 : decode m_So_visit.2.1 164 = .ok (.iload 10, 2) := by decide +kernel
theorem d_So_visit_166 : decode m_So_visit.2.1 166 = .ok (.iastore, 1) := by decide +kernel
theorem d_So_visit_167 : decode m_So_visit.2.1 167 = .ok (.goto 39, 3) := by decide +kernel
theorem d_So_visit_170 : decode m_So_visit.2.1 170 = .ok (.aload_n 0, 1) := by decide +kernel
theorem d_So_visit_171 : decode m_So_visit.2.1 171 = .ok (.getfield 27, 3) := by decide +kernel
theorem d_So_visit_174 : decode m_So_visit.2.1 174 = .ok (.iload 8, 2) := by decide +kernel
theorem d_So_visit_176 : decode m_So_visit.2.1 176 = .ok (.iaload, 1) := by decide +kernel
theorem d_So_visit_177 : decode m_So_visit.2.1 177 = .ok (.iconst (-1), 1) := by decide +kernel
theorem d_So_visit_178 : decode m_So_visit.2.1 178 = .ok (.if_icmp .ne 6, 3) := by decide +kernel
theorem d_So_visit_181 : decode m_So_visit.2.1 181 = .ok (.iload 5, 2) := by decide +kernel
theorem d_So_visit_183 : decode m_So_visit.2.1 183 = .ok (.ireturn, 1) := by decide +kernel
theorem d_So_visit_184 : decode m_So_visit.2.1 184 = .ok (.aload_n 0, 1) := by decide +kernel
theorem d_So_visit_185 : decode m_So_visit.2.1 185 = .ok (.getfield 27, 3) := by decide +kernel
theorem d_So_visit_188 : decode m_So_visit.2.1 188 = .ok (.iload 8, 2) := by decide +kernel
theorem d_So_visit_190 : decode m_So_visit.2.1 190 = .ok (.iaload, 1) := by decide +kernel
theorem d_So_visit_191 : decode m_So_visit.2.1 191 = .ok (.ifCond .ne 11, 3) := by decide +kernel
theorem d_So_visit_194 : decode m_So_visit.2.1 194 = .ok (.aload_n 0, 1) := by decide +kernel
theorem d_So_visit_195 : decode m_So_visit.2.1 195 = .ok (.iload 8, 2) := by decide +kernel
theorem d_So_visit_197 : decode m_So_visit.2.1 197 = .ok (.iload 5, 2) := by decide +kernel
theorem d_So_visit_199 : decode m_So_visit.2.1 199 = .ok (.invokevirtual 96, 3) := by decide +kernel
theorem d_So_visit_202 : decode m_So_visit.2.1 202 = .ok (.iload 9, 2) := by decide +kernel
theorem d_So_visit_204 : decode m_So_visit.2.1 204 = .ok (.istore 4, 2) := by decide +kernel
theorem d_So_visit_206 : decode m_So_visit.2.1 206 = .ok (.iload 10, 2) := by decide +kernel
theorem d_So_visit_208 : decode m_So_visit.2.1 208 = .ok (.istore 5, 2) := by decide +kernel
theorem d_So_visit_210 : decode m_So_visit.2.1 210 = .ok (.iinc 6 1, 3) := by decide +kernel
theorem d_So_visit_213 : decode m_So_visit.2.1 213 = .ok (.goto (-186), 3) := by decide +kernel
theorem d_So_visit_216 : decode m_So_visit.2.1 216 = .ok (.iconst 0, 1) := by decide +kernel
theorem d_So_visit_217 : decode m_So_visit.2.1 217 = .ok (.ireturn, 1) := by decide +kernel
theorem d_So_replacement_0 : decode m_So_replacement.2.1 0 = .ok (.iload_n 1, 1) := by decide +kernel
theorem d_So_replacement_1 : decode m_So_replacement.2.1 1 = .ok (.iconst 3, 1) := by decide +kernel
theorem d_So_replacement_2 : decode m_So_replacement.2.1 2 = .ok (.iadd, 1) := by decide +kernel
theorem d_So_replacement_3 : decode m_So_replacement.2.1 3 = .ok (.aload_n 0, 1) := by decide +kernel
theorem d_So_replacement_4 : decode m_So_replacement.2.1 4 = .ok (.getfield 12, 3) := by decide +kernel
theorem d_So_replacement_7 : decode m_So_replacement.2.1 7 = .ok (.getfield 136, 3) := by decide +kernel
theorem d_So_replacement_10 : decode m_So_replacement.2.1 10 = .ok (.iload_n 1, 1) := by decide +kernel
theorem d_So_replacement_11 : decode m_So_replacement.2.1 11 = .ok (.iaload, 1) := by decide +kernel
theorem d_So_replacement_12 : decode m_So_replacement.2.1 12 = .ok (.iadd, 1) := by decide +kernel
theorem d_So_replacement_13 : decode m_So_replacement.2.1 13 = .ok (.istore_n 2, 1) := by decide +kernel
theorem d_So_replacement_14 : decode m_So_replacement.2.1 14 = .ok (.iload_n 1, 1) := by decide +kernel
theorem d_So_replacement_15 : decode m_So_replacement.2.1 15 = .ok (.iconst 3, 1) := by decide +kernel
theorem d_So_replacement_16 : decode m_So_replacement.2.1 16 = .ok (.iadd, 1) := by decide +kernel
theorem d_So_replacement_17 : decode m_So_replacement.2.1 17 = .ok (.iconst 2, 1) := by decide +kernel
theorem d_So_replacement_18 : decode m_So_replacement.2.1 18 = .ok (.iadd, 1) := by decide +kernel
theorem d_So_replacement_19 : decode m_So_replacement.2.1 19 = .ok (.istore_n 3, 1) := by decide +kernel
theorem d_So_replacement_20 : decode m_So_replacement.2.1 20 = .ok (.iload_n 3, 1) := by decide +kernel
theorem d_So_replacement_21 : decode m_So_replacement.2.1 21 = .ok (.iload_n 2, 1) := by decide +kernel
theorem d_So_replacement_22 : decode m_So_replacement.2.1 22 = .ok (.if_icmp .ge 29, 3) := by decide +kernel
theorem d_So_replacement_25 : decode m_So_replacement.2.1 25 = .ok (.aload_n 0, 1) := by decide +kernel
theorem d_So_replacement_26 : decode m_So_replacement.2.1 26 = .ok (.getfield 27, 3) := by decide +kernel
theorem d_So_replacement_29 : decode m_So_replacement.2.1 29 = .ok (.aload_n 0, 1) := by decide +kernel
theorem d_So_replacement_30 : decode m_So_replacement.2.1 30 = .ok (.getfield 12, 3) := by decide +kernel
theorem d_So_replacement_33 : decode m_So_replacement.2.1 33 = .ok (.getfield 136, 3) := by decide +kernel
theorem d_So_replacement_36 : decode m_So_replacement.2.1 36 = .ok (.iload_n 3, 1) := by decide +kernel
theorem d_So_replacement_37 : decode m_So_replacement.2.1 37 = .ok (.iaload, 1) := by decide +kernel
theorem d_So_replacement_38 : decode m_So_replacement.2.1 38 = .ok (.iaload, 1) := by decide +kernel
theorem d_So_replacement_39 : decode m_So_replacement.2.1 39 = .ok (.iconst (-1), 1) := by decide +kernel
theorem d_So_replacement_40 : decode m_So_replacement.2.1 40 = .ok (.if_icmp .eq 5, 3) := by decide +kernel
theorem d_So_replacement_43 : decode m_So_replacement.2.1 43 = .ok (.iload_n 3, 1) := by decide +kernel
theorem d_So_replacement_44 : decode m_So_replacement.2.1 44 = .ok (.ireturn, 1) := by decide +kernel
theorem d_So_replacement_45 : decode m_So_replacement.2.1 45 = .ok (.iinc 3 1, 3) := by decide +kernel
theorem d_So_replacement_48 : decode m_So_replacement.2.1 48 = .ok (.goto (-28), 3) := by decide +kernel
theorem d_So_replacement_51 : decode m_So_replacement.2.1 51 = .ok (.iconst 0, 1) := by decide +kernel
theorem d_So_replacement_52 : decode m_So_replacement.2.1 52 = .ok (.ireturn, 1) := by decide +kernel
theorem d_So_noteFacts_0 : decode m_So_noteFacts.2.1 0 = .ok (.aload_n 0, 1) := by decide +kernel
theorem d_So_noteFacts_1 : decode m_So_noteFacts.2.1 1 = .ok (.getfield 84, 3) := by decide +kernel
theorem d_So_noteFacts_4 : decode m_So_noteFacts.2.1 4 = .ok (.aload_n 0, 1) := by decide +kernel
theorem d_So_noteFacts_5 : decode m_So_noteFacts.2.1 5 = .ok (.getfield 78, 3) := by decide +kernel
theorem d_So_noteFacts_8 : decode m_So_noteFacts.2.1 8 = .ok (.if_icmp .ge 93, 3) := by decide +kernel
theorem d_So_noteFacts_11 : decode m_So_noteFacts.2.1 11 = .ok (.aload_n 0, 1) := by decide +kernel
theorem d_So_noteFacts_12 : decode m_So_noteFacts.2.1 12 = .ok (.getfield 49, 3) := by decide +kernel
theorem d_So_noteFacts_15 : decode m_So_noteFacts.2.1 15 = .ok (.iconst 0, 1) := by decide +kernel
theorem d_So_noteFacts_16 : decode m_So_noteFacts.2.1 16 = .ok (.aload_n 0, 1) := by decide +kernel
theorem d_So_noteFacts_17 : decode m_So_noteFacts.2.1 17 = .ok (.getfield 37, 3) := by decide +kernel
theorem d_So_noteFacts_20 : decode m_So_noteFacts.2.1 20 = .ok (.aload_n 0, 1) := by decide +kernel
theorem d_So_noteFacts_21 : decode m_So_noteFacts.2.1 21 = .ok (.getfield 84, 3) := by decide +kernel
theorem d_So_noteFacts_24 : decode m_So_noteFacts.2.1 24 = .ok (.iaload, 1) := by decide +kernel
theorem d_So_noteFacts_25 : decode m_So_noteFacts.2.1 25 = .ok (.iastore, 1) := by decide +kernel
theorem d_So_noteFacts_26 : decode m_So_noteFacts.2.1 26 = .ok (.aload_n 0, 1) := by decide +kernel
theorem d_So_noteFacts_27 : decode m_So_noteFacts.2.1 27 = .ok (.getfield 52, 3) := by decide +kernel
theorem d_So_noteFacts_30 : decode m_So_noteFacts.2.1 30 = .ok (.iconst 0, 1) := by decide +kernel
theorem d_So_noteFacts_31 : decode m_So_noteFacts.2.1 31 = .ok (.aload_n 0, 1) := by decide +kernel
theorem d_So_noteFacts_32 : decode m_So_noteFacts.2.1 32 = .ok (.getfield 34, 3) := by decide +kernel
theorem d_So_noteFacts_35 : decode m_So_noteFacts.2.1 35 = .ok (.aload_n 0, 1) := by decide +kernel
theorem d_So_noteFacts_36 : decode m_So_noteFacts.2.1 36 = .ok (.getfield 37, 3) := by decide +kernel
theorem d_So_noteFacts_39 : decode m_So_noteFacts.2.1 39 = .ok (.aload_n 0, 1) := by decide +kernel
theorem d_So_noteFacts_40 : decode m_So_noteFacts.2.1 40 = .ok (.getfield 84, 3) := by decide +kernel
theorem d_So_noteFacts_43 : decode m_So_noteFacts.2.1 43 = .ok (.iaload, 1) := by decide +kernel
theorem d_So_noteFacts_44 : decode m_So_noteFacts.2.1 44 = .ok (.iconst 1, 1) := by decide +kernel
theorem d_So_noteFacts_45 : decode m_So_noteFacts.2.1 45 = .ok (.ishr, 1) := by decide +kernel
theorem d_So_noteFacts_46 : decode m_So_noteFacts.2.1 46 = .ok (.iaload, 1) := by decide +kernel
theorem d_So_noteFacts_47 : decode m_So_noteFacts.2.1 47 = .ok (.iastore, 1) := by decide +kernel
theorem d_So_noteFacts_48 : decode m_So_noteFacts.2.1 48 = .ok (.aload_n 0, 1) := by decide +kernel
theorem d_So_noteFacts_49 : decode m_So_noteFacts.2.1 49 = .ok (.getfield 21, 3) := by decide +kernel
theorem d_So_noteFacts_52 : decode m_So_noteFacts.2.1 52 = .ok (.aload_n 0, 1) := by decide +kernel
theorem d_So_noteFacts_53 : decode m_So_noteFacts.2.1 53 = .ok (.getfield 49, 3) := by decide +kernel
theorem d_So_noteFacts_56 : decode m_So_noteFacts.2.1 56 = .ok (.iconst 0, 1) := by decide +kernel
theorem d_So_noteFacts_57 : decode m_So_noteFacts.2.1 57 = .ok (.iaload, 1) := by decide +kernel
theorem d_So_noteFacts_58 : decode m_So_noteFacts.2.1 58 = .ok (.invokevirtual 145, 3) := by decide +kernel
theorem d_So_noteFacts_61 : decode m_So_noteFacts.2.1 61 = .ok (.ifCond .ne 27, 3) := by decide +kernel
theorem d_So_noteFacts_64 : decode m_So_noteFacts.2.1 64 = .ok (.aload_n 0, 1) := by decide +kernel
theorem d_So_noteFacts_65 : decode m_So_noteFacts.2.1 65 = .ok (.getfield 21, 3) := by decide +kernel
theorem d_So_noteFacts_68 : decode m_So_noteFacts.2.1 68 = .ok (.aload_n 0, 1) := by decide +kernel
theorem d_So_noteFacts_69 : decode m_So_noteFacts.2.1 69 = .ok (.getfield 12, 3) := by decide +kernel
theorem d_So_noteFacts_72 : decode m_So_noteFacts.2.1 72 = .ok (.getfield 136, 3) := by decide +kernel
theorem d_So_noteFacts_75 : decode m_So_noteFacts.2.1 75 = .ok (.aload_n 0, 1) := by decide +kernel
theorem d_So_noteFacts_76 : decode m_So_noteFacts.2.1 76 = .ok (.getfield 49, 3) := by decide +kernel
theorem d_So_noteFacts_79 : decode m_So_noteFacts.2.1 79 = .ok (.iconst 1, 1) := by decide +kernel
theorem d_So_noteFacts_80 : decode m_So_noteFacts.2.1 80 = .ok (.aload_n 0, 1) := by decide +kernel
theorem d_So_noteFacts_81 : decode m_So_noteFacts.2.1 81 = .ok (.getfield 52, 3) := by decide +kernel
theorem d_So_noteFacts_84 : decode m_So_noteFacts.2.1 84 = .ok (.iconst 1, 1) := by decide +kernel
theorem d_So_noteFacts_85 : decode m_So_noteFacts.2.1 85 = .ok (.invokevirtual 148, 3) := by decide +kernel
theorem d_So_noteFacts_88 : decode m_So_noteFacts.2.1 88 = .ok (.aload_n 0, 1) := by decide +kernel
theorem d_So_noteFacts_89 : decode m_So_noteFacts.2.1 89 = .ok (.dup, 1) := by decide +kernel
theorem d_So_noteFacts_90 : decode m_So_noteFacts.2.1 90 = .ok (.getfield 84, 3) := by decide +kernel
theorem d_So_noteFacts_93 : decode m_So_noteFacts.2.1 93 = .ok (.iconst 1, 1) := by decide +kernel
theorem d_So_noteFacts_94 : decode m_So_noteFacts.2.1 94 = .ok (.iadd, 1) := by decide +kernel
theorem d_So_noteFacts_95 : decode m_So_noteFacts.2.1 95 = .ok (.putfield 84, 3) := by decide +kernel
theorem d_So_noteFacts_98 : decode m_So_noteFacts.2.1 98 = .ok (.goto (-98), 3) := by decide +kernel
theorem d_So_noteFacts_101 : decode m_So_noteFacts.2.1 101 = .ok (.return_, 1) := by decide +kernel
theorem d_So_learn_0 : decode m_So_learn.2.1 0 = .ok (.aload_n 0, 1) := by decide +kernel
theorem d_So_learn_1 : decode m_So_learn.2.1 1 = .ok (.iconst 0, 1) := by decide +kernel
theorem d_So_learn_2 : decode m_So_learn.2.1 2 = .ok (.putfield 152, 3) := by decide +kernel
theorem d_So_learn_5 : decode m_So_learn.2.1 5 = .ok (.aload_n 0, 1) := by decide +kernel
theorem d_So_learn_6 : decode m_So_learn.2.1 6 = .ok (.iconst 0, 1) := by decide +kernel
theorem d_So_learn_7 : decode m_So_learn.2.1 7 = .ok (.putfield 155, 3) := by decide +kernel
theorem d_So_learn_10 : decode m_So_learn.2.1 10 = .ok (.aload_n 0, 1) := by decide +kernel
theorem d_So_learn_11 : decode m_So_learn.2.1 11 = .ok (.iload_n 1, 1) := by decide +kernel
theorem d_So_learn_12 : decode m_So_learn.2.1 12 = .ok (.invokevirtual 158, 3) := by decide +kernel
theorem d_So_learn_15 : decode m_So_learn.2.1 15 = .ok (.istore_n 2, 1) := by decide +kernel
theorem d_So_learn_16 : decode m_So_learn.2.1 16 = .ok (.aload_n 0, 1) := by decide +kernel
theorem d_So_learn_17 : decode m_So_learn.2.1 17 = .ok (.getfield 87, 3) := by decide +kernel
theorem d_So_learn_20 : decode m_So_learn.2.1 20 = .ok (.ifCond .le 15, 3) := by decide +kernel
theorem d_So_learn_23 : decode m_So_learn.2.1 23 = .ok (.aload_n 0, 1) := by decide +kernel
theorem d_So_learn_24 : decode m_So_learn.2.1 24 = .ok (.aload_n 0, 1) := by decide +kernel
theorem d_So_learn_25 : decode m_So_learn.2.1 25 = .ok (.getfield 12, 3) := by decide +kernel
theorem d_So_learn_28 : decode m_So_learn.2.1 28 = .ok (.invokevirtual 161, 3) := by decide +kernel
theorem d_So_learn_31 : decode m_So_learn.2.1 31 = .ok (.iload_n 2, 1) := by decide +kernel
theorem d_So_learn_32 : decode m_So_learn.2.1 32 = .ok (.invokevirtual 165, 3) := by decide +kernel
theorem d_So_learn_35 : decode m_So_learn.2.1 35 = .ok (.aload_n 0, 1) := by decide +kernel
theorem d_So_learn_36 : decode m_So_learn.2.1 36 = .ok (.getfield 21, 3) := by decide +kernel
theorem d_So_learn_39 : decode m_So_learn.2.1 39 = .ok (.aload_n 0, 1) := by decide +kernel
theorem d_So_learn_40 : decode m_So_learn.2.1 40 = .ok (.getfield 12, 3) := by decide +kernel
theorem d_So_learn_43 : decode m_So_learn.2.1 43 = .ok (.getfield 136, 3) := by decide +kernel
theorem d_So_learn_46 : decode m_So_learn.2.1 46 = .ok (.aload_n 0, 1) := by decide +kernel
theorem d_So_learn_47 : decode m_So_learn.2.1 47 = .ok (.getfield 49, 3) := by decide +kernel
theorem d_So_learn_50 : decode m_So_learn.2.1 50 = .ok (.aload_n 0, 1) := by decide +kernel
theorem d_So_learn_51 : decode m_So_learn.2.1 51 = .ok (.getfield 152, 3) := by decide +kernel
theorem d_So_learn_54 : decode m_So_learn.2.1 54 = .ok (.aload_n 0, 1) := by decide +kernel
theorem d_So_learn_55 : decode m_So_learn.2.1 55 = .ok (.getfield 52, 3) := by decide +kernel
theorem d_So_learn_58 : decode m_So_learn.2.1 58 = .ok (.aload_n 0, 1) := by decide +kernel
theorem d_So_learn_59 : decode m_So_learn.2.1 59 = .ok (.getfield 155, 3) := by decide +kernel
theorem d_So_learn_62 : decode m_So_learn.2.1 62 = .ok (.invokevirtual 148, 3) := by decide +kernel
theorem d_So_learn_65 : decode m_So_learn.2.1 65 = .ok (.aload_n 0, 1) := by decide +kernel
theorem d_So_learn_66 : decode m_So_learn.2.1 66 = .ok (.getfield 152, 3) := by decide +kernel
theorem d_So_learn_69 : decode m_So_learn.2.1 69 = .ok (.ifCond .ne 5, 3) := by decide +kernel
theorem d_So_learn_72 : decode m_So_learn.2.1 72 = .ok (.iconst 0, 1) := by decide +kernel
theorem d_So_learn_73 : decode m_So_learn.2.1 73 = .ok (.ireturn, 1) := by decide +kernel
theorem d_So_learn_74 : decode m_So_learn.2.1 74 = .ok (.aload_n 0, 1) := by decide +kernel
theorem d_So_learn_75 : decode m_So_learn.2.1 75 = .ok (.aload_n 0, 1) := by decide +kernel
theorem d_So_learn_76 : decode m_So_learn.2.1 76 = .ok (.getfield 152, 3) := by decide +kernel
theorem d_So_learn_79 : decode m_So_learn.2.1 79 = .ok (.iconst 1, 1) := by decide +kernel
theorem d_So_learn_80 : decode m_So_learn.2.1 80 = .ok (.if_icmp .le 19, 3) := by decide +kernel
theorem d_So_learn_83 : decode m_So_learn.2.1 83 = .ok (.aload_n 0, 1) := by decide +kernel
theorem d_So_learn_84 : decode m_So_learn.2.1 84 = .ok (.getfield 31, 3) := by decide +kernel
theorem d_So_learn_87 : decode m_So_learn.2.1 87 = .ok (.aload_n 0, 1) := by decide +kernel
theorem d_So_learn_88 : decode m_So_learn.2.1 88 = .ok (.getfield 49, 3) := by decide +kernel
theorem d_So_learn_91 : decode m_So_learn.2.1 91 = .ok (.iconst 1, 1) := by decide +kernel
theorem d_So_learn_92 : decode m_So_learn.2.1 92 = .ok (.iaload, 1) := by decide +kernel
theorem d_So_learn_93 : decode m_So_learn.2.1 93 = .ok (.iconst 1, 1) := by decide +kernel
theorem d_So_learn_94 : decode m_So_learn.2.1 94 = .ok (.ishr, 1) := by decide +kernel
theorem d_So_learn_95 : decode m_So_learn.2.1 95 = .ok (.iaload, 1) := by decide +kernel
theorem d_So_learn_96 : decode m_So_learn.2.1 96 = .ok (.goto 4, 3) := by decide +kernel
theorem d_So_learn_99 : decode m_So_learn.2.1 99 = .ok (.iconst 0, 1) := by decide +kernel
theorem d_So_learn_100 : decode m_So_learn.2.1 100 = .ok (.invokevirtual 100, 3) := by decide +kernel
theorem d_So_learn_103 : decode m_So_learn.2.1 103 = .ok (.aload_n 0, 1) := by decide +kernel
theorem d_So_learn_104 : decode m_So_learn.2.1 104 = .ok (.aload_n 0, 1) := by decide +kernel
theorem d_So_learn_105 : decode m_So_learn.2.1 105 = .ok (.getfield 49, 3) := by decide +kernel
theorem d_So_learn_108 : decode m_So_learn.2.1 108 = .ok (.iconst 0, 1) := by decide +kernel
theorem d_So_learn_109 : decode m_So_learn.2.1 109 = .ok (.iaload, 1) := by decide +kernel
theorem d_So_learn_110 : decode m_So_learn.2.1 110 = .ok (.aload_n 0, 1) := by decide +kernel
theorem d_So_learn_111 : decode m_So_learn.2.1 111 = .ok (.getfield 152, 3) := by decide +kernel
theorem d_So_learn_114 : decode m_So_learn.2.1 114 = .ok (.iconst 1, 1) := by decide +kernel
theorem d_So_learn_115 : decode m_So_learn.2.1 115 = .ok (.if_icmp .le 21, 3) := by decide +kernel
theorem d_So_learn_118 : decode m_So_learn.2.1 118 = .ok (.aload_n 0, 1) := by decide +kernel
theorem d_So_learn_119 : decode m_So_learn.2.1 119 = .ok (.getfield 12, 3) := by decide +kernel
theorem d_So_learn_122 : decode m_So_learn.2.1 122 = .ok (.aload_n 0, 1) := by decide +kernel
theorem d_So_learn_123 : decode m_So_learn.2.1 123 = .ok (.getfield 49, 3) := by decide +kernel
theorem d_So_learn_126 : decode m_So_learn.2.1 126 = .ok (.aload_n 0, 1) := by decide +kernel
theorem d_So_learn_127 : decode m_So_learn.2.1 127 = .ok (.getfield 152, 3) := by decide +kernel
theorem d_So_learn_130 : decode m_So_learn.2.1 130 = .ok (.invokevirtual 111, 3) := by decide +kernel
theorem d_So_learn_133 : decode m_So_learn.2.1 133 = .ok (.goto 4, 3) := by decide +kernel
theorem d_So_learn_136 : decode m_So_learn.2.1 136 = .ok (.iconst 0, 1) := by decide +kernel
theorem d_So_learn_137 : decode m_So_learn.2.1 137 = .ok (.invokevirtual 96, 3) := by decide +kernel
theorem d_So_learn_140 : decode m_So_learn.2.1 140 = .ok (.iconst 1, 1) := by decide +kernel
theorem d_So_learn_141 : decode m_So_learn.2.1 141 = .ok (.ireturn, 1) := by decide +kernel
theorem d_So_gather_0 : decode m_So_gather.2.1 0 = .ok (.aload_n 0, 1) := by decide +kernel
theorem d_So_gather_1 : decode m_So_gather.2.1 1 = .ok (.getfield 52, 3) := by decide +kernel
theorem d_So_gather_4 : decode m_So_gather.2.1 4 = .ok (.aload_n 0, 1) := by decide +kernel
theorem d_So_gather_5 : decode m_So_gather.2.1 5 = .ok (.getfield 155, 3) := by decide +kernel
theorem d_So_gather_8 : decode m_So_gather.2.1 8 = .ok (.iload_n 1, 1) := by decide +kernel
theorem d_So_gather_9 : decode m_So_gather.2.1 9 = .ok (.iastore, 1) := by decide +kernel
theorem d_So_gather_10 : decode m_So_gather.2.1 10 = .ok (.aload_n 0, 1) := by decide +kernel
theorem d_So_gather_11 : decode m_So_gather.2.1 11 = .ok (.dup, 1) := by decide +kernel
theorem d_So_gather_12 : decode m_So_gather.2.1 12 = .ok (.getfield 155, 3) := by decide +kernel
theorem d_So_gather_15 : decode m_So_gather.2.1 15 = .ok (.iconst 1, 1) := by decide +kernel
theorem d_So_gather_16 : decode m_So_gather.2.1 16 = .ok (.iadd, 1) := by decide +kernel
theorem d_So_gather_17 : decode m_So_gather.2.1 17 = .ok (.putfield 155, 3) := by decide +kernel
theorem d_So_gather_20 : decode m_So_gather.2.1 20 = .ok (.iconst 0, 1) := by decide +kernel
theorem d_So_gather_21 : decode m_So_gather.2.1 21 = .ok (.istore_n 2, 1) := by decide +kernel
theorem d_So_gather_22 : decode m_So_gather.2.1 22 = .ok (.iload_n 1, 1) := by decide +kernel
theorem d_So_gather_23 : decode m_So_gather.2.1 23 = .ok (.iconst 3, 1) := by decide +kernel
theorem d_So_gather_24 : decode m_So_gather.2.1 24 = .ok (.iadd, 1) := by decide +kernel
theorem d_So_gather_25 : decode m_So_gather.2.1 25 = .ok (.aload_n 0, 1) := by decide +kernel
theorem d_So_gather_26 : decode m_So_gather.2.1 26 = .ok (.getfield 12, 3) := by decide +kernel
theorem d_So_gather_29 : decode m_So_gather.2.1 29 = .ok (.getfield 136, 3) := by decide +kernel
theorem d_So_gather_32 : decode m_So_gather.2.1 32 = .ok (.iload_n 1, 1) := by decide +kernel
theorem d_So_gather_33 : decode m_So_gather.2.1 33 = .ok (.iaload, 1) := by decide +kernel
theorem d_So_gather_34 : decode m_So_gather.2.1 34 = .ok (.iadd, 1) := by decide +kernel
theorem d_So_gather_35 : decode m_So_gather.2.1 35 = .ok (.istore_n 3, 1) := by decide +kernel
theorem d_So_gather_36 : decode m_So_gather.2.1 36 = .ok (.iload_n 1, 1) := by decide +kernel
theorem d_So_gather_37 : decode m_So_gather.2.1 37 = .ok (.iconst 3, 1) := by decide +kernel
theorem d_So_gather_38 : decode m_So_gather.2.1 38 = .ok (.iadd, 1) := by decide +kernel
theorem d_So_gather_39 : decode m_So_gather.2.1 39 = .ok (.istore 4, 2) := by decide +kernel
theorem d_So_gather_41 : decode m_So_gather.2.1 41 = .ok (.iload 4, 2) := by decide +kernel
theorem d_So_gather_43 : decode m_So_gather.2.1 43 = .ok (.iload_n 3, 1) := by decide +kernel
theorem d_So_gather_44 : decode m_So_gather.2.1 44 = .ok (.if_icmp .ge 88, 3) := by decide +kernel
theorem d_So_gather_47 : decode m_So_gather.2.1 47 = .ok (.aload_n 0, 1) := by decide +kernel
theorem d_So_gather_48 : decode m_So_gather.2.1 48 = .ok (.getfield 12, 3) := by decide +kernel
theorem d_So_gather_51 : decode m_So_gather.2.1 51 = .ok (.getfield 136, 3) := by decide +kernel
theorem d_So_gather_54 : decode m_So_gather.2.1 54 = .ok (.iload 4, 2) := by decide +kernel
theorem d_So_gather_56 : decode m_So_gather.2.1 56 = .ok (.iaload, 1) := by decide +kernel
theorem d_So_gather_57 : decode m_So_gather.2.1 57 = .ok (.istore 5, 2) := by decide +kernel
theorem d_So_gather_59 : decode m_So_gather.2.1 59 = .ok (.iload 5, 2) := by decide +kernel
theorem d_So_gather_61 : decode m_So_gather.2.1 61 = .ok (.iconst 1, 1) := by decide +kernel
theorem d_So_gather_62 : decode m_So_gather.2.1 62 = .ok (.ishr, 1) := by decide +kernel
theorem d_So_gather_63 : decode m_So_gather.2.1 63 = .ok (.istore 6, 2) := by decide +kernel
theorem d_So_gather_65 : decode m_So_gather.2.1 65 = .ok (.aload_n 0, 1) := by decide +kernel
theorem d_So_gather_66 : decode m_So_gather.2.1 66 = .ok (.getfield 27, 3) := by decide +kernel
theorem d_So_gather_69 : decode m_So_gather.2.1 69 = .ok (.iload 5, 2) := by decide +kernel
theorem d_So_gather_71 : decode m_So_gather.2.1 71 = .ok (.iaload, 1) := by decide +kernel
theorem d_So_gather_72 : decode m_So_gather.2.1 72 = .ok (.iconst (-1), 1) := by decide +kernel
theorem d_So_gather_73 : decode m_So_gather.2.1 73 = .ok (.if_icmp .ne 53, 3) := by decide +kernel
theorem d_So_gather_76 : decode m_So_gather.2.1 76 = .ok (.aload_n 0, 1) := by decide +kernel
theorem d_So_gather_77 : decode m_So_gather.2.1 77 = .ok (.getfield 31, 3) := by decide +kernel
theorem d_So_gather_80 : decode m_So_gather.2.1 80 = .ok (.iload 6, 2) := by decide +kernel
theorem d_So_gather_82 : decode m_So_gather.2.1 82 = .ok (.iaload, 1) := by decide +kernel
theorem d_So_gather_83 : decode m_So_gather.2.1 83 = .ok (.ifCond .le 43, 3) := by decide +kernel
theorem d_So_gather_86 : decode m_So_gather.2.1 86 = .ok (.aload_n 0, 1) := by decide +kernel
theorem d_So_gather_87 : decode m_So_gather.2.1 87 = .ok (.getfield 46, 3) := by decide +kernel
theorem d_So_gather_90 : decode m_So_gather.2.1 90 = .ok (.iload 6, 2) := by decide +kernel
theorem d_So_gather_92 : decode m_So_gather.2.1 92 = .ok (.iaload, 1) := by decide +kernel
theorem d_So_gather_93 : decode m_So_gather.2.1 93 = .ok (.ifCond .ne 33, 3) := by decide +kernel
theorem d_So_gather_96 : decode m_So_gather.2.1 96 = .ok (.aload_n 0, 1) := by decide +kernel
theorem d_So_gather_97 : decode m_So_gather.2.1 97 = .ok (.getfield 46, 3) := by decide +kernel
theorem d_So_gather_100 : decode m_So_gather.2.1 100 = .ok (.iload 6, 2) := by decide +kernel
theorem d_So_gather_102 : decode m_So_gather.2.1 102 = .ok (.iconst 1, 1) := by decide +kernel
theorem d_So_gather_103 : decode m_So_gather.2.1 103 = .ok (.iastore, 1) := by decide +kernel
theorem d_So_gather_104 : decode m_So_gather.2.1 104 = .ok (.iload_n 2, 1) := by decide +kernel
theorem d_So_gather_105 : decode m_So_gather.2.1 105 = .ok (.aload_n 0, 1) := by decide +kernel
theorem d_So_gather_106 : decode m_So_gather.2.1 106 = .ok (.getfield 31, 3) := by decide +kernel
theorem d_So_gather_109 : decode m_So_gather.2.1 109 = .ok (.iload 6, 2) := by decide +kernel
theorem d_So_gather_111 : decode m_So_gather.2.1 111 = .ok (.iaload, 1) := by decide +kernel
theorem d_So_gather_112 : decode m_So_gather.2.1 112 = .ok (.aload_n 0, 1) := by decide +kernel
theorem d_So_gather_113 : decode m_So_gather.2.1 113 = .ok (.getfield 87, 3) := by decide +kernel
theorem d_So_gather_116 : decode m_So_gather.2.1 116 = .ok (.if_icmp .ne 7, 3) := by decide +kernel
theorem d_So_gather_119 : decode m_So_gather.2.1 119 = .ok (.iconst 1, 1) := by decide +kernel
theorem d_So_gather_120 : decode m_So_gather.2.1 120 = .ok (.goto 4, 3) := by decide +kernel
theorem d_So_gather_123 : decode m_So_gather.2.1 123 = .ok (.iconst 0, 1) := by decide +kernel
theorem d_So_gather_124 : decode m_So_gather.2.1 124 = .ok (.iadd, 1) := by decide +kernel
theorem d_So_gather_125 : decode m_So_gather.2.1 125 = .ok (.istore_n 2, 1) := by decide +kernel
theorem d_So_gather_126 : decode m_So_gather.2.1 126 = .ok (.iinc 4 1, 3) := by decide +kernel
theorem d_So_gather_129 : decode m_So_gather.2.1 129 = .ok (.goto (-88), 3) := by decide +kernel
theorem d_So_gather_132 : decode m_So_gather.2.1 132 = .ok (.iload_n 2, 1) := by decide +kernel
theorem d_So_gather_133 : decode m_So_gather.2.1 133 = .ok (.ireturn, 1) := by decide +kernel
theorem d_So_trace_0 : decode m_So_trace.2.1 0 = .ok (.iload_n 2, 1) := by decide +kernel
theorem d_So_trace_1 : decode m_So_trace.2.1 1 = .ok (.istore_n 3, 1) := by decide +kernel
theorem d_So_trace_2 : decode m_So_trace.2.1 2 = .ok (.aload_n 0, 1) := by decide +kernel
theorem d_So_trace_3 : decode m_So_trace.2.1 3 = .ok (.getfield 78, 3) := by decide +kernel
theorem d_So_trace_6 : decode m_So_trace.2.1 6 = .ok (.iconst 1, 1) := by decide +kernel
theorem d_So_trace_7 : decode m_So_trace.2.1 7 = .ok (.isub, 1) := by decide +kernel
theorem d_So_trace_8 : decode m_So_trace.2.1 8 = .ok (.istore 4, 2) := by decide +kernel
theorem d_So_trace_10 : decode m_So_trace.2.1 10 = .ok (.iload 4, 2) := by decide +kernel
theorem d_So_trace_12 : decode m_So_trace.2.1 12 = .ok (.aload_n 0, 1) := by decide +kernel
theorem d_So_trace_13 : decode m_So_trace.2.1 13 = .ok (.getfield 40, 3) := by decide +kernel
theorem d_So_trace_16 : decode m_So_trace.2.1 16 = .ok (.iconst 1, 1) := by decide +kernel
theorem d_So_trace_17 : decode m_So_trace.2.1 17 = .ok (.iaload, 1) := by decide +kernel
theorem d_So_trace_18 : decode m_So_trace.2.1 18 = .ok (.if_icmp .lt 143, 3) := by decide +kernel
theorem d_So_trace_21 : decode m_So_trace.2.1 21 = .ok (.aload_n 0, 1) := by decide +kernel
theorem d_So_trace_22 : decode m_So_trace.2.1 22 = .ok (.getfield 37, 3) := by decide +kernel
theorem d_So_trace_25 : decode m_So_trace.2.1 25 = .ok (.iload 4, 2) := by decide +kernel
theorem d_So_trace_27 : decode m_So_trace.2.1 27 = .ok (.iaload, 1) := by decide +kernel
theorem d_So_trace_28 : decode m_So_trace.2.1 28 = .ok (.istore 5, 2) := by decide +kernel
theorem d_So_trace_30 : decode m_So_trace.2.1 30 = .ok (.iload 5, 2) := by decide +kernel
theorem d_So_trace_32 : decode m_So_trace.2.1 32 = .ok (.iconst 1, 1) := by decide +kernel
theorem d_So_trace_33 : decode m_So_trace.2.1 33 = .ok (.ishr, 1) := by decide +kernel
theorem d_So_trace_34 : decode m_So_trace.2.1 34 = .ok (.istore 6, 2) := by decide +kernel
theorem d_So_trace_36 : decode m_So_trace.2.1 36 = .ok (.aload_n 0, 1) := by decide +kernel
theorem d_So_trace_37 : decode m_So_trace.2.1 37 = .ok (.getfield 46, 3) := by decide +kernel
theorem d_So_trace_40 : decode m_So_trace.2.1 40 = .ok (.iload 6, 2) := by decide +kernel
theorem d_So_trace_42 : decode m_So_trace.2.1 42 = .ok (.iaload, 1) := by decide +kernel
theorem d_So_trace_43 : decode m_So_trace.2.1 43 = .ok (.ifCond .ne 6, 3) := by decide +kernel
theorem d_So_trace_46 : decode m_So_trace.2.1 46 = .ok (.goto 109, 3) := by decide +kernel
theorem d_So_trace_49 : decode m_So_trace.2.1 49 = .ok (.aload_n 0, 1) := by decide +kernel
theorem d_So_trace_50 : decode m_So_trace.2.1 50 = .ok (.getfield 46, 3) := by decide +kernel
theorem d_So_trace_53 : decode m_So_trace.2.1 53 = .ok (.iload 6, 2) := by decide +kernel
theorem d_So_trace_55 : decode m_So_trace.2.1 55 = .ok (.iconst 0, 1) := by decide +kernel
theorem d_So_trace_56 : decode m_So_trace.2.1 56 = .ok (.iastore, 1) := by decide +kernel
theorem d_So_trace_57 : decode m_So_trace.2.1 57 = .ok (.aload_n 0, 1) := by decide +kernel
theorem d_So_trace_58 : decode m_So_trace.2.1 58 = .ok (.getfield 31, 3) := by decide +kernel
theorem d_So_trace_61 : decode m_So_trace.2.1 61 = .ok (.iload 6, 2) := by decide +kernel
theorem d_So_trace_63 : decode m_So_trace.2.1 63 = .ok (.iaload, 1) := by decide +kernel
theorem d_So_trace_64 : decode m_So_trace.2.1 64 = .ok (.aload_n 0, 1) := by decide +kernel
theorem d_So_trace_65 : decode m_So_trace.2.1 65 = .ok (.getfield 87, 3) := by decide +kernel
theorem d_So_trace_68 : decode m_So_trace.2.1 68 = .ok (.if_icmp .ne 7, 3) := by decide +kernel
theorem d_So_trace_71 : decode m_So_trace.2.1 71 = .ok (.iconst 1, 1) := by decide +kernel
theorem d_So_trace_72 : decode m_So_trace.2.1 72 = .ok (.goto 4, 3) := by decide +kernel
theorem d_So_trace_75 : decode m_So_trace.2.1 75 = .ok (.iconst 0, 1) := by decide +kernel
theorem d_So_trace_76 : decode m_So_trace.2.1 76 = .ok (.istore 7, 2) := by decide +kernel
theorem d_So_trace_78 : decode m_So_trace.2.1 78 = .ok (.aload_n 0, 1) := by decide +kernel
theorem d_So_trace_79 : decode m_So_trace.2.1 79 = .ok (.getfield 34, 3) := by decide +kernel
theorem d_So_trace_82 : decode m_So_trace.2.1 82 = .ok (.iload 6, 2) := by decide +kernel
theorem d_So_trace_84 : decode m_So_trace.2.1 84 = .ok (.iaload, 1) := by decide +kernel
theorem d_So_trace_85 : decode m_So_trace.2.1 85 = .ok (.ifCond .eq 17, 3) := by decide +kernel
theorem d_So_trace_88 : decode m_So_trace.2.1 88 = .ok (.iload_n 1, 1) := by decide +kernel
theorem d_So_trace_89 : decode m_So_trace.2.1 89 = .ok (.ifCond .eq 39, 3) := by decide +kernel
theorem d_So_trace_92 : decode m_So_trace.2.1 92 = .ok (.iload 7, 2) := by decide +kernel
theorem d_So_trace_94 : decode m_So_trace.2.1 94 = .ok (.ifCond .eq 8, 3) := by decide +kernel
theorem d_So_trace_97 : decode m_So_trace.2.1 97 = .ok (.iload_n 3, 1) := by decide +kernel
theorem d_So_trace_98 : decode m_So_trace.2.1 98 = .ok (.iconst 1, 1) := by decide +kernel
theorem d_So_trace_99 : decode m_So_trace.2.1 99 = .ok (.if_icmp .ne 29, 3) := by decide +kernel
theorem d_So_trace_102 : decode m_So_trace.2.1 102 = .ok (.aload_n 0, 1) := by decide +kernel
theorem d_So_trace_103 : decode m_So_trace.2.1 103 = .ok (.getfield 49, 3) := by decide +kernel
theorem d_So_trace_106 : decode m_So_trace.2.1 106 = .ok (.aload_n 0, 1) := by decide +kernel
theorem d_So_trace_107 : decode m_So_trace.2.1 107 = .ok (.getfield 152, 3) := by decide +kernel
theorem d_So_trace_110 : decode m_So_trace.2.1 110 = .ok (.iload 5, 2) := by decide +kernel
theorem d_So_trace_112 : decode m_So_trace.2.1 112 = .ok (.iconst 1, 1) := by decide +kernel
theorem d_So_trace_113 : decode m_So_trace.2.1 113 = .ok (.ixor, 1) := by decide +kernel
theorem d_So_trace_114 : decode m_So_trace.2.1 114 = .ok (.iastore, 1) := by decide +kernel
theorem d_So_trace_115 : decode m_So_trace.2.1 115 = .ok (.aload_n 0, 1) := by decide +kernel
theorem d_So_trace_116 : decode m_So_trace.2.1 116 = .ok (.dup, 1) := by decide +kernel
theorem d_So_trace_117 : decode m_So_trace.2.1 117 = .ok (.getfield 152, 3) := by decide +kernel
theorem d_So_trace_120 : decode m_So_trace.2.1 120 = .ok (.iconst 1, 1) := by decide +kernel
theorem d_So_trace_121 : decode m_So_trace.2.1 121 = .ok (.iadd, 1) := by decide +kernel
theorem d_So_trace_122 : decode m_So_trace.2.1 122 = .ok (.putfield 152, 3) := by decide +kernel
theorem d_So_trace_125 : decode m_So_trace.2.1 125 = .ok (.goto 17, 3) := by decide +kernel
theorem d_So_trace_128 : decode m_So_trace.2.1 128 = .ok (.iload_n 3, 1) := by decide +kernel
theorem d_So_trace_129 : decode m_So_trace.2.1 129 = .ok (.aload_n 0, 1) := by decide +kernel
theorem d_So_trace_130 : decode m_So_trace.2.1 130 = .ok (.aload_n 0, 1) := by decide +kernel
theorem d_So_trace_131 : decode m_So_trace.2.1 131 = .ok (.getfield 34, 3) := by decide +kernel
theorem d_So_trace_134 : decode m_So_trace.2.1 134 = .ok (.iload 6, 2) := by decide +kernel
theorem d_So_trace_136 : decode m_So_trace.2.1 136 = .ok (.iaload, 1) := by decide +kernel
theorem d_So_trace_137 : decode m_So_trace.2.1 137 = .ok (.invokevirtual 158, 3) := by decide +kernel
theorem d_So_trace_140 : decode m_So_trace.2.1 140 = .ok (.iadd, 1) := by decide +kernel
theorem d_So_trace_141 : decode m_So_trace.2.1 141 = .ok (.istore_n 3, 1) := by decide +kernel
theorem d_So_trace_142 : decode m_So_trace.2.1 142 = .ok (.iload_n 3, 1) := by decide +kernel
theorem d_So_trace_143 : decode m_So_trace.2.1 143 = .ok (.iload 7, 2) := by decide +kernel
theorem d_So_trace_145 : decode m_So_trace.2.1 145 = .ok (.ifCond .eq 7, 3) := by decide +kernel
theorem d_So_trace_148 : decode m_So_trace.2.1 148 = .ok (.iconst 1, 1) := by decide +kernel
theorem d_So_trace_149 : decode m_So_trace.2.1 149 = .ok (.goto 4, 3) := by decide +kernel
theorem d_So_trace_152 : decode m_So_trace.2.1 152 = .ok (.iconst 0, 1) := by decide +kernel
theorem d_So_trace_153 : decode m_So_trace.2.1 153 = .ok (.isub, 1) := by decide +kernel
theorem d_So_trace_154 : decode m_So_trace.2.1 154 = .ok (.istore_n 3, 1) := by decide +kernel
theorem d_So_trace_155 : decode m_So_trace.2.1 155 = .ok (.iinc 4 (-1), 3) := by decide +kernel
theorem d_So_trace_158 : decode m_So_trace.2.1 158 = .ok (.goto (-148), 3) := by decide +kernel
theorem d_So_trace_161 : decode m_So_trace.2.1 161 = .ok (.return_, 1) := by decide +kernel
theorem d_So_nextWish_0 : decode m_So_nextWish.2.1 0 = .ok (.iconst 0, 1) := by decide +kernel
theorem d_So_nextWish_1 : decode m_So_nextWish.2.1 1 = .ok (.istore_n 1, 1) := by decide +kernel
theorem d_So_nextWish_2 : decode m_So_nextWish.2.1 2 = .ok (.iload_n 1, 1) := by decide +kernel
theorem d_So_nextWish_3 : decode m_So_nextWish.2.1 3 = .ok (.aload_n 0, 1) := by decide +kernel
theorem d_So_nextWish_4 : decode m_So_nextWish.2.1 4 = .ok (.getfield 90, 3) := by decide +kernel
theorem d_So_nextWish_7 : decode m_So_nextWish.2.1 7 = .ok (.if_icmp .ge 30, 3) := by decide +kernel
theorem d_So_nextWish_10 : decode m_So_nextWish.2.1 10 = .ok (.aload_n 0, 1) := by decide +kernel
theorem d_So_nextWish_11 : decode m_So_nextWish.2.1 11 = .ok (.getfield 27, 3) := by decide +kernel
theorem d_So_nextWish_14 : decode m_So_nextWish.2.1 14 = .ok (.aload_n 0, 1) := by decide +kernel
theorem d_So_nextWish_15 : decode m_So_nextWish.2.1 15 = .ok (.getfield 43, 3) := by decide +kernel
theorem d_So_nextWish_18 : decode m_So_nextWish.2.1 18 = .ok (.iload_n 1, 1) := by decide +kernel
theorem d_So_nextWish_19 : decode m_So_nextWish.2.1 19 = .ok (.iaload, 1) := by decide +kernel
theorem d_So_nextWish_20 : decode m_So_nextWish.2.1 20 = .ok (.iaload, 1) := by decide +kernel
theorem d_So_nextWish_21 : decode m_So_nextWish.2.1 21 = .ok (.ifCond .ne 10, 3) := by decide +kernel
theorem d_So_nextWish_24 : decode m_So_nextWish.2.1 24 = .ok (.aload_n 0, 1) := by decide +kernel
theorem d_So_nextWish_25 : decode m_So_nextWish.2.1 25 = .ok (.getfield 43, 3) := by decide +kernel
theorem d_So_nextWish_28 : decode m_So_nextWish.2.1 28 = .ok (.iload_n 1, 1) := by decide +kernel
theorem d_So_nextWish_29 : decode m_So_nextWish.2.1 29 = .ok (.iaload, 1) := by decide +kernel
theorem d_So_nextWish_30 : decode m_So_nextWish.2.1 30 = .ok (.ireturn, 1) := by decide +kernel
theorem d_So_nextWish_31 : decode m_So_nextWish.2.1 31 = .ok (.iinc 1 1, 3) := by decide +kernel
theorem d_So_nextWish_34 : decode m_So_nextWish.2.1 34 = .ok (.goto (-32), 3) := by decide +kernel
theorem d_So_nextWish_37 : decode m_So_nextWish.2.1 37 = .ok (.iconst (-1), 1) := by decide +kernel
theorem d_So_nextWish_38 : decode m_So_nextWish.2.1 38 = .ok (.ireturn, 1) := by decide +kernel
theorem d_So_checkModel_0 : decode m_So_checkModel.2.1 0 = .ok (.aload_n 0, 1) := by decide +kernel
theorem d_So_checkModel_1 : decode m_So_checkModel.2.1 1 = .ok (.getfield 12, 3) := by decide +kernel
theorem d_So_checkModel_4 : decode m_So_checkModel.2.1 4 = .ok (.aload_n 0, 1) := by decide +kernel
theorem d_So_checkModel_5 : decode m_So_checkModel.2.1 5 = .ok (.getfield 27, 3) := by decide +kernel
theorem d_So_checkModel_8 : decode m_So_checkModel.2.1 8 = .ok (.invokevirtual 169, 3) := by decide +kernel
theorem d_So_checkModel_11 : decode m_So_checkModel.2.1 11 = .ok (.ifCond .ne 16, 3) := by decide +kernel
theorem d_So_checkModel_14 : decode m_So_checkModel.2.1 14 = .ok (.aload_n 0, 1) := by decide +kernel
theorem d_So_checkModel_15 : decode m_So_checkModel.2.1 15 = .ok (.getfield 21, 3) := by decide +kernel
theorem d_So_checkModel_18 : decode m_So_checkModel.2.1 18 = .ok (.dup, 1) := by decide +kernel
theorem d_So_checkModel_19 : decode m_So_checkModel.2.1 19 = .ok (.getfield 55, 3) := by decide +kernel
theorem d_So_checkModel_22 : decode m_So_checkModel.2.1 22 = .ok (.iconst 1, 1) := by decide +kernel
theorem d_So_checkModel_23 : decode m_So_checkModel.2.1 23 = .ok (.iadd, 1) := by decide +kernel
theorem d_So_checkModel_24 : decode m_So_checkModel.2.1 24 = .ok (.putfield 55, 3) := by decide +kernel
theorem d_So_checkModel_27 : decode m_So_checkModel.2.1 27 = .ok (.iconst 0, 1) := by decide +kernel
theorem d_So_checkModel_28 : decode m_So_checkModel.2.1 28 = .ok (.istore_n 1, 1) := by decide +kernel
theorem d_So_checkModel_29 : decode m_So_checkModel.2.1 29 = .ok (.iload_n 1, 1) := by decide +kernel
theorem d_So_checkModel_30 : decode m_So_checkModel.2.1 30 = .ok (.aload_n 0, 1) := by decide +kernel
theorem d_So_checkModel_31 : decode m_So_checkModel.2.1 31 = .ok (.getfield 90, 3) := by decide +kernel
theorem d_So_checkModel_34 : decode m_So_checkModel.2.1 34 = .ok (.if_icmp .ge 114, 3) := by decide +kernel
theorem d_So_checkModel_37 : decode m_So_checkModel.2.1 37 = .ok (.aload_n 0, 1) := by decide +kernel
theorem d_So_checkModel_38 : decode m_So_checkModel.2.1 38 = .ok (.getfield 27, 3) := by decide +kernel
theorem d_So_checkModel_41 : decode m_So_checkModel.2.1 41 = .ok (.aload_n 0, 1) := by decide +kernel
theorem d_So_checkModel_42 : decode m_So_checkModel.2.1 42 = .ok (.getfield 43, 3) := by decide +kernel
theorem d_So_checkModel_45 : decode m_So_checkModel.2.1 45 = .ok (.iload_n 1, 1) := by decide +kernel
theorem d_So_checkModel_46 : decode m_So_checkModel.2.1 46 = .ok (.iaload, 1) := by decide +kernel
theorem d_So_checkModel_47 : decode m_So_checkModel.2.1 47 = .ok (.iaload, 1) := by decide +kernel
theorem d_So_checkModel_48 : decode m_So_checkModel.2.1 48 = .ok (.iconst (-1), 1) := by decide +kernel
theorem d_So_checkModel_49 : decode m_So_checkModel.2.1 49 = .ok (.if_icmp .ne 93, 3) := by decide +kernel
theorem d_So_checkModel_52 : decode m_So_checkModel.2.1 52 = .ok (.aload_n 0, 1) := by decide +kernel
theorem d_So_checkModel_53 : decode m_So_checkModel.2.1 53 = .ok (.getfield 31, 3) := by decide +kernel
theorem d_So_checkModel_56 : decode m_So_checkModel.2.1 56 = .ok (.aload_n 0, 1) := by decide +kernel
theorem d_So_checkModel_57 : decode m_So_checkModel.2.1 57 = .ok (.getfield 43, 3) := by decide +kernel
theorem d_So_checkModel_60 : decode m_So_checkModel.2.1 60 = .ok (.iload_n 1, 1) := by decide +kernel
theorem d_So_checkModel_61 : decode m_So_checkModel.2.1 61 = .ok (.iaload, 1) := by decide +kernel
theorem d_So_checkModel_62 : decode m_So_checkModel.2.1 62 = .ok (.iconst 1, 1) := by decide +kernel
theorem d_So_checkModel_63 : decode m_So_checkModel.2.1 63 = .ok (.ishr, 1) := by decide +kernel
theorem d_So_checkModel_64 : decode m_So_checkModel.2.1 64 = .ok (.iaload, 1) := by decide +kernel
theorem d_So_checkModel_65 : decode m_So_checkModel.2.1 65 = .ok (.ifCond .le 77, 3) := by decide +kernel
theorem d_So_checkModel_68 : decode m_So_checkModel.2.1 68 = .ok (.aload_n 0, 1) := by decide +kernel
theorem d_So_checkModel_69 : decode m_So_checkModel.2.1 69 = .ok (.getfield 49, 3) := by decide +kernel
theorem d_So_checkModel_72 : decode m_So_checkModel.2.1 72 = .ok (.iconst 0, 1) := by decide +kernel
theorem d_So_checkModel_73 : decode m_So_checkModel.2.1 73 = .ok (.aload_n 0, 1) := by decide +kernel
theorem d_So_checkModel_74 : decode m_So_checkModel.2.1 74 = .ok (.getfield 43, 3) := by decide +kernel
theorem d_So_checkModel_77 : decode m_So_checkModel.2.1 77 = .ok (.iload_n 1, 1) := by decide +kernel
theorem d_So_checkModel_78 : decode m_So_checkModel.2.1 78 = .ok (.iaload, 1) := by decide +kernel
theorem d_So_checkModel_79 : decode m_So_checkModel.2.1 79 = .ok (.iconst 1, 1) := by decide +kernel
theorem d_So_checkModel_80 : decode m_So_checkModel.2.1 80 = .ok (.ixor, 1) := by decide +kernel
theorem d_So_checkModel_81 : decode m_So_checkModel.2.1 81 = .ok (.iastore, 1) := by decide +kernel
theorem d_So_checkModel_82 : decode m_So_checkModel.2.1 82 = .ok (.aload_n 0, 1) := by decide +kernel
theorem d_So_checkModel_83 : decode m_So_checkModel.2.1 83 = .ok (.iconst 1, 1) := by decide +kernel
theorem d_So_checkModel_84 : decode m_So_checkModel.2.1 84 = .ok (.putfield 152, 3) := by decide +kernel
theorem d_So_checkModel_87 : decode m_So_checkModel.2.1 87 = .ok (.aload_n 0, 1) := by decide +kernel
theorem d_So_checkModel_88 : decode m_So_checkModel.2.1 88 = .ok (.iconst 0, 1) := by decide +kernel
theorem d_So_checkModel_89 : decode m_So_checkModel.2.1 89 = .ok (.putfield 155, 3) := by decide +kernel
theorem d_So_checkModel_92 : decode m_So_checkModel.2.1 92 = .ok (.aload_n 0, 1) := by decide +kernel
theorem d_So_checkModel_93 : decode m_So_checkModel.2.1 93 = .ok (.getfield 46, 3) := by decide +kernel
theorem d_So_checkModel_96 : decode m_So_checkModel.2.1 96 = .ok (.aload_n 0, 1) := by decide +kernel
theorem d_So_checkModel_97 : decode m_So_checkModel.2.1 97 = .ok (.getfield 43, 3) := by decide +kernel
theorem d_So_checkModel_100 : decode m_So_checkModel.2.1 100 = .ok (.iload_n 1, 1) := by decide +kernel
theorem d_So_checkModel_101 : decode m_So_checkModel.2.1 101 = .ok (.iaload, 1) := by decide +kernel
theorem d_So_checkModel_102 : decode m_So_checkModel.2.1 102 = .ok (.iconst 1, 1) := by decide +kernel
theorem d_So_checkModel_103 : decode m_So_checkModel.2.1 103 = .ok (.ishr, 1) := by decide +kernel
theorem d_So_checkModel_104 : decode m_So_checkModel.2.1 104 = .ok (.iconst 1, 1) := by decide +kernel
theorem d_So_checkModel_105 : decode m_So_checkModel.2.1 105 = .ok (.iastore, 1) := by decide +kernel
theorem d_So_checkModel_106 : decode m_So_checkModel.2.1 106 = .ok (.aload_n 0, 1) := by decide +kernel
theorem d_So_checkModel_107 : decode m_So_checkModel.2.1 107 = .ok (.iconst 0, 1) := by decide +kernel
theorem d_So_checkModel_108 : decode m_So_checkModel.2.1 108 = .ok (.iconst 0, 1) := by decide +kernel
theorem d_So_checkModel_109 : decode m_So_checkModel.2.1 109 = .ok (.invokevirtual 165, 3) := by decide +kernel
theorem d_So_checkModel_112 : decode m_So_checkModel.2.1 112 = .ok (.aload_n 0, 1) := by decide +kernel
theorem d_So_checkModel_113 : decode m_So_checkModel.2.1 113 = .ok (.getfield 21, 3) := by decide +kernel
theorem d_So_checkModel_116 : decode m_So_checkModel.2.1 116 = .ok (.aload_n 0, 1) := by decide +kernel
theorem d_So_checkModel_117 : decode m_So_checkModel.2.1 117 = .ok (.getfield 12, 3) := by decide +kernel
theorem d_So_checkModel_120 : decode m_So_checkModel.2.1 120 = .ok (.getfield 136, 3) := by decide +kernel
theorem d_So_checkModel_123 : decode m_So_checkModel.2.1 123 = .ok (.aload_n 0, 1) := by decide +kernel
theorem d_So_checkModel_124 : decode m_So_checkModel.2.1 124 = .ok (.getfield 49, 3) := by decide +kernel
theorem d_So_checkModel_127 : decode m_So_checkModel.2.1 127 = .ok (.aload_n 0, 1) := by decide +kernel
theorem d_So_checkModel_128 : decode m_So_checkModel.2.1 128 = .ok (.getfield 152, 3) := by decide +kernel
theorem d_So_checkModel_131 : decode m_So_checkModel.2.1 131 = .ok (.aload_n 0, 1) := by decide +kernel
theorem d_So_checkModel_132 : decode m_So_checkModel.2.1 132 = .ok (.getfield 52, 3) := by decide +kernel
theorem d_So_checkModel_135 : decode m_So_checkModel.2.1 135 = .ok (.aload_n 0, 1) := by decide +kernel
theorem d_So_checkModel_136 : decode m_So_checkModel.2.1 136 = .ok (.getfield 155, 3) := by decide +kernel
theorem d_So_checkModel_139 : decode m_So_checkModel.2.1 139 = .ok (.invokevirtual 148, 3) := by decide +kernel
theorem d_So_checkModel_142 : decode m_So_checkModel.2.1 142 = .ok (.iinc 1 1, 3) := by decide +kernel
theorem d_So_checkModel_145 : decode m_So_checkModel.2.1 145 = .ok (.goto (-116), 3) := by decide +kernel
theorem d_So_checkModel_148 : decode m_So_checkModel.2.1 148 = .ok (.return_, 1) := by decide +kernel
theorem d_So_holds_0 : decode m_So_holds.2.1 0 = .ok (.aload_n 0, 1) := by decide +kernel
theorem d_So_holds_1 : decode m_So_holds.2.1 1 = .ok (.getfield 27, 3) := by decide +kernel
theorem d_So_holds_4 : decode m_So_holds.2.1 4 = .ok (.iload_n 1, 1) := by decide +kernel
theorem d_So_holds_5 : decode m_So_holds.2.1 5 = .ok (.iaload, 1) := by decide +kernel
theorem d_So_holds_6 : decode m_So_holds.2.1 6 = .ok (.iconst 1, 1) := by decide +kernel
theorem d_So_holds_7 : decode m_So_holds.2.1 7 = .ok (.if_icmp .ne 7, 3) := by decide +kernel
theorem d_So_holds_10 : decode m_So_holds.2.1 10 = .ok (.iconst 1, 1) := by decide +kernel
theorem d_So_holds_11 : decode m_So_holds.2.1 11 = .ok (.goto 4, 3) := by decide +kernel
theorem d_So_holds_14 : decode m_So_holds.2.1 14 = .ok (.iconst 0, 1) := by decide +kernel
theorem d_So_holds_15 : decode m_So_holds.2.1 15 = .ok (.ireturn, 1) := by decide +kernel
theorem f_So_62 : q_F "ProofHall$Solver" 62 5 7 "I" := ⟨_, _, _, rfl, by decide, rfl, Or.inl (List.mem_of_getElem? (i := 376) (by decide +kernel))⟩
theorem cd_Cl_clear : q_cd m_Cl_clear := ⟨by decide +kernel, List.mem_of_getElem? (i := 15) (by decide +kernel), Or.inl ⟨rfl, List.mem_of_getElem? (i := 1206) (by decide +kernel)⟩⟩
theorem cV_So_65 : q_CV "ProofHall$Solver" 65 9 m_Cl_clear 1 := ⟨⟨cd_Cl_clear, by decide, by decide, by decide, by decide +kernel⟩, Or.inl (List.mem_of_getElem? (i := 1203) (by decide +kernel)), List.mem_of_getElem? (i := 1204) (by decide +kernel), _, _, _, rfl, List.mem_append_right _ (List.mem_of_getElem? (i := 1205) (by decide +kernel))⟩
theorem cd_Cl_write : q_cd m_Cl_write := ⟨by decide +kernel, List.mem_of_getElem? (i := 15) (by decide +kernel), Or.inl ⟨rfl, List.mem_of_getElem? (i := 1213) (by decide +kernel)⟩⟩
theorem cV_So_69 : q_CV "ProofHall$Solver" 69 9 m_Cl_write 3 := ⟨⟨cd_Cl_write, by decide, by decide, by decide, by decide +kernel⟩, Or.inl (List.mem_of_getElem? (i := 1210) (by decide +kernel)), List.mem_of_getElem? (i := 1211) (by decide +kernel), _, _, _, rfl, List.mem_append_right _ (List.mem_of_getElem? (i := 1212) (by decide +kernel))⟩
theorem cd_Ch_clear : q_cd m_Ch_clear := ⟨by decide +kernel, List.mem_of_getElem? (i := 16) (by decide +kernel), Or.inl ⟨rfl, List.mem_of_getElem? (i := 1229) (by decide +kernel)⟩⟩
theorem cV_So_73 : q_CV "ProofHall$Solver" 73 10 m_Ch_clear 1 := ⟨⟨cd_Ch_clear, by decide, by decide, by decide, by decide +kernel⟩, Or.inl (List.mem_of_getElem? (i := 1226) (by decide +kernel)), List.mem_of_getElem? (i := 1227) (by decide +kernel), _, _, _, rfl, List.mem_append_right _ (List.mem_of_getElem? (i := 1228) (by decide +kernel))⟩
theorem f_So_27 : q_FR "ProofHall$Solver" 27 11 2 := ⟨"[I", by decide, ⟨_, _, _, rfl, by decide, rfl, Or.inl (List.mem_of_getElem? (i := 523) (by decide +kernel))⟩⟩
theorem cS_So_74 : q_CS "ProofHall$Solver" 74 m_H_wipe 2 := ⟨⟨cd_H_wipe, by decide, by decide, by decide, by decide +kernel⟩, Or.inr ⟨"ProofHall", List.mem_of_getElem? (i := 1231) (by decide +kernel)⟩, List.mem_of_getElem? (i := 1208) (by decide +kernel)⟩
theorem g_So_78 (nm : String) : q_G "ProofHall$Solver" 78 11 6 "I" nm := ⟨_, _, _, rfl, by decide, rfl, List.mem_of_getElem? (i := 527) (by decide +kernel), Or.inl rfl⟩
theorem g_So_81 (nm : String) : q_G "ProofHall$Solver" 81 11 7 "I" nm := ⟨_, _, _, rfl, by decide, rfl, List.mem_of_getElem? (i := 528) (by decide +kernel), Or.inl rfl⟩
theorem g_So_84 (nm : String) : q_G "ProofHall$Solver" 84 11 8 "I" nm := ⟨_, _, _, rfl, by decide, rfl, List.mem_of_getElem? (i := 529) (by decide +kernel), Or.inl rfl⟩
theorem g_So_87 (nm : String) : q_G "ProofHall$Solver" 87 11 10 "I" nm := ⟨_, _, _, rfl, by decide, rfl, List.mem_of_getElem? (i := 531) (by decide +kernel), Or.inl rfl⟩
theorem g_So_90 (nm : String) : q_G "ProofHall$Solver" 90 11 12 "I" nm := ⟨_, _, _, rfl, by decide, rfl, List.mem_of_getElem? (i := 533) (by decide +kernel), Or.inl rfl⟩
theorem g_So_93 (nm : String) : q_G "ProofHall$Solver" 93 11 13 "I" nm := ⟨_, _, _, rfl, by decide, rfl, List.mem_of_getElem? (i := 534) (by decide +kernel), Or.inl rfl⟩
theorem cd_So_assign : q_cd m_So_assign := ⟨by decide +kernel, List.mem_of_getElem? (i := 14) (by decide +kernel), Or.inl ⟨rfl, List.mem_of_getElem? (i := 1235) (by decide +kernel)⟩⟩
theorem cV_So_96 : q_CV "ProofHall$Solver" 96 11 m_So_assign 2 := ⟨⟨cd_So_assign, by decide, by decide, by decide, by decide +kernel⟩, Or.inl (List.mem_of_getElem? (i := 1232) (by decide +kernel)), List.mem_of_getElem? (i := 1234) (by decide +kernel), _, _, _, rfl, by decide +kernel⟩
theorem f_So_31 : q_FR "ProofHall$Solver" 31 11 3 := ⟨"[I", by decide, ⟨_, _, _, rfl, by decide, rfl, Or.inl (List.mem_of_getElem? (i := 524) (by decide +kernel))⟩⟩
theorem f_So_87 : q_F "ProofHall$Solver" 87 11 10 "I" := ⟨_, _, _, rfl, by decide, rfl, Or.inl (List.mem_of_getElem? (i := 531) (by decide +kernel))⟩
theorem f_So_34 : q_FR "ProofHall$Solver" 34 11 4 := ⟨"[I", by decide, ⟨_, _, _, rfl, by decide, rfl, Or.inl (List.mem_of_getElem? (i := 525) (by decide +kernel))⟩⟩
theorem f_So_37 : q_FR "ProofHall$Solver" 37 11 5 := ⟨"[I", by decide, ⟨_, _, _, rfl, by decide, rfl, Or.inl (List.mem_of_getElem? (i := 526) (by decide +kernel))⟩⟩
theorem f_So_78 : q_F "ProofHall$Solver" 78 11 6 "I" := ⟨_, _, _, rfl, by decide, rfl, Or.inl (List.mem_of_getElem? (i := 527) (by decide +kernel))⟩
theorem f_So_90 : q_F "ProofHall$Solver" 90 11 12 "I" := ⟨_, _, _, rfl, by decide, rfl, Or.inl (List.mem_of_getElem? (i := 533) (by decide +kernel))⟩
theorem f_So_43 : q_FR "ProofHall$Solver" 43 11 11 := ⟨"[I", by decide, ⟨_, _, _, rfl, by decide, rfl, Or.inl (List.mem_of_getElem? (i := 532) (by decide +kernel))⟩⟩
theorem cd_So_backTo : q_cd m_So_backTo := ⟨by decide +kernel, List.mem_of_getElem? (i := 14) (by decide +kernel), Or.inl ⟨rfl, List.mem_of_getElem? (i := 1247) (by decide +kernel)⟩⟩
theorem cV_So_100 : q_CV "ProofHall$Solver" 100 11 m_So_backTo 1 := ⟨⟨cd_So_backTo, by decide, by decide, by decide, by decide +kernel⟩, Or.inl (List.mem_of_getElem? (i := 1244) (by decide +kernel)), List.mem_of_getElem? (i := 1246) (by decide +kernel), _, _, _, rfl, by decide +kernel⟩
theorem cd_So_freeFirst : q_cd m_So_freeFirst := ⟨by decide +kernel, List.mem_of_getElem? (i := 14) (by decide +kernel), Or.inl ⟨rfl, List.mem_of_getElem? (i := 1254) (by decide +kernel)⟩⟩
theorem cV_So_107 : q_CV "ProofHall$Solver" 107 11 m_So_freeFirst 2 := ⟨⟨cd_So_freeFirst, by decide, by decide, by decide, by decide +kernel⟩, Or.inl (List.mem_of_getElem? (i := 1251) (by decide +kernel)), List.mem_of_getElem? (i := 1253) (by decide +kernel), _, _, _, rfl, by decide +kernel⟩
theorem cd_So_has : q_cd m_So_has := ⟨by decide +kernel, List.mem_of_getElem? (i := 14) (by decide +kernel), Or.inl ⟨rfl, List.mem_of_getElem? (i := 1250) (by decide +kernel)⟩⟩
theorem cS_So_103 : q_CS "ProofHall$Solver" 103 m_So_has 3 := ⟨⟨cd_So_has, by decide, by decide, by decide, by decide +kernel⟩, Or.inl (List.mem_of_getElem? (i := 1248) (by decide +kernel)), List.mem_of_getElem? (i := 1249) (by decide +kernel)⟩
theorem cd_Cl_add : q_cd m_Cl_add := ⟨by decide +kernel, List.mem_of_getElem? (i := 15) (by decide +kernel), Or.inl ⟨rfl, List.mem_of_getElem? (i := 1258) (by decide +kernel)⟩⟩
theorem cV_So_111 : q_CV "ProofHall$Solver" 111 9 m_Cl_add 2 := ⟨⟨cd_Cl_add, by decide, by decide, by decide, by decide +kernel⟩, Or.inl (List.mem_of_getElem? (i := 1255) (by decide +kernel)), List.mem_of_getElem? (i := 1256) (by decide +kernel), _, _, _, rfl, List.mem_append_right _ (List.mem_of_getElem? (i := 1257) (by decide +kernel))⟩
theorem f_So_40 : q_FR "ProofHall$Solver" 40 11 9 := ⟨"[I", by decide, ⟨_, _, _, rfl, by decide, rfl, Or.inl (List.mem_of_getElem? (i := 530) (by decide +kernel))⟩⟩
theorem k_So_114 : Cond.constant "ProofHall$Solver" 114 4000000 ∈ tables_1 := List.mem_of_getElem? (i := 1268) (by decide +kernel)
theorem g_So_55 (nm : String) : q_G "ProofHall$Solver" 55 10 3 "I" nm := ⟨_, _, _, rfl, by decide, rfl, List.mem_of_getElem? (i := 510) (by decide +kernel), Or.inl rfl⟩
theorem f_So_93 : q_F "ProofHall$Solver" 93 11 13 "I" := ⟨_, _, _, rfl, by decide, rfl, Or.inl (List.mem_of_getElem? (i := 534) (by decide +kernel))⟩
theorem cd_So_propagate : q_cd m_So_propagate := ⟨by decide +kernel, List.mem_of_getElem? (i := 14) (by decide +kernel), Or.inl ⟨rfl, List.mem_of_getElem? (i := 1272) (by decide +kernel)⟩⟩
theorem cV_So_115 : q_CV "ProofHall$Solver" 115 11 m_So_propagate 0 := ⟨⟨cd_So_propagate, by decide, by decide, by decide, by decide +kernel⟩, Or.inl (List.mem_of_getElem? (i := 1269) (by decide +kernel)), List.mem_of_getElem? (i := 1271) (by decide +kernel), _, _, _, rfl, by decide +kernel⟩
theorem cd_So_noteFacts : q_cd m_So_noteFacts := ⟨by decide +kernel, List.mem_of_getElem? (i := 14) (by decide +kernel), Or.inl ⟨rfl, List.mem_of_getElem? (i := 1284) (by decide +kernel)⟩⟩
theorem cV_So_119 : q_CV "ProofHall$Solver" 119 11 m_So_noteFacts 0 := ⟨⟨cd_So_noteFacts, by decide, by decide, by decide, by decide +kernel⟩, Or.inl (List.mem_of_getElem? (i := 1281) (by decide +kernel)), List.mem_of_getElem? (i := 1283) (by decide +kernel), _, _, _, rfl, by decide +kernel⟩
theorem cd_So_nextWish : q_cd m_So_nextWish := ⟨by decide +kernel, List.mem_of_getElem? (i := 14) (by decide +kernel), Or.inl ⟨rfl, List.mem_of_getElem? (i := 1321) (by decide +kernel)⟩⟩
theorem cV_So_126 : q_CV "ProofHall$Solver" 126 11 m_So_nextWish 0 := ⟨⟨cd_So_nextWish, by decide, by decide, by decide, by decide +kernel⟩, Or.inl (List.mem_of_getElem? (i := 1318) (by decide +kernel)), List.mem_of_getElem? (i := 1320) (by decide +kernel), _, _, _, rfl, by decide +kernel⟩
theorem cd_So_learn : q_cd m_So_learn := ⟨by decide +kernel, List.mem_of_getElem? (i := 14) (by decide +kernel), Or.inl ⟨rfl, List.mem_of_getElem? (i := 1304) (by decide +kernel)⟩⟩
theorem cV_So_122 : q_CV "ProofHall$Solver" 122 11 m_So_learn 1 := ⟨⟨cd_So_learn, by decide, by decide, by decide, by decide +kernel⟩, Or.inl (List.mem_of_getElem? (i := 1301) (by decide +kernel)), List.mem_of_getElem? (i := 1303) (by decide +kernel), _, _, _, rfl, by decide +kernel⟩
theorem cd_So_checkModel : q_cd m_So_checkModel := ⟨by decide +kernel, List.mem_of_getElem? (i := 14) (by decide +kernel), Or.inl ⟨rfl, List.mem_of_getElem? (i := 1325) (by decide +kernel)⟩⟩
theorem cV_So_129 : q_CV "ProofHall$Solver" 129 11 m_So_checkModel 0 := ⟨⟨cd_So_checkModel, by decide, by decide, by decide, by decide +kernel⟩, Or.inl (List.mem_of_getElem? (i := 1322) (by decide +kernel)), List.mem_of_getElem? (i := 1324) (by decide +kernel), _, _, _, rfl, by decide +kernel⟩
theorem f_So_81 : q_F "ProofHall$Solver" 81 11 7 "I" := ⟨_, _, _, rfl, by decide, rfl, Or.inl (List.mem_of_getElem? (i := 528) (by decide +kernel))⟩
theorem cd_So_visit : q_cd m_So_visit := ⟨by decide +kernel, List.mem_of_getElem? (i := 14) (by decide +kernel), Or.inl ⟨rfl, List.mem_of_getElem? (i := 1276) (by decide +kernel)⟩⟩
theorem cV_So_132 : q_CV "ProofHall$Solver" 132 11 m_So_visit 1 := ⟨⟨cd_So_visit, by decide, by decide, by decide, by decide +kernel⟩, Or.inl (List.mem_of_getElem? (i := 1273) (by decide +kernel)), List.mem_of_getElem? (i := 1275) (by decide +kernel), _, _, _, rfl, by decide +kernel⟩
theorem f_So_136 : q_FR "ProofHall$Solver" 136 9 0 := ⟨"[I", by decide, ⟨_, _, _, rfl, by decide, rfl, Or.inl (List.mem_of_getElem? (i := 483) (by decide +kernel))⟩⟩
theorem f_So_139 : q_FR "ProofHall$Solver" 139 9 1 := ⟨"[I", by decide, ⟨_, _, _, rfl, by decide, rfl, Or.inl (List.mem_of_getElem? (i := 485) (by decide +kernel))⟩⟩
theorem cd_So_replacement : q_cd m_So_replacement := ⟨by decide +kernel, List.mem_of_getElem? (i := 14) (by decide +kernel), Or.inl ⟨rfl, List.mem_of_getElem? (i := 1280) (by decide +kernel)⟩⟩
theorem cV_So_142 : q_CV "ProofHall$Solver" 142 11 m_So_replacement 1 := ⟨⟨cd_So_replacement, by decide, by decide, by decide, by decide +kernel⟩, Or.inl (List.mem_of_getElem? (i := 1277) (by decide +kernel)), List.mem_of_getElem? (i := 1279) (by decide +kernel), _, _, _, rfl, by decide +kernel⟩
theorem f_So_84 : q_F "ProofHall$Solver" 84 11 8 "I" := ⟨_, _, _, rfl, by decide, rfl, Or.inl (List.mem_of_getElem? (i := 529) (by decide +kernel))⟩
theorem f_So_49 : q_FR "ProofHall$Solver" 49 11 15 := ⟨"[I", by decide, ⟨_, _, _, rfl, by decide, rfl, Or.inl (List.mem_of_getElem? (i := 536) (by decide +kernel))⟩⟩
theorem f_So_52 : q_FR "ProofHall$Solver" 52 11 17 := ⟨"[I", by decide, ⟨_, _, _, rfl, by decide, rfl, Or.inl (List.mem_of_getElem? (i := 538) (by decide +kernel))⟩⟩
theorem cd_Ch_knows : q_cd m_Ch_knows := ⟨by decide +kernel, List.mem_of_getElem? (i := 16) (by decide +kernel), Or.inl ⟨rfl, List.mem_of_getElem? (i := 1288) (by decide +kernel)⟩⟩
theorem cV_So_145 : q_CV "ProofHall$Solver" 145 10 m_Ch_knows 1 := ⟨⟨cd_Ch_knows, by decide, by decide, by decide, by decide +kernel⟩, Or.inl (List.mem_of_getElem? (i := 1285) (by decide +kernel)), List.mem_of_getElem? (i := 1286) (by decide +kernel), _, _, _, rfl, List.mem_append_right _ (List.mem_of_getElem? (i := 1287) (by decide +kernel))⟩
theorem cd_Ch_check : q_cd m_Ch_check := ⟨by decide +kernel, List.mem_of_getElem? (i := 16) (by decide +kernel), Or.inl ⟨rfl, List.mem_of_getElem? (i := 1292) (by decide +kernel)⟩⟩
theorem cV_So_148 : q_CV "ProofHall$Solver" 148 10 m_Ch_check 5 := ⟨⟨cd_Ch_check, by decide, by decide, by decide, by decide +kernel⟩, Or.inl (List.mem_of_getElem? (i := 1289) (by decide +kernel)), List.mem_of_getElem? (i := 1290) (by decide +kernel), _, _, _, rfl, List.mem_append_right _ (List.mem_of_getElem? (i := 1291) (by decide +kernel))⟩
theorem g_So_152 (nm : String) : q_G "ProofHall$Solver" 152 11 16 "I" nm := ⟨_, _, _, rfl, by decide, rfl, List.mem_of_getElem? (i := 537) (by decide +kernel), Or.inl rfl⟩
theorem g_So_155 (nm : String) : q_G "ProofHall$Solver" 155 11 18 "I" nm := ⟨_, _, _, rfl, by decide, rfl, List.mem_of_getElem? (i := 539) (by decide +kernel), Or.inl rfl⟩
theorem cd_So_gather : q_cd m_So_gather := ⟨by decide +kernel, List.mem_of_getElem? (i := 14) (by decide +kernel), Or.inl ⟨rfl, List.mem_of_getElem? (i := 1308) (by decide +kernel)⟩⟩
theorem cV_So_158 : q_CV "ProofHall$Solver" 158 11 m_So_gather 1 := ⟨⟨cd_So_gather, by decide, by decide, by decide, by decide +kernel⟩, Or.inl (List.mem_of_getElem? (i := 1305) (by decide +kernel)), List.mem_of_getElem? (i := 1307) (by decide +kernel), _, _, _, rfl, by decide +kernel⟩
theorem cd_Cl_hasNearRoom : q_cd m_Cl_hasNearRoom := ⟨by decide +kernel, List.mem_of_getElem? (i := 15) (by decide +kernel), Or.inl ⟨rfl, List.mem_of_getElem? (i := 1312) (by decide +kernel)⟩⟩
theorem cV_So_161 : q_CV "ProofHall$Solver" 161 9 m_Cl_hasNearRoom 0 := ⟨⟨cd_Cl_hasNearRoom, by decide, by decide, by decide, by decide +kernel⟩, Or.inl (List.mem_of_getElem? (i := 1309) (by decide +kernel)), List.mem_of_getElem? (i := 1310) (by decide +kernel), _, _, _, rfl, List.mem_append_right _ (List.mem_of_getElem? (i := 1311) (by decide +kernel))⟩
theorem f_So_152 : q_F "ProofHall$Solver" 152 11 16 "I" := ⟨_, _, _, rfl, by decide, rfl, Or.inl (List.mem_of_getElem? (i := 537) (by decide +kernel))⟩
theorem f_So_155 : q_F "ProofHall$Solver" 155 11 18 "I" := ⟨_, _, _, rfl, by decide, rfl, Or.inl (List.mem_of_getElem? (i := 539) (by decide +kernel))⟩
theorem cd_So_trace : q_cd m_So_trace := ⟨by decide +kernel, List.mem_of_getElem? (i := 14) (by decide +kernel), Or.inl ⟨rfl, List.mem_of_getElem? (i := 1317) (by decide +kernel)⟩⟩
theorem cV_So_165 : q_CV "ProofHall$Solver" 165 11 m_So_trace 2 := ⟨⟨cd_So_trace, by decide, by decide, by decide, by decide +kernel⟩, Or.inl (List.mem_of_getElem? (i := 1314) (by decide +kernel)), List.mem_of_getElem? (i := 1316) (by decide +kernel), _, _, _, rfl, by decide +kernel⟩
theorem f_So_46 : q_FR "ProofHall$Solver" 46 11 14 := ⟨"[I", by decide, ⟨_, _, _, rfl, by decide, rfl, Or.inl (List.mem_of_getElem? (i := 535) (by decide +kernel))⟩⟩
theorem cd_Cl_allHold : q_cd m_Cl_allHold := ⟨by decide +kernel, List.mem_of_getElem? (i := 15) (by decide +kernel), Or.inl ⟨rfl, List.mem_of_getElem? (i := 1329) (by decide +kernel)⟩⟩
theorem cV_So_169 : q_CV "ProofHall$Solver" 169 9 m_Cl_allHold 1 := ⟨⟨cd_Cl_allHold, by decide, by decide, by decide, by decide +kernel⟩, Or.inl (List.mem_of_getElem? (i := 1326) (by decide +kernel)), List.mem_of_getElem? (i := 1327) (by decide +kernel), _, _, _, rfl, List.mem_append_right _ (List.mem_of_getElem? (i := 1328) (by decide +kernel))⟩
set_option maxHeartbeats 2000000 in
theorem b_So_mistakes_0 {ω : q_W} {σ : q_H} {Q : q_R → q_H → Prop} {d mc ms : Nat}   (hE : q_E σ) (h : (Q (.inl (some (.int (zI ((z σ 75 3) + (z σ 71 4)))))) σ)) : J ω m_So_mistakes d mc ms 0 0 0 [(0, .ref 70)] [] σ Q := by
  refine j_aload_n d_So_mistakes_0 0 rfl ?_
  refine j_getR 75 f_So_21 d_So_mistakes_1 (tg_70 hE) (q_okE hE (by decide)) (rf_70_1 hE) (by decide) ?_
  refine zj_getI (z σ 75 3) f_So_55 d_So_mistakes_4 (tg_75 hE) (q_okE hE (by decide)) (q_z _ _ _) ?_
  refine j_aload_n d_So_mistakes_7 0 rfl ?_
  refine j_getR 71 f_So_12 d_So_mistakes_8 (tg_70 hE) (q_okE hE (by decide)) (rf_70_0 hE) (by decide) ?_
  refine zj_getI (z σ 71 4) f_So_59 d_So_mistakes_11 (tg_71 hE) (q_okE hE (by decide)) (q_z _ _ _) ?_
  refine zj_iadd ((z σ 75 3) + (z σ 71 4)) rfl d_So_mistakes_14 ?_
  exact zj_iret d_So_mistakes_15 rfl (Nat.zero_le _) (Nat.zero_le _) h
set_option maxHeartbeats 2000000 in
theorem b_So_begin_0 {ω : q_W} {σ : q_H} {Q : q_R → q_H → Prop} {d mc ms : Nat} {x3 : Int}  (hE : q_E σ) (h : (J ω m_Cl_clear d 0 0 0 0 0 [(0, .ref 71), (1, .int (zI (z σ 50 7)))] [] σ (q_kv (fun τ => J ω m_So_begin (d + 1) mc ms 0 0 11 [(0, .ref 70), (1, .ref 50), (2, .ref 92), (3, .int (zI x3))] [] τ Q)))) : J ω m_So_begin (d + 1) mc ms 0 0 0 [(0, .ref 70), (1, .ref 50), (2, .ref 92), (3, .int (zI x3))] [] σ Q := by
  refine j_aload_n d_So_begin_0 0 rfl ?_
  refine j_getR 71 f_So_12 d_So_begin_1 (tg_70 hE) (q_okE hE (by decide)) (rf_70_0 hE) (by decide) ?_
  refine j_aload_n d_So_begin_4 1 rfl ?_
  refine zj_getI (z σ 50 7) f_So_62 d_So_begin_5 (tg_50 hE) (q_okE hE (by decide)) (q_z _ _ _) ?_
  refine j_callV m_Cl_clear [.int (zI (z σ 50 7))] [] d 0 0 cV_So_65 d_So_begin_8 rfl rfl (tg_71 hE) (q_okE hE (by decide)) (Nat.le_of_ble_eq_true rfl) (Nat.le_refl _) (Nat.le_of_ble_eq_true rfl) (Nat.zero_le _) (Nat.zero_le _) h (fun v τ h => ?_) (fun x τ h => ?_)
  · obtain ⟨e1, h⟩ := h; cases e1; exact j_sel [0, 1, 2, 3] rfl h
  · obtain ⟨e1, h⟩ := h; cases e1
set_option maxHeartbeats 2000000 in
theorem b_So_begin_11 {ω : q_W} {σ : q_H} {Q : q_R → q_H → Prop} {d mc ms : Nat} {x3 : Int}  (hE : q_E σ) (h : (J ω m_Cl_write d 0 0 0 0 0 [(0, .ref 71), (1, .ref 50), (2, .ref 92), (3, .int (zI x3))] [] σ (q_kv (fun τ => J ω m_So_begin (d + 1) mc ms 0 0 21 [(0, .ref 70), (1, .ref 50)] [] τ Q)))) : J ω m_So_begin (d + 1) mc ms 0 0 11 [(0, .ref 70), (1, .ref 50), (2, .ref 92), (3, .int (zI x3))] [] σ Q := by
  refine j_aload_n d_So_begin_11 0 rfl ?_
  refine j_getR 71 f_So_12 d_So_begin_12 (tg_70 hE) (q_okE hE (by decide)) (rf_70_0 hE) (by decide) ?_
  refine j_aload_n d_So_begin_15 1 rfl ?_
  refine j_aload_n d_So_begin_16 2 rfl ?_
  refine j_iload_n d_So_begin_17 3 rfl ?_
  refine j_callV m_Cl_write [.ref 50, .ref 92, .int (zI x3)] [] d 0 0 cV_So_69 d_So_begin_18 rfl rfl (tg_71 hE) (q_okE hE (by decide)) (Nat.le_of_ble_eq_true rfl) (Nat.le_refl _) (Nat.le_of_ble_eq_true rfl) (Nat.zero_le _) (Nat.zero_le _) h (fun v τ h => ?_) (fun x τ h => ?_)
  · obtain ⟨e1, h⟩ := h; cases e1; exact j_sel [0, 1] rfl h
  · obtain ⟨e1, h⟩ := h; cases e1
set_option maxHeartbeats 2000000 in
theorem b_So_begin_21 {ω : q_W} {σ : q_H} {Q : q_R → q_H → Prop} {d mc ms : Nat}   (hE : q_E σ) (h : (J ω m_Ch_clear d 0 0 0 0 0 [(0, .ref 75), (1, .int (zI (z σ 50 7)))] [] σ (q_kv (fun τ => J ω m_So_begin (d + 1) mc ms 0 0 32 [(0, .ref 70), (1, .ref 50)] [] τ Q)))) : J ω m_So_begin (d + 1) mc ms 0 0 21 [(0, .ref 70), (1, .ref 50)] [] σ Q := by
  refine j_aload_n d_So_begin_21 0 rfl ?_
  refine j_getR 75 f_So_21 d_So_begin_22 (tg_70 hE) (q_okE hE (by decide)) (rf_70_1 hE) (by decide) ?_
  refine j_aload_n d_So_begin_25 1 rfl ?_
  refine zj_getI (z σ 50 7) f_So_62 d_So_begin_26 (tg_50 hE) (q_okE hE (by decide)) (q_z _ _ _) ?_
  refine j_callV m_Ch_clear [.int (zI (z σ 50 7))] [] d 0 0 cV_So_73 d_So_begin_29 rfl rfl (tg_75 hE) (q_okE hE (by decide)) (Nat.le_of_ble_eq_true rfl) (Nat.le_refl _) (Nat.le_of_ble_eq_true rfl) (Nat.zero_le _) (Nat.zero_le _) h (fun v τ h => ?_) (fun x τ h => ?_)
  · obtain ⟨e1, h⟩ := h; cases e1; exact j_sel [0, 1] rfl h
  · obtain ⟨e1, h⟩ := h; cases e1
set_option maxHeartbeats 2000000 in
theorem b_So_begin_32 {ω : q_W} {σ : q_H} {Q : q_R → q_H → Prop} {d mc ms : Nat}   (hE : q_E σ) (h : (J ω m_H_wipe d 0 0 0 0 0 [(0, .ref 78), (1, .int (zI (2 * (z σ 50 7))))] [] σ (q_kv (fun τ => J ω m_So_begin (d + 1) mc ms 0 0 45 [(0, .ref 70)] [] τ Q)))) : J ω m_So_begin (d + 1) mc ms 0 0 32 [(0, .ref 70), (1, .ref 50)] [] σ Q := by
  refine j_aload_n d_So_begin_32 0 rfl ?_
  refine j_getR 78 f_So_27 d_So_begin_33 (tg_70 hE) (q_okE hE (by decide)) (rf_70_2 hE) (by decide) ?_
  refine j_iconst (v := zI 2) d_So_begin_36 (by decide) ?_
  refine j_aload_n d_So_begin_37 1 rfl ?_
  refine zj_getI (z σ 50 7) f_So_62 d_So_begin_38 (tg_50 hE) (q_okE hE (by decide)) (q_z _ _ _) ?_
  refine zj_imul (2 * (z σ 50 7)) rfl d_So_begin_41 ?_
  refine j_callS m_H_wipe [.ref 78, .int (zI (2 * (z σ 50 7)))] [] d 0 0 cS_So_74 d_So_begin_42 rfl rfl (Nat.le_of_ble_eq_true rfl) (Nat.le_refl _) (Nat.le_of_ble_eq_true rfl) (Nat.zero_le _) (Nat.zero_le _) h (fun v τ h => ?_) (fun x τ h => ?_)
  · obtain ⟨e1, h⟩ := h; cases e1; exact j_sel [0] rfl h
  · obtain ⟨e1, h⟩ := h; cases e1
set_option maxHeartbeats 2000000 in
theorem b_So_begin_45 {ω : q_W} {σ : q_H} {Q : q_R → q_H → Prop} {d mc ms : Nat}   (hE : q_E σ) (h : (J ω m_So_assign d 0 0 0 0 0 [(0, .ref 70), (1, .int (zI 0)), (2, .int (zI 0))] [] (zs (zs (zs (zs (zs (zs σ 70 6 0) 70 7 0) 70 8 0) 70 10 0) 70 12 0) 70 13 0) (q_kv (fun τ => J ω m_So_begin (d + 1) mc ms 0 0 81 [] [] τ Q)))) : J ω m_So_begin (d + 1) mc ms 0 0 45 [(0, .ref 70)] [] σ Q := by
  refine j_aload_n d_So_begin_45 0 rfl ?_
  refine j_iconst (v := zI 0) d_So_begin_46 (by decide) ?_
  refine zj_putI (g_So_78 _) d_So_begin_47 (tg_70 hE) (q_okE hE (by decide)) ?_
  refine j_aload_n d_So_begin_50 0 rfl ?_
  refine j_iconst (v := zI 0) d_So_begin_51 (by decide) ?_
  refine zj_putI (g_So_81 _) d_So_begin_52 (tg_70 (zs_E hE)) (q_okE (zs_E hE) (by decide)) ?_
  refine j_aload_n d_So_begin_55 0 rfl ?_
  refine j_iconst (v := zI 0) d_So_begin_56 (by decide) ?_
  refine zj_putI (g_So_84 _) d_So_begin_57 (tg_70 (zs_E (zs_E hE))) (q_okE (zs_E (zs_E hE)) (by decide)) ?_
  refine j_aload_n d_So_begin_60 0 rfl ?_
  refine j_iconst (v := zI 0) d_So_begin_61 (by decide) ?_
  refine zj_putI (g_So_87 _) d_So_begin_62 (tg_70 (zs_E (zs_E (zs_E hE)))) (q_okE (zs_E (zs_E (zs_E hE))) (by decide)) ?_
  refine j_aload_n d_So_begin_65 0 rfl ?_
  refine j_iconst (v := zI 0) d_So_begin_66 (by decide) ?_
  refine zj_putI (g_So_90 _) d_So_begin_67 (tg_70 (zs_E (zs_E (zs_E (zs_E hE))))) (q_okE (zs_E (zs_E (zs_E (zs_E hE)))) (by decide)) ?_
  refine j_aload_n d_So_begin_70 0 rfl ?_
  refine j_iconst (v := zI 0) d_So_begin_71 (by decide) ?_
  refine zj_putI (g_So_93 _) d_So_begin_72 (tg_70 (zs_E (zs_E (zs_E (zs_E (zs_E hE)))))) (q_okE (zs_E (zs_E (zs_E (zs_E (zs_E hE))))) (by decide)) ?_
  refine j_aload_n d_So_begin_75 0 rfl ?_
  refine j_iconst (v := zI 0) d_So_begin_76 (by decide) ?_
  refine j_iconst (v := zI 0) d_So_begin_77 (by decide) ?_
  refine j_callV m_So_assign [.int (zI 0), .int (zI 0)] [] d 0 0 cV_So_96 d_So_begin_78 rfl rfl (tg_70 (zs_E (zs_E (zs_E (zs_E (zs_E (zs_E hE))))))) (q_okE (zs_E (zs_E (zs_E (zs_E (zs_E (zs_E hE)))))) (by decide)) (Nat.le_of_ble_eq_true rfl) (Nat.le_refl _) (Nat.le_of_ble_eq_true rfl) (Nat.zero_le _) (Nat.zero_le _) h (fun v τ h => ?_) (fun x τ h => ?_)
  · obtain ⟨e1, h⟩ := h; cases e1; exact j_sel [] rfl h
  · obtain ⟨e1, h⟩ := h; cases e1
set_option maxHeartbeats 2000000 in
theorem b_So_begin_81 {ω : q_W} {σ : q_H} {Q : q_R → q_H → Prop} {d mc ms : Nat}   (hE : q_E σ) (h : (Q (.inl none) σ)) : J ω m_So_begin (d + 1) mc ms 0 0 81 [] [] σ Q := by
  exact j_vret d_So_begin_81 rfl (Nat.zero_le _) (Nat.zero_le _) h
set_option maxHeartbeats 2000000 in
theorem b_So_assign_0 {ω : q_W} {σ : q_H} {Q : q_R → q_H → Prop} {d mc ms : Nat} {x1 : Int} {x2 : Int}  (hE : q_E σ) (h : (0 ≤ x1 ∧ x1 < 20480) ∧ (0 ≤ (zXor x1 1) ∧ (zXor x1 1) < 20480) ∧ (0 ≤ (zShr x1 1) ∧ (zShr x1 1) < 10240) ∧ (0 ≤ (z σ 70 6) ∧ (z σ 70 6) < 10240) ∧ (Q (.inl none) (zs (zs (zs (zs (zs (zs σ 78 x1.toNat 1) 78 (zXor x1 1).toNat (-1)) 79 (zShr x1 1).toNat (z σ 70 10)) 80 (zShr x1 1).toNat x2) 81 (z σ 70 6).toNat x1) 70 6 ((z σ 70 6) + 1)))) : J ω m_So_assign d mc ms 0 0 0 [(0, .ref 70), (1, .int (zI x1)), (2, .int (zI x2))] [] σ Q := by
  refine j_aload_n d_So_assign_0 0 rfl ?_
  refine j_getR 78 f_So_27 d_So_assign_1 (tg_70 hE) (q_okE hE (by decide)) (rf_70_2 hE) (by decide) ?_
  refine j_iload_n d_So_assign_4 1 rfl ?_
  refine j_iconst (v := zI 1) d_So_assign_5 (by decide) ?_
  obtain ⟨c1, h⟩ := h
  refine zj_iast d_So_assign_6 (tg_78 hE) (q_okE hE (by decide)) c1 (by decide) ?_
  refine j_aload_n d_So_assign_7 0 rfl ?_
  refine j_getR 78 f_So_27 d_So_assign_8 (tg_70 (zs_E hE)) (q_okE (zs_E hE) (by decide)) (rf_70_2 (zs_E hE)) (by decide) ?_
  refine j_iload_n d_So_assign_11 1 rfl ?_
  refine j_iconst (v := zI 1) d_So_assign_12 (by decide) ?_
  refine zj_ixor d_So_assign_13 ?_
  refine j_iconst (v := zI (-1)) d_So_assign_14 (by decide) ?_
  obtain ⟨c2, h⟩ := h
  refine zj_iast d_So_assign_15 (tg_78 (zs_E hE)) (q_okE (zs_E hE) (by decide)) c2 (by decide) ?_
  refine j_aload_n d_So_assign_16 0 rfl ?_
  refine j_getR 79 f_So_31 d_So_assign_17 (tg_70 (zs_E (zs_E hE))) (q_okE (zs_E (zs_E hE)) (by decide)) (rf_70_3 (zs_E (zs_E hE))) (by decide) ?_
  refine j_iload_n d_So_assign_20 1 rfl ?_
  refine j_iconst (v := zI 1) d_So_assign_21 (by decide) ?_
  refine zj_ishr d_So_assign_22 ?_
  refine j_aload_n d_So_assign_23 0 rfl ?_
  refine zj_getI (z σ 70 10) f_So_87 d_So_assign_24 (tg_70 (zs_E (zs_E hE))) (q_okE (zs_E (zs_E hE)) (by decide)) (Eq.trans (qs_o (by decide)) (Eq.trans (qs_o (by decide)) (q_z _ _ _))) ?_
  obtain ⟨c3, h⟩ := h
  refine zj_iast d_So_assign_27 (tg_79 (zs_E (zs_E hE))) (q_okE (zs_E (zs_E hE)) (by decide)) c3 (by decide) ?_
  refine j_aload_n d_So_assign_28 0 rfl ?_
  refine j_getR 80 f_So_34 d_So_assign_29 (tg_70 (zs_E (zs_E (zs_E hE)))) (q_okE (zs_E (zs_E (zs_E hE))) (by decide)) (rf_70_4 (zs_E (zs_E (zs_E hE)))) (by decide) ?_
  refine j_iload_n d_So_assign_32 1 rfl ?_
  refine j_iconst (v := zI 1) d_So_assign_33 (by decide) ?_
  refine zj_ishr d_So_assign_34 ?_
  refine j_iload_n d_So_assign_35 2 rfl ?_
  refine zj_iast d_So_assign_36 (tg_80 (zs_E (zs_E (zs_E hE)))) (q_okE (zs_E (zs_E (zs_E hE))) (by decide)) c3 (by decide) ?_
  refine j_aload_n d_So_assign_37 0 rfl ?_
  refine j_getR 81 f_So_37 d_So_assign_38 (tg_70 (zs_E (zs_E (zs_E (zs_E hE))))) (q_okE (zs_E (zs_E (zs_E (zs_E hE)))) (by decide)) (rf_70_5 (zs_E (zs_E (zs_E (zs_E hE))))) (by decide) ?_
  refine j_aload_n d_So_assign_41 0 rfl ?_
  refine zj_getI (z σ 70 6) f_So_78 d_So_assign_42 (tg_70 (zs_E (zs_E (zs_E (zs_E hE))))) (q_okE (zs_E (zs_E (zs_E (zs_E hE)))) (by decide)) (Eq.trans (qs_o (by decide)) (Eq.trans (qs_o (by decide)) (Eq.trans (qs_o (by decide)) (Eq.trans (qs_o (by decide)) (q_z _ _ _))))) ?_
  refine j_iload_n d_So_assign_45 1 rfl ?_
  obtain ⟨c4, h⟩ := h
  refine zj_iast d_So_assign_46 (tg_81 (zs_E (zs_E (zs_E (zs_E hE))))) (q_okE (zs_E (zs_E (zs_E (zs_E hE)))) (by decide)) c4 (by decide) ?_
  refine j_aload_n d_So_assign_47 0 rfl ?_
  refine j_dup d_So_assign_48 rfl ?_
  refine zj_getI (z σ 70 6) f_So_78 d_So_assign_49 (tg_70 (zs_E (zs_E (zs_E (zs_E (zs_E hE)))))) (q_okE (zs_E (zs_E (zs_E (zs_E (zs_E hE))))) (by decide)) (Eq.trans (qs_o (by decide)) (Eq.trans (qs_o (by decide)) (Eq.trans (qs_o (by decide)) (Eq.trans (qs_o (by decide)) (Eq.trans (qs_o (by decide)) (q_z _ _ _)))))) ?_
  refine j_iconst (v := zI 1) d_So_assign_52 (by decide) ?_
  refine zj_iadd ((z σ 70 6) + 1) (by omega) d_So_assign_53 ?_
  refine zj_putI (g_So_78 _) d_So_assign_54 (tg_70 (zs_E (zs_E (zs_E (zs_E (zs_E hE)))))) (q_okE (zs_E (zs_E (zs_E (zs_E (zs_E hE))))) (by decide)) ?_
  exact j_vret d_So_assign_57 rfl (Nat.zero_le _) (Nat.zero_le _) h
set_option maxHeartbeats 2000000 in
theorem b_So_wish_0 {ω : q_W} {σ : q_H} {Q : q_R → q_H → Prop} {d mc ms : Nat} {x1 : Int}  (hE : q_E σ) (h : q_imp ((z σ 70 12) ≥ 12) ((Q (.inl none) σ)) ∧ q_imp ((z σ 70 12) < 12) ((0 ≤ (z σ 70 12) ∧ (z σ 70 12) < 12) ∧ (Q (.inl none) (zs (zs σ 83 (z σ 70 12).toNat x1) 70 12 ((z σ 70 12) + 1))))) : J ω m_So_wish d mc ms 0 0 0 [(0, .ref 70), (1, .int (zI x1))] [] σ Q := by
  refine j_aload_n d_So_wish_0 0 rfl ?_
  refine zj_getI (z σ 70 12) f_So_90 d_So_wish_1 (tg_70 hE) (q_okE hE (by decide)) (q_z _ _ _) ?_
  refine j_bipush (v := zI 12) d_So_wish_4 (by decide) ?_
  obtain ⟨h1, h2⟩ := h
  refine zj_icmp_ge 29 d_So_wish_6 (by decide) (z_R _ _ _) ⟨by decide, by decide⟩ (fun k1 => ?_) (fun k1 => ?_)
  · have h := h1 k1
    exact j_vret d_So_wish_29 rfl (Nat.zero_le _) (Nat.zero_le _) h
  · have h := h2 k1
    refine j_aload_n d_So_wish_9 0 rfl ?_
    refine j_getR 83 f_So_43 d_So_wish_10 (tg_70 hE) (q_okE hE (by decide)) (rf_70_11 hE) (by decide) ?_
    refine j_aload_n d_So_wish_13 0 rfl ?_
    refine zj_getI (z σ 70 12) f_So_90 d_So_wish_14 (tg_70 hE) (q_okE hE (by decide)) (q_z _ _ _) ?_
    refine j_iload_n d_So_wish_17 1 rfl ?_
    obtain ⟨c2, h⟩ := h
    refine zj_iast d_So_wish_18 (tg_83 hE) (q_okE hE (by decide)) c2 (by decide) ?_
    refine j_aload_n d_So_wish_19 0 rfl ?_
    refine j_dup d_So_wish_20 rfl ?_
    refine zj_getI (z σ 70 12) f_So_90 d_So_wish_21 (tg_70 (zs_E hE)) (q_okE (zs_E hE) (by decide)) (Eq.trans (qs_o (by decide)) (q_z _ _ _)) ?_
    refine j_iconst (v := zI 1) d_So_wish_24 (by decide) ?_
    refine zj_iadd ((z σ 70 12) + 1) (by omega) d_So_wish_25 ?_
    refine zj_putI (g_So_90 _) d_So_wish_26 (tg_70 (zs_E hE)) (q_okE (zs_E hE) (by decide)) ?_
    exact j_vret d_So_wish_29 rfl (Nat.zero_le _) (Nat.zero_le _) h
set_option maxHeartbeats 2000000 in
theorem b_So_require_0 {ω : q_W} {σ : q_H} {Q : q_R → q_H → Prop} {d mc ms : Nat} {x2 : Int}  (hE : q_E σ) (h : (J ω m_So_backTo d 0 0 0 0 0 [(0, .ref 70), (1, .int (zI 0))] [] σ (q_kv (fun τ => J ω m_So_require (d + 1) mc ms 0 0 5 [(0, .ref 70), (1, .ref 93), (2, .int (zI x2))] [] τ Q)))) : J ω m_So_require (d + 1) mc ms 0 0 0 [(0, .ref 70), (1, .ref 93), (2, .int (zI x2))] [] σ Q := by
  refine j_aload_n d_So_require_0 0 rfl ?_
  refine j_iconst (v := zI 0) d_So_require_1 (by decide) ?_
  refine j_callV m_So_backTo [.int (zI 0)] [] d 0 0 cV_So_100 d_So_require_2 rfl rfl (tg_70 hE) (q_okE hE (by decide)) (Nat.le_of_ble_eq_true rfl) (Nat.le_refl _) (Nat.le_of_ble_eq_true rfl) (Nat.zero_le _) (Nat.zero_le _) h (fun v τ h => ?_) (fun x τ h => ?_)
  · obtain ⟨e1, h⟩ := h; cases e1; exact j_sel [0, 1, 2] rfl h
  · obtain ⟨e1, h⟩ := h; cases e1
set_option maxHeartbeats 2000000 in
theorem b_So_require_5 {ω : q_W} {σ : q_H} {Q : q_R → q_H → Prop} {d mc ms : Nat} {x2 : Int}  (hE : q_E σ) (h : (J ω m_So_require (d + 1) mc ms 0 0 10 [(0, .ref 70), (1, .ref 93), (2, .int (zI x2)), (3, .int (zI 0)), (4, .int (zI 0))] [] σ Q)) : J ω m_So_require (d + 1) mc ms 0 0 5 [(0, .ref 70), (1, .ref 93), (2, .int (zI x2))] [] σ Q := by
  refine j_iconst (v := zI 0) d_So_require_5 (by decide) ?_
  refine j_istore_n (L' := [(3, .int (zI 0)), (0, .ref 70), (1, .ref 93), (2, .int (zI x2))]) d_So_require_6 (by decide) rfl ?_
  refine j_iconst (v := zI 0) d_So_require_7 (by decide) ?_
  refine j_istore (L' := [(4, .int (zI 0)), (3, .int (zI 0)), (0, .ref 70), (1, .ref 93), (2, .int (zI x2))]) d_So_require_8 (by decide) rfl ?_
  exact j_sel [2, 3, 4, 1, 0] rfl h
set_option maxHeartbeats 2000000 in
theorem b_So_require_10 {ω : q_W} {σ : q_H} {Q : q_R → q_H → Prop} {d mc ms : Nat} {x2 : Int} {x3 : Int} {x4 : Int}  (hE : q_E σ) (h : inR x4 ∧ inR x2 ∧ q_imp (x4 ≥ x2) ((J ω m_So_freeFirst d 0 0 0 0 0 [(0, .ref 70), (1, .ref 93), (2, .int (zI x3))] [] σ (q_ki (fun v τ => J ω m_So_require (d + 1) mc ms 0 0 76 [(0, .ref 70), (1, .ref 93), (3, .int (zI x3))] [.int (zI v)] τ Q)))) ∧ q_imp (x4 < x2) ((0 ≤ x4 ∧ x4 < 12) ∧ (0 ≤ (z σ 93 x4.toNat) ∧ (z σ 93 x4.toNat) < 20480) ∧ q_imp ((z σ 78 (z σ 93 x4.toNat).toNat) = 1) ((Q (.inl none) σ)) ∧ q_imp ((z σ 78 (z σ 93 x4.toNat).toNat) ≠ 1) ((J ω m_So_has d 0 0 0 0 0 [(0, .ref 93), (1, .int (zI x3)), (2, .int (zI (zXor (z σ 93 x4.toNat) 1)))] [] σ (q_ki (fun v τ => J ω m_So_require (d + 1) mc ms 0 0 42 [(0, .ref 70), (1, .ref 93), (2, .int (zI x2)), (3, .int (zI x3)), (4, .int (zI x4)), (5, .int (zI (z σ 93 x4.toNat)))] [.int (zI v)] τ Q)))))) : J ω m_So_require (d + 1) mc ms 0 0 10 [(0, .ref 70), (1, .ref 93), (2, .int (zI x2)), (3, .int (zI x3)), (4, .int (zI x4))] [] σ Q := by
  refine j_iload d_So_require_10 4 rfl ?_
  refine j_iload_n d_So_require_12 2 rfl ?_
  obtain ⟨r1, h⟩ := h
  obtain ⟨r2, h⟩ := h
  obtain ⟨h1, h2⟩ := h
  refine zj_icmp_ge 70 d_So_require_13 (by decide) r1 r2 (fun k3 => ?_) (fun k3 => ?_)
  · have h := h1 k3
    refine j_aload_n d_So_require_70 0 rfl ?_
    refine j_aload_n d_So_require_71 1 rfl ?_
    refine j_iload_n d_So_require_72 3 rfl ?_
    refine j_callV m_So_freeFirst [.ref 93, .int (zI x3)] [] d 0 0 cV_So_107 d_So_require_73 rfl rfl (tg_70 hE) (q_okE hE (by decide)) (Nat.le_of_ble_eq_true rfl) (Nat.le_refl _) (Nat.le_of_ble_eq_true rfl) (Nat.zero_le _) (Nat.zero_le _) h (fun v τ h => ?_) (fun x τ h => ?_)
    · obtain ⟨v, hv, e1, h⟩ := h; cases e1; exact j_sel [0, 1, 3] rfl h
    · obtain ⟨v, hv, e1, h⟩ := h; cases e1
  · have h := h2 k3
    refine j_aload_n d_So_require_16 1 rfl ?_
    refine j_iload d_So_require_17 4 rfl ?_
    obtain ⟨c4, h⟩ := h
    refine zj_iald (z σ 93 x4.toNat) d_So_require_19 (tg_93 hE) (q_okE hE (by decide)) c4 (by decide) (q_z _ _ _) ?_
    refine j_istore (L' := [(5, .int (zI (z σ 93 x4.toNat))), (0, .ref 70), (1, .ref 93), (2, .int (zI x2)), (3, .int (zI x3)), (4, .int (zI x4))]) d_So_require_20 (by decide) rfl ?_
    refine j_aload_n d_So_require_22 1 rfl ?_
    refine j_getR 78 f_So_27 d_So_require_23 (tg_70 hE) (q_okE hE (by decide)) (rf_70_2 hE) (by decide) ?_
    refine j_iload d_So_require_26 0 rfl ?_
    obtain ⟨c5, h⟩ := h
    refine zj_iald (z σ 78 (z σ 93 x4.toNat).toNat) d_So_require_28 (tg_78 hE) (q_okE hE (by decide)) c5 (by decide) (q_z _ _ _) ?_
    refine j_iconst (v := zI 1) d_So_require_29 (by decide) ?_
    obtain ⟨h1, h2⟩ := h
    refine zj_icmp_eq 45 d_So_require_30 (by decide) (z_R _ _ _) ⟨by decide, by decide⟩ (fun k6 => ?_) (fun k6 => ?_)
    · have h := h1 k6
      exact j_vret d_So_require_45 rfl (Nat.zero_le _) (Nat.zero_le _) h
    · have h := h2 k6
      refine j_aload_n d_So_require_33 2 rfl ?_
      refine j_iload_n d_So_require_34 4 rfl ?_
      refine j_iload d_So_require_35 0 rfl ?_
      refine j_iconst (v := zI 1) d_So_require_37 (by decide) ?_
      refine zj_ixor d_So_require_38 ?_
      refine j_callS m_So_has [.ref 93, .int (zI x3), .int (zI (zXor (z σ 93 x4.toNat) 1))] [] d 0 0 cS_So_103 d_So_require_39 rfl rfl (Nat.le_of_ble_eq_true rfl) (Nat.le_refl _) (Nat.le_of_ble_eq_true rfl) (Nat.zero_le _) (Nat.zero_le _) h (fun v τ h => ?_) (fun x τ h => ?_)
      · obtain ⟨v, hv, e1, h⟩ := h; cases e1; exact j_sel [1, 2, 3, 4, 5, 0] rfl h
      · obtain ⟨v, hv, e1, h⟩ := h; cases e1
set_option maxHeartbeats 2000000 in
theorem b_So_require_76 {ω : q_W} {σ : q_H} {Q : q_R → q_H → Prop} {d mc ms : Nat} {x3 : Int} {y0 : Int}  (hE : q_E σ) (h : (J ω m_Cl_add d 0 0 0 0 0 [(0, .ref 71), (1, .ref 93), (2, .int (zI x3))] [] σ (q_ki (fun v τ => J ω m_So_require (d + 1) mc ms 0 0 87 [(0, .ref 70), (1, .ref 93), (4, .int (zI y0))] [.int (zI v)] τ Q)))) : J ω m_So_require (d + 1) mc ms 0 0 76 [(0, .ref 70), (1, .ref 93), (3, .int (zI x3))] [.int (zI y0)] σ Q := by
  refine j_istore (L' := [(4, .int (zI y0)), (0, .ref 70), (1, .ref 93), (3, .int (zI x3))]) d_So_require_76 (by decide) rfl ?_
  refine j_aload_n d_So_require_78 1 rfl ?_
  refine j_getR 71 f_So_12 d_So_require_79 (tg_70 hE) (q_okE hE (by decide)) (rf_70_0 hE) (by decide) ?_
  refine j_aload_n d_So_require_82 2 rfl ?_
  refine j_iload_n d_So_require_83 3 rfl ?_
  refine j_callV m_Cl_add [.ref 93, .int (zI x3)] [] d 0 0 cV_So_111 d_So_require_84 rfl rfl (tg_71 hE) (q_okE hE (by decide)) (Nat.le_of_ble_eq_true rfl) (Nat.le_refl _) (Nat.le_of_ble_eq_true rfl) (Nat.zero_le _) (Nat.zero_le _) h (fun v τ h => ?_) (fun x τ h => ?_)
  · obtain ⟨v, hv, e1, h⟩ := h; cases e1; exact j_sel [1, 2, 0] rfl h
  · obtain ⟨v, hv, e1, h⟩ := h; cases e1
set_option maxHeartbeats 2000000 in
theorem b_So_require_42 {ω : q_W} {σ : q_H} {Q : q_R → q_H → Prop} {d mc ms : Nat} {x2 : Int} {x3 : Int} {x4 : Int} {x5 : Int} {y0 : Int}  (hE : q_E σ) (h : inR y0 ∧ q_imp (y0 = 0) ((J ω m_So_has d 0 0 0 0 0 [(0, .ref 93), (1, .int (zI x3)), (2, .int (zI x5))] [] σ (q_ki (fun v τ => J ω m_So_require (d + 1) mc ms 0 0 53 [(0, .ref 70), (1, .ref 93), (2, .int (zI x2)), (3, .int (zI x3)), (4, .int (zI x4)), (5, .int (zI x5))] [.int (zI v)] τ Q)))) ∧ q_imp (y0 ≠ 0) ((Q (.inl none) σ))) : J ω m_So_require (d + 1) mc ms 0 0 42 [(0, .ref 70), (1, .ref 93), (2, .int (zI x2)), (3, .int (zI x3)), (4, .int (zI x4)), (5, .int (zI x5))] [.int (zI y0)] σ Q := by
  obtain ⟨r7, h⟩ := h
  obtain ⟨h1, h2⟩ := h
  refine zj_if_eq 46 d_So_require_42 (by decide) r7 (fun k8 => ?_) (fun k8 => ?_)
  · have h := h1 k8
    refine j_aload_n d_So_require_46 1 rfl ?_
    refine j_iload_n d_So_require_47 3 rfl ?_
    refine j_iload d_So_require_48 5 rfl ?_
    refine j_callS m_So_has [.ref 93, .int (zI x3), .int (zI x5)] [] d 0 0 cS_So_103 d_So_require_50 rfl rfl (Nat.le_of_ble_eq_true rfl) (Nat.le_refl _) (Nat.le_of_ble_eq_true rfl) (Nat.zero_le _) (Nat.zero_le _) h (fun v τ h => ?_) (fun x τ h => ?_)
    · obtain ⟨v, hv, e1, h⟩ := h; cases e1; exact j_sel [0, 1, 2, 3, 4, 5] rfl h
    · obtain ⟨v, hv, e1, h⟩ := h; cases e1
  · have h := h2 k8
    exact j_vret d_So_require_45 rfl (Nat.zero_le _) (Nat.zero_le _) h
set_option maxHeartbeats 2000000 in
theorem b_So_require_87 {ω : q_W} {σ : q_H} {Q : q_R → q_H → Prop} {d mc ms : Nat} {x4 : Int} {y0 : Int}  (hE : q_E σ) (h : inR x4 ∧ q_imp (x4 ≠ 0) (q_imp (x4 ≠ 1) ((Q (.inl none) σ)) ∧ q_imp (x4 = 1) ((J ω m_So_assign d 0 0 0 0 0 [(0, .ref 70), (1, .int (zI (z σ 93 0))), (2, .int (zI y0))] [] σ (q_kv (fun τ => J ω m_So_require (d + 1) mc ms 0 0 118 [] [] τ Q))))) ∧ q_imp (x4 = 0) ((Q (.inl none) (zs σ 70 13 y0)))) : J ω m_So_require (d + 1) mc ms 0 0 87 [(0, .ref 70), (1, .ref 93), (4, .int (zI x4))] [.int (zI y0)] σ Q := by
  refine j_istore (L' := [(5, .int (zI y0)), (0, .ref 70), (1, .ref 93), (4, .int (zI x4))]) d_So_require_87 (by decide) rfl ?_
  refine j_iload d_So_require_89 3 rfl ?_
  obtain ⟨r9, h⟩ := h
  obtain ⟨h1, h2⟩ := h
  refine zj_if_ne 103 d_So_require_91 (by decide) r9 (fun k10 => ?_) (fun k10 => ?_)
  · have h := h1 k10
    refine j_iload d_So_require_103 3 rfl ?_
    refine j_iconst (v := zI 1) d_So_require_105 (by decide) ?_
    obtain ⟨h1, h2⟩ := h
    refine zj_icmp_ne 118 d_So_require_106 (by decide) r9 ⟨by decide, by decide⟩ (fun k11 => ?_) (fun k11 => ?_)
    · have h := h1 k11
      exact j_vret d_So_require_118 rfl (Nat.zero_le _) (Nat.zero_le _) h
    · have h := h2 k11
      refine j_aload_n d_So_require_109 1 rfl ?_
      refine j_aload_n d_So_require_110 2 rfl ?_
      refine j_iconst (v := zI 0) d_So_require_111 (by decide) ?_
      refine zj_iald (z σ 93 0) d_So_require_112 (tg_93 hE) (q_okE hE (by decide)) ⟨by decide, by decide⟩ (by decide) (q_z _ _ _) ?_
      refine j_iload d_So_require_113 0 rfl ?_
      refine j_callV m_So_assign [.int (zI (z σ 93 0)), .int (zI y0)] [] d 0 0 cV_So_96 d_So_require_115 rfl rfl (tg_70 hE) (q_okE hE (by decide)) (Nat.le_of_ble_eq_true rfl) (Nat.le_refl _) (Nat.le_of_ble_eq_true rfl) (Nat.zero_le _) (Nat.zero_le _) h (fun v τ h => ?_) (fun x τ h => ?_)
      · obtain ⟨e1, h⟩ := h; cases e1; exact j_sel [] rfl h
      · obtain ⟨e1, h⟩ := h; cases e1
  · have h := h2 k10
    refine j_aload_n d_So_require_94 1 rfl ?_
    refine j_iload d_So_require_95 0 rfl ?_
    refine zj_putI (g_So_93 _) d_So_require_97 (tg_70 hE) (q_okE hE (by decide)) ?_
    refine j_goto 118 d_So_require_100 (by decide) ?_
    exact j_vret d_So_require_118 rfl (Nat.zero_le _) (Nat.zero_le _) h
set_option maxHeartbeats 2000000 in
theorem b_So_require_53 {ω : q_W} {σ : q_H} {Q : q_R → q_H → Prop} {d mc ms : Nat} {x2 : Int} {x3 : Int} {x4 : Int} {x5 : Int} {y0 : Int}  (hE : q_E σ) (h : inR y0 ∧ q_imp (y0 ≠ 0) ((J ω m_So_require (d + 1) mc ms 0 0 10 [(0, .ref 70), (1, .ref 93), (2, .int (zI x2)), (3, .int (zI x3)), (4, .int (zI (x4 + 1)))] [] σ Q)) ∧ q_imp (y0 = 0) ((0 ≤ x3 ∧ x3 < 12) ∧ (J ω m_So_require (d + 1) mc ms 0 0 10 [(0, .ref 70), (1, .ref 93), (2, .int (zI x2)), (3, .int (zI (x3 + 1))), (4, .int (zI (x4 + 1)))] [] (zs σ 93 x3.toNat x5) Q))) : J ω m_So_require (d + 1) mc ms 0 0 53 [(0, .ref 70), (1, .ref 93), (2, .int (zI x2)), (3, .int (zI x3)), (4, .int (zI x4)), (5, .int (zI x5))] [.int (zI y0)] σ Q := by
  obtain ⟨r12, h⟩ := h
  obtain ⟨h1, h2⟩ := h
  refine zj_if_ne 64 d_So_require_53 (by decide) r12 (fun k13 => ?_) (fun k13 => ?_)
  · have h := h1 k13
    refine zj_iinc (L' := [(4, .int (zI (x4 + 1))), (0, .ref 70), (1, .ref 93), (2, .int (zI x2)), (3, .int (zI x3)), (5, .int (zI x5))]) (x4 + 1) d_So_require_64 4 rfl (by omega) (by decide) rfl ?_
    refine j_goto 10 d_So_require_67 (by decide) ?_
    exact j_sel [1, 2, 3, 4, 0] rfl h
  · have h := h2 k13
    refine j_aload_n d_So_require_56 1 rfl ?_
    refine j_iload_n d_So_require_57 3 rfl ?_
    refine j_iload d_So_require_58 5 rfl ?_
    obtain ⟨c14, h⟩ := h
    refine zj_iast d_So_require_60 (tg_93 hE) (q_okE hE (by decide)) c14 (by decide) ?_
    refine zj_iinc (L' := [(3, .int (zI (x3 + 1))), (0, .ref 70), (1, .ref 93), (2, .int (zI x2)), (4, .int (zI x4)), (5, .int (zI x5))]) (x3 + 1) d_So_require_61 3 rfl (by omega) (by decide) rfl ?_
    refine zj_iinc (L' := [(4, .int (zI (x4 + 1))), (3, .int (zI (x3 + 1))), (0, .ref 70), (1, .ref 93), (2, .int (zI x2)), (5, .int (zI x5))]) (x4 + 1) d_So_require_64 4 rfl (by omega) (by decide) rfl ?_
    refine j_goto 10 d_So_require_67 (by decide) ?_
    exact j_sel [2, 3, 4, 1, 0] rfl h
set_option maxHeartbeats 2000000 in
theorem b_So_require_118 {ω : q_W} {σ : q_H} {Q : q_R → q_H → Prop} {d mc ms : Nat}   (hE : q_E σ) (h : (Q (.inl none) σ)) : J ω m_So_require (d + 1) mc ms 0 0 118 [] [] σ Q := by
  exact j_vret d_So_require_118 rfl (Nat.zero_le _) (Nat.zero_le _) h
set_option maxHeartbeats 2000000 in
theorem b_So_backTo_0 {ω : q_W} {σ : q_H} {Q : q_R → q_H → Prop} {d mc ms : Nat} {x1 : Int}  (hE : q_E σ) (h : inR x1 ∧ q_imp ((z σ 70 10) > x1) ((0 ≤ (x1 + 1) ∧ (x1 + 1) < 14) ∧ (J ω m_So_backTo d mc ms 0 0 20 [(0, .ref 70), (1, .int (zI x1)), (2, .int (zI (z σ 82 (x1 + 1).toNat))), (3, .int (zI (z σ 82 (x1 + 1).toNat)))] [] σ Q)) ∧ q_imp ((z σ 70 10) ≤ x1) ((Q (.inl none) σ))) : J ω m_So_backTo d mc ms 0 0 0 [(0, .ref 70), (1, .int (zI x1))] [] σ Q := by
  refine j_aload_n d_So_backTo_0 0 rfl ?_
  refine zj_getI (z σ 70 10) f_So_87 d_So_backTo_1 (tg_70 hE) (q_okE hE (by decide)) (q_z _ _ _) ?_
  refine j_iload_n d_So_backTo_4 1 rfl ?_
  obtain ⟨r1, h⟩ := h
  obtain ⟨h1, h2⟩ := h
  refine zj_icmp_gt 9 d_So_backTo_5 (by decide) (z_R _ _ _) r1 (fun k2 => ?_) (fun k2 => ?_)
  · have h := h1 k2
    refine j_aload_n d_So_backTo_9 0 rfl ?_
    refine j_getR 82 f_So_40 d_So_backTo_10 (tg_70 hE) (q_okE hE (by decide)) (rf_70_9 hE) (by decide) ?_
    refine j_iload_n d_So_backTo_13 1 rfl ?_
    refine j_iconst (v := zI 1) d_So_backTo_14 (by decide) ?_
    refine zj_iadd (x1 + 1) (by omega) d_So_backTo_15 ?_
    obtain ⟨c3, h⟩ := h
    refine zj_iald (z σ 82 (x1 + 1).toNat) d_So_backTo_16 (tg_82 hE) (q_okE hE (by decide)) c3 (by decide) (q_z _ _ _) ?_
    refine j_istore_n (L' := [(2, .int (zI (z σ 82 (x1 + 1).toNat))), (0, .ref 70), (1, .int (zI x1))]) d_So_backTo_17 (by decide) rfl ?_
    refine j_iload_n d_So_backTo_18 0 rfl ?_
    refine j_istore_n (L' := [(3, .int (zI (z σ 82 (x1 + 1).toNat))), (2, .int (zI (z σ 82 (x1 + 1).toNat))), (0, .ref 70), (1, .int (zI x1))]) d_So_backTo_19 (by decide) rfl ?_
    exact j_sel [2, 3, 1, 0] rfl h
  · have h := h2 k2
    exact j_vret d_So_backTo_8 rfl (Nat.zero_le _) (Nat.zero_le _) h
set_option maxHeartbeats 2000000 in
theorem b_So_backTo_20 {ω : q_W} {σ : q_H} {Q : q_R → q_H → Prop} {d mc ms : Nat} {x1 : Int} {x2 : Int} {x3 : Int}  (hE : q_E σ) (h : inR x3 ∧ q_imp (x3 ≥ (z σ 70 6)) ((Q (.inl none) (zs (zs (zs σ 70 6 x2) 70 7 x2) 70 10 x1))) ∧ q_imp (x3 < (z σ 70 6)) ((0 ≤ x3 ∧ x3 < 10240) ∧ (0 ≤ (z σ 81 x3.toNat) ∧ (z σ 81 x3.toNat) < 20480) ∧ (0 ≤ (zXor (z σ 81 x3.toNat) 1) ∧ (zXor (z σ 81 x3.toNat) 1) < 20480) ∧ (J ω m_So_backTo d mc ms 0 0 20 [(0, .ref 70), (1, .int (zI x1)), (2, .int (zI x2)), (3, .int (zI (x3 + 1)))] [] (zs (zs σ 78 (z σ 81 x3.toNat).toNat 0) 78 (zXor (z σ 81 x3.toNat) 1).toNat 0) Q))) : J ω m_So_backTo d mc ms 0 0 20 [(0, .ref 70), (1, .int (zI x1)), (2, .int (zI x2)), (3, .int (zI x3))] [] σ Q := by
  refine j_iload_n d_So_backTo_20 3 rfl ?_
  refine j_aload_n d_So_backTo_21 0 rfl ?_
  refine zj_getI (z σ 70 6) f_So_78 d_So_backTo_22 (tg_70 hE) (q_okE hE (by decide)) (q_z _ _ _) ?_
  obtain ⟨r4, h⟩ := h
  obtain ⟨h1, h2⟩ := h
  refine zj_icmp_ge 60 d_So_backTo_25 (by decide) r4 (z_R _ _ _) (fun k5 => ?_) (fun k5 => ?_)
  · have h := h1 k5
    refine j_aload_n d_So_backTo_60 0 rfl ?_
    refine j_iload_n d_So_backTo_61 2 rfl ?_
    refine zj_putI (g_So_78 _) d_So_backTo_62 (tg_70 hE) (q_okE hE (by decide)) ?_
    refine j_aload_n d_So_backTo_65 0 rfl ?_
    refine j_iload_n d_So_backTo_66 2 rfl ?_
    refine zj_putI (g_So_81 _) d_So_backTo_67 (tg_70 (zs_E hE)) (q_okE (zs_E hE) (by decide)) ?_
    refine j_aload_n d_So_backTo_70 0 rfl ?_
    refine j_iload_n d_So_backTo_71 1 rfl ?_
    refine zj_putI (g_So_87 _) d_So_backTo_72 (tg_70 (zs_E (zs_E hE))) (q_okE (zs_E (zs_E hE)) (by decide)) ?_
    exact j_vret d_So_backTo_75 rfl (Nat.zero_le _) (Nat.zero_le _) h
  · have h := h2 k5
    refine j_aload_n d_So_backTo_28 0 rfl ?_
    refine j_getR 78 f_So_27 d_So_backTo_29 (tg_70 hE) (q_okE hE (by decide)) (rf_70_2 hE) (by decide) ?_
    refine j_aload_n d_So_backTo_32 0 rfl ?_
    refine j_getR 81 f_So_37 d_So_backTo_33 (tg_70 hE) (q_okE hE (by decide)) (rf_70_5 hE) (by decide) ?_
    refine j_iload_n d_So_backTo_36 3 rfl ?_
    obtain ⟨c6, h⟩ := h
    refine zj_iald (z σ 81 x3.toNat) d_So_backTo_37 (tg_81 hE) (q_okE hE (by decide)) c6 (by decide) (q_z _ _ _) ?_
    refine j_iconst (v := zI 0) d_So_backTo_38 (by decide) ?_
    obtain ⟨c7, h⟩ := h
    refine zj_iast d_So_backTo_39 (tg_78 hE) (q_okE hE (by decide)) c7 (by decide) ?_
    refine j_aload_n d_So_backTo_40 0 rfl ?_
    refine j_getR 78 f_So_27 d_So_backTo_41 (tg_70 (zs_E hE)) (q_okE (zs_E hE) (by decide)) (rf_70_2 (zs_E hE)) (by decide) ?_
    refine j_aload_n d_So_backTo_44 0 rfl ?_
    refine j_getR 81 f_So_37 d_So_backTo_45 (tg_70 (zs_E hE)) (q_okE (zs_E hE) (by decide)) (rf_70_5 (zs_E hE)) (by decide) ?_
    refine j_iload_n d_So_backTo_48 3 rfl ?_
    refine zj_iald (z σ 81 x3.toNat) d_So_backTo_49 (tg_81 (zs_E hE)) (q_okE (zs_E hE) (by decide)) c6 (by decide) (Eq.trans (qs_o (by decide)) (q_z _ _ _)) ?_
    refine j_iconst (v := zI 1) d_So_backTo_50 (by decide) ?_
    refine zj_ixor d_So_backTo_51 ?_
    refine j_iconst (v := zI 0) d_So_backTo_52 (by decide) ?_
    obtain ⟨c8, h⟩ := h
    refine zj_iast d_So_backTo_53 (tg_78 (zs_E hE)) (q_okE (zs_E hE) (by decide)) c8 (by decide) ?_
    refine zj_iinc (L' := [(3, .int (zI (x3 + 1))), (0, .ref 70), (1, .int (zI x1)), (2, .int (zI x2))]) (x3 + 1) d_So_backTo_54 3 rfl (by omega) (by decide) rfl ?_
    refine j_goto 20 d_So_backTo_57 (by decide) ?_
    exact j_sel [1, 2, 3, 0] rfl h
set_option maxHeartbeats 2000000 in
theorem b_So_has_0 {ω : q_W} {σ : q_H} {Q : q_R → q_H → Prop} {d mc ms : Nat} {x1 : Int} {x2 : Int}  (hE : q_E σ) (h : (J ω m_So_has d mc ms 0 0 2 [(0, .ref 93), (1, .int (zI x1)), (2, .int (zI x2)), (3, .int (zI 0))] [] σ Q)) : J ω m_So_has d mc ms 0 0 0 [(0, .ref 93), (1, .int (zI x1)), (2, .int (zI x2))] [] σ Q := by
  refine j_iconst (v := zI 0) d_So_has_0 (by decide) ?_
  refine j_istore_n (L' := [(3, .int (zI 0)), (0, .ref 93), (1, .int (zI x1)), (2, .int (zI x2))]) d_So_has_1 (by decide) rfl ?_
  exact j_sel [1, 2, 3, 0] rfl h
set_option maxHeartbeats 2000000 in
theorem b_So_has_2 {ω : q_W} {σ : q_H} {Q : q_R → q_H → Prop} {d mc ms : Nat} {x1 : Int} {x2 : Int} {x3 : Int}  (hE : q_E σ) (h : inR x3 ∧ inR x1 ∧ q_imp (x3 ≥ x1) ((Q (.inl (some (.int (zI 0)))) σ)) ∧ q_imp (x3 < x1) ((0 ≤ x3 ∧ x3 < 12) ∧ inR x2 ∧ q_imp ((z σ 93 x3.toNat) ≠ x2) ((J ω m_So_has d mc ms 0 0 2 [(0, .ref 93), (1, .int (zI x1)), (2, .int (zI x2)), (3, .int (zI (x3 + 1)))] [] σ Q)) ∧ q_imp ((z σ 93 x3.toNat) = x2) ((Q (.inl (some (.int (zI 1)))) σ)))) : J ω m_So_has d mc ms 0 0 2 [(0, .ref 93), (1, .int (zI x1)), (2, .int (zI x2)), (3, .int (zI x3))] [] σ Q := by
  refine j_iload_n d_So_has_2 3 rfl ?_
  refine j_iload_n d_So_has_3 1 rfl ?_
  obtain ⟨r1, h⟩ := h
  obtain ⟨r2, h⟩ := h
  obtain ⟨h1, h2⟩ := h
  refine zj_icmp_ge 22 d_So_has_4 (by decide) r1 r2 (fun k3 => ?_) (fun k3 => ?_)
  · have h := h1 k3
    refine j_iconst (v := zI 0) d_So_has_22 (by decide) ?_
    exact zj_zret d_So_has_23 rfl (by decide) (Nat.zero_le _) (Nat.zero_le _) h
  · have h := h2 k3
    refine j_aload_n d_So_has_7 0 rfl ?_
    refine j_iload_n d_So_has_8 3 rfl ?_
    obtain ⟨c4, h⟩ := h
    refine zj_iald (z σ 93 x3.toNat) d_So_has_9 (tg_93 hE) (q_okE hE (by decide)) c4 (by decide) (q_z _ _ _) ?_
    refine j_iload_n d_So_has_10 2 rfl ?_
    obtain ⟨r5, h⟩ := h
    obtain ⟨h1, h2⟩ := h
    refine zj_icmp_ne 16 d_So_has_11 (by decide) (z_R _ _ _) r5 (fun k6 => ?_) (fun k6 => ?_)
    · have h := h1 k6
      refine zj_iinc (L' := [(3, .int (zI (x3 + 1))), (0, .ref 93), (1, .int (zI x1)), (2, .int (zI x2))]) (x3 + 1) d_So_has_16 3 rfl (by omega) (by decide) rfl ?_
      refine j_goto 2 d_So_has_19 (by decide) ?_
      exact j_sel [1, 2, 3, 0] rfl h
    · have h := h2 k6
      refine j_iconst (v := zI 1) d_So_has_14 (by decide) ?_
      exact zj_zret d_So_has_15 rfl (by decide) (Nat.zero_le _) (Nat.zero_le _) h
set_option maxHeartbeats 2000000 in
theorem b_So_freeFirst_0 {ω : q_W} {σ : q_H} {Q : q_R → q_H → Prop} {d mc ms : Nat} {x2 : Int}  (hE : q_E σ) (h : (J ω m_So_freeFirst d mc ms 0 0 5 [(0, .ref 70), (1, .ref 93), (2, .int (zI x2)), (3, .int (zI 0)), (4, .int (zI 0))] [] σ Q)) : J ω m_So_freeFirst d mc ms 0 0 0 [(0, .ref 70), (1, .ref 93), (2, .int (zI x2))] [] σ Q := by
  refine j_iconst (v := zI 0) d_So_freeFirst_0 (by decide) ?_
  refine j_istore_n (L' := [(3, .int (zI 0)), (0, .ref 70), (1, .ref 93), (2, .int (zI x2))]) d_So_freeFirst_1 (by decide) rfl ?_
  refine j_iconst (v := zI 0) d_So_freeFirst_2 (by decide) ?_
  refine j_istore (L' := [(4, .int (zI 0)), (3, .int (zI 0)), (0, .ref 70), (1, .ref 93), (2, .int (zI x2))]) d_So_freeFirst_3 (by decide) rfl ?_
  exact j_sel [2, 3, 4, 1, 0] rfl h
set_option maxHeartbeats 2000000 in
theorem b_So_freeFirst_5 {ω : q_W} {σ : q_H} {Q : q_R → q_H → Prop} {d mc ms : Nat} {x2 : Int} {x3 : Int} {x4 : Int}  (hE : q_E σ) (h : inR x4 ∧ inR x2 ∧ q_imp (x4 ≥ x2) ((Q (.inl (some (.int (zI x3)))) σ)) ∧ q_imp (x4 < x2) ((0 ≤ x4 ∧ x4 < 12) ∧ (0 ≤ (z σ 93 x4.toNat) ∧ (z σ 93 x4.toNat) < 20480) ∧ q_imp ((z σ 78 (z σ 93 x4.toNat).toNat) ≠ 0) ((J ω m_So_freeFirst d mc ms 0 0 5 [(0, .ref 70), (1, .ref 93), (2, .int (zI x2)), (3, .int (zI x3)), (4, .int (zI (x4 + 1)))] [] σ Q)) ∧ q_imp ((z σ 78 (z σ 93 x4.toNat).toNat) = 0) ((0 ≤ x3 ∧ x3 < 12) ∧ (J ω m_So_freeFirst d mc ms 0 0 5 [(0, .ref 70), (1, .ref 93), (2, .int (zI x2)), (3, .int (zI (x3 + 1))), (4, .int (zI (x4 + 1)))] [] (zs (zs σ 93 x4.toNat (z σ 93 x3.toNat)) 93 x3.toNat (z σ 93 x4.toNat)) Q)))) : J ω m_So_freeFirst d mc ms 0 0 5 [(0, .ref 70), (1, .ref 93), (2, .int (zI x2)), (3, .int (zI x3)), (4, .int (zI x4))] [] σ Q := by
  refine j_iload d_So_freeFirst_5 4 rfl ?_
  refine j_iload_n d_So_freeFirst_7 2 rfl ?_
  obtain ⟨r1, h⟩ := h
  obtain ⟨r2, h⟩ := h
  obtain ⟨h1, h2⟩ := h
  refine zj_icmp_ge 50 d_So_freeFirst_8 (by decide) r1 r2 (fun k3 => ?_) (fun k3 => ?_)
  · have h := h1 k3
    refine j_iload_n d_So_freeFirst_50 3 rfl ?_
    exact zj_iret d_So_freeFirst_51 rfl (Nat.zero_le _) (Nat.zero_le _) h
  · have h := h2 k3
    refine j_aload_n d_So_freeFirst_11 0 rfl ?_
    refine j_getR 78 f_So_27 d_So_freeFirst_12 (tg_70 hE) (q_okE hE (by decide)) (rf_70_2 hE) (by decide) ?_
    refine j_aload_n d_So_freeFirst_15 1 rfl ?_
    refine j_iload d_So_freeFirst_16 4 rfl ?_
    obtain ⟨c4, h⟩ := h
    refine zj_iald (z σ 93 x4.toNat) d_So_freeFirst_18 (tg_93 hE) (q_okE hE (by decide)) c4 (by decide) (q_z _ _ _) ?_
    obtain ⟨c5, h⟩ := h
    refine zj_iald (z σ 78 (z σ 93 x4.toNat).toNat) d_So_freeFirst_19 (tg_78 hE) (q_okE hE (by decide)) c5 (by decide) (q_z _ _ _) ?_
    obtain ⟨h1, h2⟩ := h
    refine zj_if_ne 44 d_So_freeFirst_20 (by decide) (z_R _ _ _) (fun k6 => ?_) (fun k6 => ?_)
    · have h := h1 k6
      refine zj_iinc (L' := [(4, .int (zI (x4 + 1))), (0, .ref 70), (1, .ref 93), (2, .int (zI x2)), (3, .int (zI x3))]) (x4 + 1) d_So_freeFirst_44 4 rfl (by omega) (by decide) rfl ?_
      refine j_goto 5 d_So_freeFirst_47 (by decide) ?_
      exact j_sel [1, 2, 3, 4, 0] rfl h
    · have h := h2 k6
      refine j_aload_n d_So_freeFirst_23 1 rfl ?_
      refine j_iload d_So_freeFirst_24 4 rfl ?_
      refine zj_iald (z σ 93 x4.toNat) d_So_freeFirst_26 (tg_93 hE) (q_okE hE (by decide)) c4 (by decide) (q_z _ _ _) ?_
      refine j_istore (L' := [(5, .int (zI (z σ 93 x4.toNat))), (0, .ref 70), (1, .ref 93), (2, .int (zI x2)), (3, .int (zI x3)), (4, .int (zI x4))]) d_So_freeFirst_27 (by decide) rfl ?_
      refine j_aload_n d_So_freeFirst_29 2 rfl ?_
      refine j_iload d_So_freeFirst_30 5 rfl ?_
      refine j_aload_n d_So_freeFirst_32 2 rfl ?_
      refine j_iload_n d_So_freeFirst_33 4 rfl ?_
      obtain ⟨c7, h⟩ := h
      refine zj_iald (z σ 93 x3.toNat) d_So_freeFirst_34 (tg_93 hE) (q_okE hE (by decide)) c7 (by decide) (q_z _ _ _) ?_
      refine zj_iast d_So_freeFirst_35 (tg_93 hE) (q_okE hE (by decide)) c4 (by decide) ?_
      refine j_aload_n d_So_freeFirst_36 2 rfl ?_
      refine j_iload_n d_So_freeFirst_37 4 rfl ?_
      refine j_iload d_So_freeFirst_38 0 rfl ?_
      refine zj_iast d_So_freeFirst_40 (tg_93 (zs_E hE)) (q_okE (zs_E hE) (by decide)) c7 (by decide) ?_
      refine zj_iinc (L' := [(3, .int (zI (x3 + 1))), (5, .int (zI (z σ 93 x4.toNat))), (0, .ref 70), (1, .ref 93), (2, .int (zI x2)), (4, .int (zI x4))]) (x3 + 1) d_So_freeFirst_41 4 rfl (by omega) (by decide) rfl ?_
      refine zj_iinc (L' := [(4, .int (zI (x4 + 1))), (3, .int (zI (x3 + 1))), (5, .int (zI (z σ 93 x4.toNat))), (0, .ref 70), (1, .ref 93), (2, .int (zI x2))]) (x4 + 1) d_So_freeFirst_44 5 rfl (by omega) (by decide) rfl ?_
      refine j_goto 5 d_So_freeFirst_47 (by decide) ?_
      exact j_sel [3, 4, 5, 1, 0] rfl h
set_option maxHeartbeats 2000000 in
theorem b_So_search_0 {ω : q_W} {σ : q_H} {Q : q_R → q_H → Prop} {d mc ms : Nat}   (hE : q_E σ) (h : (J ω m_So_search (d + 1) mc ms 0 0 2 [(0, .ref 70), (1, .int (zI 0))] [] σ Q)) : J ω m_So_search (d + 1) mc ms 0 0 0 [(0, .ref 70)] [] σ Q := by
  refine j_iconst (v := zI 0) d_So_search_0 (by decide) ?_
  refine j_istore_n (L' := [(1, .int (zI 0)), (0, .ref 70)]) d_So_search_1 (by decide) rfl ?_
  exact j_sel [1, 0] rfl h
set_option maxHeartbeats 2000000 in
theorem b_So_search_2 {ω : q_W} {σ : q_H} {Q : q_R → q_H → Prop} {d mc ms : Nat} {x1 : Int}  (hE : q_E σ) (h : inR x1 ∧ q_imp (x1 ≥ 4000000) ((Q (.inl (some (.int (zI 0)))) (zs σ 75 3 ((z σ 75 3) + 1)))) ∧ q_imp (x1 < 4000000) (q_imp ((z σ 70 13) = 0) ((J ω m_So_propagate d 0 0 0 0 0 [(0, .ref 70)] [] σ (q_ki (fun v τ => J ω m_So_search (d + 1) mc ms 0 0 26 [(0, .ref 70), (1, .int (zI x1))] [.int (zI v)] τ Q)))) ∧ q_imp ((z σ 70 13) ≠ 0) (q_imp ((z σ 70 10) ≠ 0) ((J ω m_So_search (d + 1) mc ms 0 0 38 [(0, .ref 70), (1, .int (zI x1)), (2, .int (zI (z σ 70 13)))] [] σ Q)) ∧ q_imp ((z σ 70 10) = 0) ((J ω m_So_noteFacts d 0 0 0 0 0 [(0, .ref 70)] [] σ (q_kv (fun τ => J ω m_So_search (d + 1) mc ms 0 0 38 [(0, .ref 70), (1, .int (zI x1)), (2, .int (zI (z σ 70 13)))] [] τ Q))))))) : J ω m_So_search (d + 1) mc ms 0 0 2 [(0, .ref 70), (1, .int (zI x1))] [] σ Q := by
  refine j_iload_n d_So_search_2 1 rfl ?_
  refine j_ldc (v := 4000000) k_So_114 d_So_search_3 ?_
  refine j_topE (v := zI 4000000) (by decide) ?_
  obtain ⟨r1, h⟩ := h
  obtain ⟨h1, h2⟩ := h
  refine zj_icmp_ge 103 d_So_search_5 (by decide) r1 ⟨by decide, by decide⟩ (fun k2 => ?_) (fun k2 => ?_)
  · have h := h1 k2
    refine j_aload_n d_So_search_103 0 rfl ?_
    refine j_getR 75 f_So_21 d_So_search_104 (tg_70 hE) (q_okE hE (by decide)) (rf_70_1 hE) (by decide) ?_
    refine j_dup d_So_search_107 rfl ?_
    refine zj_getI (z σ 75 3) f_So_55 d_So_search_108 (tg_75 hE) (q_okE hE (by decide)) (q_z _ _ _) ?_
    refine j_iconst (v := zI 1) d_So_search_111 (by decide) ?_
    refine zj_iadd ((z σ 75 3) + 1) (by omega) d_So_search_112 ?_
    refine zj_putI (g_So_55 _) d_So_search_113 (tg_75 hE) (q_okE hE (by decide)) ?_
    refine j_iconst (v := zI 0) d_So_search_116 (by decide) ?_
    exact zj_zret d_So_search_117 rfl (by decide) (Nat.zero_le _) (Nat.zero_le _) h
  · have h := h2 k2
    refine j_aload_n d_So_search_8 0 rfl ?_
    refine zj_getI (z σ 70 13) f_So_93 d_So_search_9 (tg_70 hE) (q_okE hE (by decide)) (q_z _ _ _) ?_
    obtain ⟨h1, h2⟩ := h
    refine zj_if_eq 22 d_So_search_12 (by decide) (z_R _ _ _) (fun k3 => ?_) (fun k3 => ?_)
    · have h := h1 k3
      refine j_aload_n d_So_search_22 0 rfl ?_
      refine j_callV m_So_propagate [] [] d 0 0 cV_So_115 d_So_search_23 rfl rfl (tg_70 hE) (q_okE hE (by decide)) (Nat.le_of_ble_eq_true rfl) (Nat.le_refl _) (Nat.le_of_ble_eq_true rfl) (Nat.zero_le _) (Nat.zero_le _) h (fun v τ h => ?_) (fun x τ h => ?_)
      · obtain ⟨v, hv, e1, h⟩ := h; cases e1; exact j_sel [0, 1] rfl h
      · obtain ⟨v, hv, e1, h⟩ := h; cases e1
    · have h := h2 k3
      refine j_aload_n d_So_search_15 0 rfl ?_
      refine zj_getI (z σ 70 13) f_So_93 d_So_search_16 (tg_70 hE) (q_okE hE (by decide)) (q_z _ _ _) ?_
      refine j_goto 26 d_So_search_19 (by decide) ?_
      refine j_istore_n (L' := [(2, .int (zI (z σ 70 13))), (0, .ref 70), (1, .int (zI x1))]) d_So_search_26 (by decide) rfl ?_
      refine j_aload_n d_So_search_27 1 rfl ?_
      refine zj_getI (z σ 70 10) f_So_87 d_So_search_28 (tg_70 hE) (q_okE hE (by decide)) (q_z _ _ _) ?_
      obtain ⟨h1, h2⟩ := h
      refine zj_if_ne 38 d_So_search_31 (by decide) (z_R _ _ _) (fun k4 => ?_) (fun k4 => ?_)
      · have h := h1 k4
        exact j_sel [1, 2, 0] rfl h
      · have h := h2 k4
        refine j_aload_n d_So_search_34 1 rfl ?_
        refine j_callV m_So_noteFacts [] [] d 0 0 cV_So_119 d_So_search_35 rfl rfl (tg_70 hE) (q_okE hE (by decide)) (Nat.le_of_ble_eq_true rfl) (Nat.le_refl _) (Nat.le_of_ble_eq_true rfl) (Nat.zero_le _) (Nat.zero_le _) h (fun v τ h => ?_) (fun x τ h => ?_)
        · obtain ⟨e1, h⟩ := h; cases e1; exact j_sel [1, 2, 0] rfl h
        · obtain ⟨e1, h⟩ := h; cases e1
set_option maxHeartbeats 2000000 in
theorem b_So_search_26 {ω : q_W} {σ : q_H} {Q : q_R → q_H → Prop} {d mc ms : Nat} {x1 : Int} {y0 : Int}  (hE : q_E σ) (h : q_imp ((z σ 70 10) ≠ 0) ((J ω m_So_search (d + 1) mc ms 0 0 38 [(0, .ref 70), (1, .int (zI x1)), (2, .int (zI y0))] [] σ Q)) ∧ q_imp ((z σ 70 10) = 0) ((J ω m_So_noteFacts d 0 0 0 0 0 [(0, .ref 70)] [] σ (q_kv (fun τ => J ω m_So_search (d + 1) mc ms 0 0 38 [(0, .ref 70), (1, .int (zI x1)), (2, .int (zI y0))] [] τ Q))))) : J ω m_So_search (d + 1) mc ms 0 0 26 [(0, .ref 70), (1, .int (zI x1))] [.int (zI y0)] σ Q := by
  refine j_istore_n (L' := [(2, .int (zI y0)), (0, .ref 70), (1, .int (zI x1))]) d_So_search_26 (by decide) rfl ?_
  refine j_aload_n d_So_search_27 1 rfl ?_
  refine zj_getI (z σ 70 10) f_So_87 d_So_search_28 (tg_70 hE) (q_okE hE (by decide)) (q_z _ _ _) ?_
  obtain ⟨h1, h2⟩ := h
  refine zj_if_ne 38 d_So_search_31 (by decide) (z_R _ _ _) (fun k5 => ?_) (fun k5 => ?_)
  · have h := h1 k5
    exact j_sel [1, 2, 0] rfl h
  · have h := h2 k5
    refine j_aload_n d_So_search_34 1 rfl ?_
    refine j_callV m_So_noteFacts [] [] d 0 0 cV_So_119 d_So_search_35 rfl rfl (tg_70 hE) (q_okE hE (by decide)) (Nat.le_of_ble_eq_true rfl) (Nat.le_refl _) (Nat.le_of_ble_eq_true rfl) (Nat.zero_le _) (Nat.zero_le _) h (fun v τ h => ?_) (fun x τ h => ?_)
    · obtain ⟨e1, h⟩ := h; cases e1; exact j_sel [1, 2, 0] rfl h
    · obtain ⟨e1, h⟩ := h; cases e1
set_option maxHeartbeats 2000000 in
theorem b_So_search_38 {ω : q_W} {σ : q_H} {Q : q_R → q_H → Prop} {d mc ms : Nat} {x1 : Int} {x2 : Int}  (hE : q_E σ) (h : inR x2 ∧ q_imp (x2 = 0) ((J ω m_So_nextWish d 0 0 0 0 0 [(0, .ref 70)] [] σ (q_ki (fun v τ => J ω m_So_search (d + 1) mc ms 0 0 56 [(0, .ref 70), (1, .int (zI x1))] [.int (zI v)] τ Q)))) ∧ q_imp (x2 ≠ 0) ((J ω m_So_learn d 0 0 0 0 0 [(0, .ref 70), (1, .int (zI x2))] [] σ (q_ki (fun v τ => J ω m_So_search (d + 1) mc ms 0 0 47 [(0, .ref 70), (1, .int (zI x1))] [.int (zI v)] τ Q))))) : J ω m_So_search (d + 1) mc ms 0 0 38 [(0, .ref 70), (1, .int (zI x1)), (2, .int (zI x2))] [] σ Q := by
  refine j_iload_n d_So_search_38 2 rfl ?_
  obtain ⟨r6, h⟩ := h
  obtain ⟨h1, h2⟩ := h
  refine zj_if_eq 52 d_So_search_39 (by decide) r6 (fun k7 => ?_) (fun k7 => ?_)
  · have h := h1 k7
    refine j_aload_n d_So_search_52 0 rfl ?_
    refine j_callV m_So_nextWish [] [] d 0 0 cV_So_126 d_So_search_53 rfl rfl (tg_70 hE) (q_okE hE (by decide)) (Nat.le_of_ble_eq_true rfl) (Nat.le_refl _) (Nat.le_of_ble_eq_true rfl) (Nat.zero_le _) (Nat.zero_le _) h (fun v τ h => ?_) (fun x τ h => ?_)
    · obtain ⟨v, hv, e1, h⟩ := h; cases e1; exact j_sel [0, 1] rfl h
    · obtain ⟨v, hv, e1, h⟩ := h; cases e1
  · have h := h2 k7
    refine j_aload_n d_So_search_42 0 rfl ?_
    refine j_iload_n d_So_search_43 2 rfl ?_
    refine j_callV m_So_learn [.int (zI x2)] [] d 0 0 cV_So_122 d_So_search_44 rfl rfl (tg_70 hE) (q_okE hE (by decide)) (Nat.le_of_ble_eq_true rfl) (Nat.le_refl _) (Nat.le_of_ble_eq_true rfl) (Nat.zero_le _) (Nat.zero_le _) h (fun v τ h => ?_) (fun x τ h => ?_)
    · obtain ⟨v, hv, e1, h⟩ := h; cases e1; exact j_sel [0, 1] rfl h
    · obtain ⟨v, hv, e1, h⟩ := h; cases e1
set_option maxHeartbeats 2000000 in
theorem b_So_search_56 {ω : q_W} {σ : q_H} {Q : q_R → q_H → Prop} {d mc ms : Nat} {x1 : Int} {y0 : Int}  (hE : q_E σ) (h : inR y0 ∧ q_imp (y0 ≠ (-1)) ((0 ≤ ((z σ 70 10) + 1) ∧ ((z σ 70 10) + 1) < 14) ∧ (J ω m_So_assign d 0 0 0 0 0 [(0, .ref 70), (1, .int (zI y0)), (2, .int (zI 0))] [] (zs (zs σ 70 10 ((z σ 70 10) + 1)) 82 ((z σ 70 10) + 1).toNat (z σ 70 6)) (q_kv (fun τ => J ω m_So_search (d + 1) mc ms 0 0 97 [(0, .ref 70), (1, .int (zI x1))] [] τ Q)))) ∧ q_imp (y0 = (-1)) ((J ω m_So_checkModel d 0 0 0 0 0 [(0, .ref 70)] [] σ (q_kv (fun τ => J ω m_So_search (d + 1) mc ms 0 0 66 [] [] τ Q))))) : J ω m_So_search (d + 1) mc ms 0 0 56 [(0, .ref 70), (1, .int (zI x1))] [.int (zI y0)] σ Q := by
  refine j_istore_n (L' := [(3, .int (zI y0)), (0, .ref 70), (1, .int (zI x1))]) d_So_search_56 (by decide) rfl ?_
  refine j_iload_n d_So_search_57 0 rfl ?_
  refine j_iconst (v := zI (-1)) d_So_search_58 (by decide) ?_
  obtain ⟨r8, h⟩ := h
  obtain ⟨h1, h2⟩ := h
  refine zj_icmp_ne 68 d_So_search_59 (by decide) r8 ⟨by decide, by decide⟩ (fun k9 => ?_) (fun k9 => ?_)
  · have h := h1 k9
    refine j_aload_n d_So_search_68 1 rfl ?_
    refine j_dup d_So_search_69 rfl ?_
    refine zj_getI (z σ 70 10) f_So_87 d_So_search_70 (tg_70 hE) (q_okE hE (by decide)) (q_z _ _ _) ?_
    refine j_iconst (v := zI 1) d_So_search_73 (by decide) ?_
    refine zj_iadd ((z σ 70 10) + 1) (by omega) d_So_search_74 ?_
    refine zj_putI (g_So_87 _) d_So_search_75 (tg_70 hE) (q_okE hE (by decide)) ?_
    refine j_aload_n d_So_search_78 1 rfl ?_
    refine j_getR 82 f_So_40 d_So_search_79 (tg_70 (zs_E hE)) (q_okE (zs_E hE) (by decide)) (rf_70_9 (zs_E hE)) (by decide) ?_
    refine j_aload_n d_So_search_82 1 rfl ?_
    refine zj_getI ((z σ 70 10) + 1) f_So_87 d_So_search_83 (tg_70 (zs_E hE)) (q_okE (zs_E hE) (by decide)) (qs_s) ?_
    refine j_aload_n d_So_search_86 1 rfl ?_
    refine zj_getI (z σ 70 6) f_So_78 d_So_search_87 (tg_70 (zs_E hE)) (q_okE (zs_E hE) (by decide)) (Eq.trans (qs_k (by decide)) (q_z _ _ _)) ?_
    obtain ⟨c10, h⟩ := h
    refine zj_iast d_So_search_90 (tg_82 (zs_E hE)) (q_okE (zs_E hE) (by decide)) c10 (by decide) ?_
    refine j_aload_n d_So_search_91 1 rfl ?_
    refine j_iload_n d_So_search_92 0 rfl ?_
    refine j_iconst (v := zI 0) d_So_search_93 (by decide) ?_
    refine j_callV m_So_assign [.int (zI y0), .int (zI 0)] [] d 0 0 cV_So_96 d_So_search_94 rfl rfl (tg_70 (zs_E (zs_E hE))) (q_okE (zs_E (zs_E hE)) (by decide)) (Nat.le_of_ble_eq_true rfl) (Nat.le_refl _) (Nat.le_of_ble_eq_true rfl) (Nat.zero_le _) (Nat.zero_le _) h (fun v τ h => ?_) (fun x τ h => ?_)
    · obtain ⟨e1, h⟩ := h; cases e1; exact j_sel [1, 2] rfl h
    · obtain ⟨e1, h⟩ := h; cases e1
  · have h := h2 k9
    refine j_aload_n d_So_search_62 1 rfl ?_
    refine j_callV m_So_checkModel [] [] d 0 0 cV_So_129 d_So_search_63 rfl rfl (tg_70 hE) (q_okE hE (by decide)) (Nat.le_of_ble_eq_true rfl) (Nat.le_refl _) (Nat.le_of_ble_eq_true rfl) (Nat.zero_le _) (Nat.zero_le _) h (fun v τ h => ?_) (fun x τ h => ?_)
    · obtain ⟨e1, h⟩ := h; cases e1; exact j_sel [] rfl h
    · obtain ⟨e1, h⟩ := h; cases e1
set_option maxHeartbeats 2000000 in
theorem b_So_search_47 {ω : q_W} {σ : q_H} {Q : q_R → q_H → Prop} {d mc ms : Nat} {x1 : Int} {y0 : Int}  (hE : q_E σ) (h : inR y0 ∧ q_imp (y0 ≠ 0) ((J ω m_So_search (d + 1) mc ms 0 0 2 [(0, .ref 70), (1, .int (zI (x1 + 1)))] [] σ Q)) ∧ q_imp (y0 = 0) ((Q (.inl (some (.int (zI 0)))) σ))) : J ω m_So_search (d + 1) mc ms 0 0 47 [(0, .ref 70), (1, .int (zI x1))] [.int (zI y0)] σ Q := by
  obtain ⟨r11, h⟩ := h
  obtain ⟨h1, h2⟩ := h
  refine zj_if_ne 97 d_So_search_47 (by decide) r11 (fun k12 => ?_) (fun k12 => ?_)
  · have h := h1 k12
    refine zj_iinc (L' := [(1, .int (zI (x1 + 1))), (0, .ref 70)]) (x1 + 1) d_So_search_97 1 rfl (by omega) (by decide) rfl ?_
    refine j_goto 2 d_So_search_100 (by decide) ?_
    exact j_sel [1, 0] rfl h
  · have h := h2 k12
    refine j_iconst (v := zI 0) d_So_search_50 (by decide) ?_
    exact zj_zret d_So_search_51 rfl (by decide) (Nat.zero_le _) (Nat.zero_le _) h
set_option maxHeartbeats 2000000 in
theorem b_So_search_97 {ω : q_W} {σ : q_H} {Q : q_R → q_H → Prop} {d mc ms : Nat} {x1 : Int}  (hE : q_E σ) (h : (J ω m_So_search (d + 1) mc ms 0 0 2 [(0, .ref 70), (1, .int (zI (x1 + 1)))] [] σ Q)) : J ω m_So_search (d + 1) mc ms 0 0 97 [(0, .ref 70), (1, .int (zI x1))] [] σ Q := by
  refine zj_iinc (L' := [(1, .int (zI (x1 + 1))), (0, .ref 70)]) (x1 + 1) d_So_search_97 1 rfl (by omega) (by decide) rfl ?_
  refine j_goto 2 d_So_search_100 (by decide) ?_
  exact j_sel [1, 0] rfl h
set_option maxHeartbeats 2000000 in
theorem b_So_search_66 {ω : q_W} {σ : q_H} {Q : q_R → q_H → Prop} {d mc ms : Nat}   (hE : q_E σ) (h : (Q (.inl (some (.int (zI 1)))) σ)) : J ω m_So_search (d + 1) mc ms 0 0 66 [] [] σ Q := by
  refine j_iconst (v := zI 1) d_So_search_66 (by decide) ?_
  exact zj_zret d_So_search_67 rfl (by decide) (Nat.zero_le _) (Nat.zero_le _) h
set_option maxHeartbeats 2000000 in
theorem b_So_propagate_0 {ω : q_W} {σ : q_H} {Q : q_R → q_H → Prop} {d mc ms : Nat}   (hE : q_E σ) (h : (J ω m_So_propagate (d + 1) mc ms 0 0 2 [(0, .ref 70), (1, .int (zI 0))] [] σ Q)) : J ω m_So_propagate (d + 1) mc ms 0 0 0 [(0, .ref 70)] [] σ Q := by
  refine j_iconst (v := zI 0) d_So_propagate_0 (by decide) ?_
  refine j_istore_n (L' := [(1, .int (zI 0)), (0, .ref 70)]) d_So_propagate_1 (by decide) rfl ?_
  exact j_sel [1, 0] rfl h
set_option maxHeartbeats 2000000 in
theorem b_So_propagate_2 {ω : q_W} {σ : q_H} {Q : q_R → q_H → Prop} {d mc ms : Nat} {x1 : Int}  (hE : q_E σ) (h : inR x1 ∧ q_imp (x1 ≠ 0) ((Q (.inl (some (.int (zI x1)))) σ)) ∧ q_imp (x1 = 0) (q_imp ((z σ 70 7) ≥ (z σ 70 6)) ((Q (.inl (some (.int (zI x1)))) σ)) ∧ q_imp ((z σ 70 7) < (z σ 70 6)) (q_imp ((z σ 70 7) ≥ 10240) ((Q (.inl (some (.int (zI x1)))) σ)) ∧ q_imp ((z σ 70 7) < 10240) ((0 ≤ (z σ 70 7) ∧ (z σ 70 7) < 10240) ∧ (J ω m_So_visit d 0 0 0 0 0 [(0, .ref 70), (1, .int (zI (zXor (z σ 81 (z σ 70 7).toNat) 1)))] [] σ (q_ki (fun v τ => J ω m_So_propagate (d + 1) mc ms 0 0 42 [(0, .ref 70)] [.int (zI v)] τ Q))))))) : J ω m_So_propagate (d + 1) mc ms 0 0 2 [(0, .ref 70), (1, .int (zI x1))] [] σ Q := by
  refine j_iload_n d_So_propagate_2 1 rfl ?_
  obtain ⟨r1, h⟩ := h
  obtain ⟨h1, h2⟩ := h
  refine zj_if_ne 56 d_So_propagate_3 (by decide) r1 (fun k2 => ?_) (fun k2 => ?_)
  · have h := h1 k2
    refine j_iload_n d_So_propagate_56 1 rfl ?_
    exact zj_iret d_So_propagate_57 rfl (Nat.zero_le _) (Nat.zero_le _) h
  · have h := h2 k2
    refine j_aload_n d_So_propagate_6 0 rfl ?_
    refine zj_getI (z σ 70 7) f_So_81 d_So_propagate_7 (tg_70 hE) (q_okE hE (by decide)) (q_z _ _ _) ?_
    refine j_aload_n d_So_propagate_10 0 rfl ?_
    refine zj_getI (z σ 70 6) f_So_78 d_So_propagate_11 (tg_70 hE) (q_okE hE (by decide)) (q_z _ _ _) ?_
    obtain ⟨h1, h2⟩ := h
    refine zj_icmp_ge 56 d_So_propagate_14 (by decide) (z_R _ _ _) (z_R _ _ _) (fun k3 => ?_) (fun k3 => ?_)
    · have h := h1 k3
      refine j_iload_n d_So_propagate_56 1 rfl ?_
      exact zj_iret d_So_propagate_57 rfl (Nat.zero_le _) (Nat.zero_le _) h
    · have h := h2 k3
      refine j_aload_n d_So_propagate_17 0 rfl ?_
      refine zj_getI (z σ 70 7) f_So_81 d_So_propagate_18 (tg_70 hE) (q_okE hE (by decide)) (q_z _ _ _) ?_
      refine j_sipush (v := zI 10240) d_So_propagate_21 (by decide) ?_
      obtain ⟨h1, h2⟩ := h
      refine zj_icmp_ge 56 d_So_propagate_24 (by decide) (z_R _ _ _) ⟨by decide, by decide⟩ (fun k4 => ?_) (fun k4 => ?_)
      · have h := h1 k4
        refine j_iload_n d_So_propagate_56 1 rfl ?_
        exact zj_iret d_So_propagate_57 rfl (Nat.zero_le _) (Nat.zero_le _) h
      · have h := h2 k4
        refine j_aload_n d_So_propagate_27 0 rfl ?_
        refine j_aload_n d_So_propagate_28 0 rfl ?_
        refine j_getR 81 f_So_37 d_So_propagate_29 (tg_70 hE) (q_okE hE (by decide)) (rf_70_5 hE) (by decide) ?_
        refine j_aload_n d_So_propagate_32 0 rfl ?_
        refine zj_getI (z σ 70 7) f_So_81 d_So_propagate_33 (tg_70 hE) (q_okE hE (by decide)) (q_z _ _ _) ?_
        obtain ⟨c5, h⟩ := h
        refine zj_iald (z σ 81 (z σ 70 7).toNat) d_So_propagate_36 (tg_81 hE) (q_okE hE (by decide)) c5 (by decide) (q_z _ _ _) ?_
        refine j_iconst (v := zI 1) d_So_propagate_37 (by decide) ?_
        refine zj_ixor d_So_propagate_38 ?_
        refine j_callV m_So_visit [.int (zI (zXor (z σ 81 (z σ 70 7).toNat) 1))] [] d 0 0 cV_So_132 d_So_propagate_39 rfl rfl (tg_70 hE) (q_okE hE (by decide)) (Nat.le_of_ble_eq_true rfl) (Nat.le_refl _) (Nat.le_of_ble_eq_true rfl) (Nat.zero_le _) (Nat.zero_le _) h (fun v τ h => ?_) (fun x τ h => ?_)
        · obtain ⟨v, hv, e1, h⟩ := h; cases e1; exact j_sel [0] rfl h
        · obtain ⟨v, hv, e1, h⟩ := h; cases e1
set_option maxHeartbeats 2000000 in
theorem b_So_propagate_42 {ω : q_W} {σ : q_H} {Q : q_R → q_H → Prop} {d mc ms : Nat} {y0 : Int}  (hE : q_E σ) (h : (J ω m_So_propagate (d + 1) mc ms 0 0 2 [(0, .ref 70), (1, .int (zI y0))] [] (zs σ 70 7 ((z σ 70 7) + 1)) Q)) : J ω m_So_propagate (d + 1) mc ms 0 0 42 [(0, .ref 70)] [.int (zI y0)] σ Q := by
  refine j_istore_n (L' := [(1, .int (zI y0)), (0, .ref 70)]) d_So_propagate_42 (by decide) rfl ?_
  refine j_aload_n d_So_propagate_43 1 rfl ?_
  refine j_dup d_So_propagate_44 rfl ?_
  refine zj_getI (z σ 70 7) f_So_81 d_So_propagate_45 (tg_70 hE) (q_okE hE (by decide)) (q_z _ _ _) ?_
  refine j_iconst (v := zI 1) d_So_propagate_48 (by decide) ?_
  refine zj_iadd ((z σ 70 7) + 1) (by omega) d_So_propagate_49 ?_
  refine zj_putI (g_So_81 _) d_So_propagate_50 (tg_70 hE) (q_okE hE (by decide)) ?_
  refine j_goto 2 d_So_propagate_53 (by decide) ?_
  exact j_sel [1, 0] rfl h
set_option maxHeartbeats 2000000 in
theorem b_So_visit_0 {ω : q_W} {σ : q_H} {Q : q_R → q_H → Prop} {d mc ms : Nat} {x1 : Int}  (hE : q_E σ) (h : (0 ≤ x1 ∧ x1 < 20480) ∧ (J ω m_So_visit (d + 1) mc ms 0 0 27 [(0, .ref 70), (1, .int (zI x1)), (2, .ref 72), (3, .ref 73), (4, .int (zI 0)), (5, .int (zI (z σ 73 x1.toNat))), (6, .int (zI 0))] [] σ Q)) : J ω m_So_visit (d + 1) mc ms 0 0 0 [(0, .ref 70), (1, .int (zI x1))] [] σ Q := by
  refine j_aload_n d_So_visit_0 0 rfl ?_
  refine j_getR 71 f_So_12 d_So_visit_1 (tg_70 hE) (q_okE hE (by decide)) (rf_70_0 hE) (by decide) ?_
  refine j_getR 72 f_So_136 d_So_visit_4 (tg_71 hE) (q_okE hE (by decide)) (rf_71_0 hE) (by decide) ?_
  refine j_astore_n (L' := [(2, .ref 72), (0, .ref 70), (1, .int (zI x1))]) d_So_visit_7 (by decide) rfl ?_
  refine j_aload_n d_So_visit_8 1 rfl ?_
  refine j_getR 71 f_So_12 d_So_visit_9 (tg_70 hE) (q_okE hE (by decide)) (rf_70_0 hE) (by decide) ?_
  refine j_getR 73 f_So_139 d_So_visit_12 (tg_71 hE) (q_okE hE (by decide)) (rf_71_1 hE) (by decide) ?_
  refine j_astore_n (L' := [(3, .ref 73), (2, .ref 72), (0, .ref 70), (1, .int (zI x1))]) d_So_visit_15 (by decide) rfl ?_
  refine j_iconst (v := zI 0) d_So_visit_16 (by decide) ?_
  refine j_istore (L' := [(4, .int (zI 0)), (3, .ref 73), (2, .ref 72), (0, .ref 70), (1, .int (zI x1))]) d_So_visit_17 (by decide) rfl ?_
  refine j_aload_n d_So_visit_19 1 rfl ?_
  refine j_iload_n d_So_visit_20 4 rfl ?_
  obtain ⟨c1, h⟩ := h
  refine zj_iald (z σ 73 x1.toNat) d_So_visit_21 (tg_73 hE) (q_okE hE (by decide)) c1 (by decide) (q_z _ _ _) ?_
  refine j_istore (L' := [(5, .int (zI (z σ 73 x1.toNat))), (4, .int (zI 0)), (3, .ref 73), (2, .ref 72), (0, .ref 70), (1, .int (zI x1))]) d_So_visit_22 (by decide) rfl ?_
  refine j_iconst (v := zI 0) d_So_visit_24 (by decide) ?_
  refine j_istore (L' := [(6, .int (zI 0)), (5, .int (zI (z σ 73 x1.toNat))), (4, .int (zI 0)), (3, .ref 73), (2, .ref 72), (0, .ref 70), (1, .int (zI x1))]) d_So_visit_25 (by decide) rfl ?_
  exact j_sel [5, 6, 4, 3, 2, 1, 0] rfl h
set_option maxHeartbeats 2000000 in
theorem b_So_visit_27 {ω : q_W} {σ : q_H} {Q : q_R → q_H → Prop} {d mc ms : Nat} {x1 : Int} {x4 : Int} {x5 : Int} {x6 : Int}  (hE : q_E σ) (h : inR x5 ∧ q_imp (x5 = 0) ((Q (.inl (some (.int (zI 0)))) σ)) ∧ q_imp (x5 ≠ 0) (inR x6 ∧ q_imp (x6 ≥ 360000) ((Q (.inl (some (.int (zI 0)))) σ)) ∧ q_imp (x6 < 360000) ((0 ≤ (x5 + 3) ∧ (x5 + 3) < 360000) ∧ inR x1 ∧ q_imp ((z σ 72 (x5 + 3).toNat) ≠ x1) ((J ω m_So_visit (d + 1) mc ms 0 0 54 [(0, .ref 70), (1, .int (zI x1)), (2, .ref 72), (3, .ref 73), (4, .int (zI x4)), (5, .int (zI x5)), (6, .int (zI x6))] [.int (zI 1)] σ Q)) ∧ q_imp ((z σ 72 (x5 + 3).toNat) = x1) ((J ω m_So_visit (d + 1) mc ms 0 0 54 [(0, .ref 70), (1, .int (zI x1)), (2, .ref 72), (3, .ref 73), (4, .int (zI x4)), (5, .int (zI x5)), (6, .int (zI x6))] [.int (zI 0)] σ Q))))) : J ω m_So_visit (d + 1) mc ms 0 0 27 [(0, .ref 70), (1, .int (zI x1)), (2, .ref 72), (3, .ref 73), (4, .int (zI x4)), (5, .int (zI x5)), (6, .int (zI x6))] [] σ Q := by
  refine j_iload d_So_visit_27 5 rfl ?_
  obtain ⟨r2, h⟩ := h
  obtain ⟨h1, h2⟩ := h
  refine zj_if_eq 216 d_So_visit_29 (by decide) r2 (fun k3 => ?_) (fun k3 => ?_)
  · have h := h1 k3
    refine j_iconst (v := zI 0) d_So_visit_216 (by decide) ?_
    exact zj_iret d_So_visit_217 rfl (Nat.zero_le _) (Nat.zero_le _) h
  · have h := h2 k3
    refine j_iload d_So_visit_32 6 rfl ?_
    refine j_aload_n d_So_visit_34 2 rfl ?_
    refine zj_alen d_So_visit_35 (tg_72 hE) (by decide) (q_okE hE (by decide)) ?_
    obtain ⟨r4, h⟩ := h
    obtain ⟨h1, h2⟩ := h
    refine zj_icmp_ge 216 d_So_visit_36 (by decide) r4 ⟨by decide, by decide⟩ (fun k5 => ?_) (fun k5 => ?_)
    · have h := h1 k5
      refine j_iconst (v := zI 0) d_So_visit_216 (by decide) ?_
      exact zj_iret d_So_visit_217 rfl (Nat.zero_le _) (Nat.zero_le _) h
    · have h := h2 k5
      refine j_aload_n d_So_visit_39 2 rfl ?_
      refine j_iload d_So_visit_40 5 rfl ?_
      refine j_iconst (v := zI 3) d_So_visit_42 (by decide) ?_
      refine zj_iadd (x5 + 3) (by omega) d_So_visit_43 ?_
      obtain ⟨c6, h⟩ := h
      refine zj_iald (z σ 72 (x5 + 3).toNat) d_So_visit_44 (tg_72 hE) (q_okE hE (by decide)) c6 (by decide) (q_z _ _ _) ?_
      refine j_iload_n d_So_visit_45 1 rfl ?_
      obtain ⟨r7, h⟩ := h
      obtain ⟨h1, h2⟩ := h
      refine zj_icmp_ne 53 d_So_visit_46 (by decide) (z_R _ _ _) r7 (fun k8 => ?_) (fun k8 => ?_)
      · have h := h1 k8
        refine j_iconst (v := zI 1) d_So_visit_53 (by decide) ?_
        exact j_sel [0, 1, 2, 3, 4, 5, 6] rfl h
      · have h := h2 k8
        refine j_iconst (v := zI 0) d_So_visit_49 (by decide) ?_
        refine j_goto 54 d_So_visit_50 (by decide) ?_
        exact j_sel [0, 1, 2, 3, 4, 5, 6] rfl h
set_option maxHeartbeats 2000000 in
theorem b_So_visit_54 {ω : q_W} {σ : q_H} {Q : q_R → q_H → Prop} {d mc ms : Nat} {x1 : Int} {x4 : Int} {x5 : Int} {x6 : Int} {y0 : Int}  (hE : q_E σ) (h : (0 ≤ ((x5 + 4) - y0) ∧ ((x5 + 4) - y0) < 360000) ∧ (0 ≤ ((x5 + 1) + y0) ∧ ((x5 + 1) + y0) < 360000) ∧ (0 ≤ (z σ 72 ((x5 + 4) - y0).toNat) ∧ (z σ 72 ((x5 + 4) - y0).toNat) < 20480) ∧ q_imp ((z σ 78 (z σ 72 ((x5 + 4) - y0).toNat).toNat) ≠ 1) ((J ω m_So_replacement d 0 0 0 0 0 [(0, .ref 70), (1, .int (zI x5))] [] σ (q_ki (fun v τ => J ω m_So_visit (d + 1) mc ms 0 0 105 [(0, .ref 70), (1, .int (zI x1)), (2, .ref 72), (3, .ref 73), (4, .int (zI x4)), (5, .int (zI x5)), (6, .int (zI x6)), (7, .int (zI y0)), (8, .int (zI (z σ 72 ((x5 + 4) - y0).toNat))), (9, .int (zI ((x5 + 1) + y0))), (10, .int (zI (z σ 72 ((x5 + 1) + y0).toNat)))] [.int (zI v)] τ Q)))) ∧ q_imp ((z σ 78 (z σ 72 ((x5 + 4) - y0).toNat).toNat) = 1) ((J ω m_So_visit (d + 1) mc ms 0 0 105 [(0, .ref 70), (1, .int (zI x1)), (2, .ref 72), (3, .ref 73), (4, .int (zI x4)), (5, .int (zI x5)), (6, .int (zI x6)), (7, .int (zI y0)), (8, .int (zI (z σ 72 ((x5 + 4) - y0).toNat))), (9, .int (zI ((x5 + 1) + y0))), (10, .int (zI (z σ 72 ((x5 + 1) + y0).toNat)))] [.int (zI 0)] σ Q))) : J ω m_So_visit (d + 1) mc ms 0 0 54 [(0, .ref 70), (1, .int (zI x1)), (2, .ref 72), (3, .ref 73), (4, .int (zI x4)), (5, .int (zI x5)), (6, .int (zI x6))] [.int (zI y0)] σ Q := by
  refine j_istore (L' := [(7, .int (zI y0)), (0, .ref 70), (1, .int (zI x1)), (2, .ref 72), (3, .ref 73), (4, .int (zI x4)), (5, .int (zI x5)), (6, .int (zI x6))]) d_So_visit_54 (by decide) rfl ?_
  refine j_aload_n d_So_visit_56 3 rfl ?_
  refine j_iload d_So_visit_57 6 rfl ?_
  refine j_iconst (v := zI 3) d_So_visit_59 (by decide) ?_
  refine zj_iadd (x5 + 3) (by omega) d_So_visit_60 ?_
  refine j_iconst (v := zI 1) d_So_visit_61 (by decide) ?_
  refine zj_iadd (x5 + 4) (by omega) d_So_visit_62 ?_
  refine j_iload d_So_visit_63 0 rfl ?_
  refine zj_isub ((x5 + 4) - y0) rfl d_So_visit_65 ?_
  obtain ⟨c9, h⟩ := h
  refine zj_iald (z σ 72 ((x5 + 4) - y0).toNat) d_So_visit_66 (tg_72 hE) (q_okE hE (by decide)) c9 (by decide) (q_z _ _ _) ?_
  refine j_istore (L' := [(8, .int (zI (z σ 72 ((x5 + 4) - y0).toNat))), (7, .int (zI y0)), (0, .ref 70), (1, .int (zI x1)), (2, .ref 72), (3, .ref 73), (4, .int (zI x4)), (5, .int (zI x5)), (6, .int (zI x6))]) d_So_visit_67 (by decide) rfl ?_
  refine j_iload d_So_visit_69 7 rfl ?_
  refine j_iconst (v := zI 1) d_So_visit_71 (by decide) ?_
  refine zj_iadd (x5 + 1) (by omega) d_So_visit_72 ?_
  refine j_iload d_So_visit_73 1 rfl ?_
  refine zj_iadd ((x5 + 1) + y0) rfl d_So_visit_75 ?_
  refine j_istore (L' := [(9, .int (zI ((x5 + 1) + y0))), (8, .int (zI (z σ 72 ((x5 + 4) - y0).toNat))), (7, .int (zI y0)), (0, .ref 70), (1, .int (zI x1)), (2, .ref 72), (3, .ref 73), (4, .int (zI x4)), (5, .int (zI x5)), (6, .int (zI x6))]) d_So_visit_76 (by decide) rfl ?_
  refine j_aload_n d_So_visit_78 5 rfl ?_
  refine j_iload d_So_visit_79 0 rfl ?_
  obtain ⟨c10, h⟩ := h
  refine zj_iald (z σ 72 ((x5 + 1) + y0).toNat) d_So_visit_81 (tg_72 hE) (q_okE hE (by decide)) c10 (by decide) (q_z _ _ _) ?_
  refine j_istore (L' := [(10, .int (zI (z σ 72 ((x5 + 1) + y0).toNat))), (9, .int (zI ((x5 + 1) + y0))), (8, .int (zI (z σ 72 ((x5 + 4) - y0).toNat))), (7, .int (zI y0)), (0, .ref 70), (1, .int (zI x1)), (2, .ref 72), (3, .ref 73), (4, .int (zI x4)), (5, .int (zI x5)), (6, .int (zI x6))]) d_So_visit_82 (by decide) rfl ?_
  refine j_aload_n d_So_visit_84 4 rfl ?_
  refine j_getR 78 f_So_27 d_So_visit_85 (tg_70 hE) (q_okE hE (by decide)) (rf_70_2 hE) (by decide) ?_
  refine j_iload d_So_visit_88 2 rfl ?_
  obtain ⟨c11, h⟩ := h
  refine zj_iald (z σ 78 (z σ 72 ((x5 + 4) - y0).toNat).toNat) d_So_visit_90 (tg_78 hE) (q_okE hE (by decide)) c11 (by decide) (q_z _ _ _) ?_
  refine j_iconst (v := zI 1) d_So_visit_91 (by decide) ?_
  obtain ⟨h1, h2⟩ := h
  refine zj_icmp_ne 99 d_So_visit_92 (by decide) (z_R _ _ _) ⟨by decide, by decide⟩ (fun k12 => ?_) (fun k12 => ?_)
  · have h := h1 k12
    refine j_aload_n d_So_visit_99 4 rfl ?_
    refine j_iload d_So_visit_100 9 rfl ?_
    refine j_callV m_So_replacement [.int (zI x5)] [] d 0 0 cV_So_142 d_So_visit_102 rfl rfl (tg_70 hE) (q_okE hE (by decide)) (Nat.le_of_ble_eq_true rfl) (Nat.le_refl _) (Nat.le_of_ble_eq_true rfl) (Nat.zero_le _) (Nat.zero_le _) h (fun v τ h => ?_) (fun x τ h => ?_)
    · obtain ⟨v, hv, e1, h⟩ := h; cases e1; exact j_sel [4, 5, 6, 7, 8, 9, 10, 3, 2, 1, 0] rfl h
    · obtain ⟨v, hv, e1, h⟩ := h; cases e1
  · have h := h2 k12
    refine j_iconst (v := zI 0) d_So_visit_95 (by decide) ?_
    refine j_goto 105 d_So_visit_96 (by decide) ?_
    exact j_sel [4, 5, 6, 7, 8, 9, 10, 3, 2, 1, 0] rfl h
set_option maxHeartbeats 2000000 in
theorem b_So_visit_105 {ω : q_W} {σ : q_H} {Q : q_R → q_H → Prop} {d mc ms : Nat} {x1 : Int} {x4 : Int} {x5 : Int} {x6 : Int} {x7 : Int} {x8 : Int} {x9 : Int} {x10 : Int} {y0 : Int}  (hE : q_E σ) (h : inR y0 ∧ q_imp (y0 = 0) ((0 ≤ x8 ∧ x8 < 20480) ∧ q_imp ((z σ 78 x8.toNat) ≠ (-1)) (q_imp ((z σ 78 x8.toNat) ≠ 0) ((J ω m_So_visit (d + 1) mc ms 0 0 27 [(0, .ref 70), (1, .int (zI x1)), (2, .ref 72), (3, .ref 73), (4, .int (zI x9)), (5, .int (zI x10)), (6, .int (zI (x6 + 1)))] [] σ Q)) ∧ q_imp ((z σ 78 x8.toNat) = 0) ((J ω m_So_assign d 0 0 0 0 0 [(0, .ref 70), (1, .int (zI x8)), (2, .int (zI x5))] [] σ (q_kv (fun τ => J ω m_So_visit (d + 1) mc ms 0 0 202 [(0, .ref 70), (1, .int (zI x1)), (2, .ref 72), (3, .ref 73), (6, .int (zI x6)), (9, .int (zI x9)), (10, .int (zI x10))] [] τ Q))))) ∧ q_imp ((z σ 78 x8.toNat) = (-1)) ((Q (.inl (some (.int (zI x5)))) σ))) ∧ q_imp (y0 ≠ 0) ((0 ≤ y0 ∧ y0 < 360000) ∧ (0 ≤ ((x5 + 3) + x7) ∧ ((x5 + 3) + x7) < 360000) ∧ (0 ≤ (z σ 72 y0.toNat) ∧ (z σ 72 y0.toNat) < 20480) ∧ (0 ≤ x9 ∧ x9 < 360000) ∧ inR x4 ∧ q_imp (x4 ≠ 0) ((0 ≤ x4 ∧ x4 < 360000) ∧ (J ω m_So_visit (d + 1) mc ms 0 0 27 [(0, .ref 70), (1, .int (zI x1)), (2, .ref 72), (3, .ref 73), (4, .int (zI x4)), (5, .int (zI x10)), (6, .int (zI (x6 + 1)))] [] (zs (zs (zs (zs (zs σ 72 y0.toNat x1) 72 ((x5 + 3) + x7).toNat (z σ 72 y0.toNat)) 72 x9.toNat (z σ 73 (z σ 72 y0.toNat).toNat)) 73 (z σ 72 y0.toNat).toNat x5) 72 x4.toNat x10) Q)) ∧ q_imp (x4 = 0) ((0 ≤ x1 ∧ x1 < 20480) ∧ (J ω m_So_visit (d + 1) mc ms 0 0 27 [(0, .ref 70), (1, .int (zI x1)), (2, .ref 72), (3, .ref 73), (4, .int (zI x4)), (5, .int (zI x10)), (6, .int (zI (x6 + 1)))] [] (zs (zs (zs (zs (zs σ 72 y0.toNat x1) 72 ((x5 + 3) + x7).toNat (z σ 72 y0.toNat)) 72 x9.toNat (z σ 73 (z σ 72 y0.toNat).toNat)) 73 (z σ 72 y0.toNat).toNat x5) 73 x1.toNat x10) Q)))) : J ω m_So_visit (d + 1) mc ms 0 0 105 [(0, .ref 70), (1, .int (zI x1)), (2, .ref 72), (3, .ref 73), (4, .int (zI x4)), (5, .int (zI x5)), (6, .int (zI x6)), (7, .int (zI x7)), (8, .int (zI x8)), (9, .int (zI x9)), (10, .int (zI x10))] [.int (zI y0)] σ Q := by
  refine j_istore (L' := [(11, .int (zI y0)), (0, .ref 70), (1, .int (zI x1)), (2, .ref 72), (3, .ref 73), (4, .int (zI x4)), (5, .int (zI x5)), (6, .int (zI x6)), (7, .int (zI x7)), (8, .int (zI x8)), (9, .int (zI x9)), (10, .int (zI x10))]) d_So_visit_105 (by decide) rfl ?_
  refine j_iload d_So_visit_107 0 rfl ?_
  obtain ⟨r13, h⟩ := h
  obtain ⟨h1, h2⟩ := h
  refine zj_if_eq 170 d_So_visit_109 (by decide) r13 (fun k14 => ?_) (fun k14 => ?_)
  · have h := h1 k14
    refine j_aload_n d_So_visit_170 1 rfl ?_
    refine j_getR 78 f_So_27 d_So_visit_171 (tg_70 hE) (q_okE hE (by decide)) (rf_70_2 hE) (by decide) ?_
    refine j_iload d_So_visit_174 9 rfl ?_
    obtain ⟨c15, h⟩ := h
    refine zj_iald (z σ 78 x8.toNat) d_So_visit_176 (tg_78 hE) (q_okE hE (by decide)) c15 (by decide) (q_z _ _ _) ?_
    refine j_iconst (v := zI (-1)) d_So_visit_177 (by decide) ?_
    obtain ⟨h1, h2⟩ := h
    refine zj_icmp_ne 184 d_So_visit_178 (by decide) (z_R _ _ _) ⟨by decide, by decide⟩ (fun k16 => ?_) (fun k16 => ?_)
    · have h := h1 k16
      refine j_aload_n d_So_visit_184 1 rfl ?_
      refine j_getR 78 f_So_27 d_So_visit_185 (tg_70 hE) (q_okE hE (by decide)) (rf_70_2 hE) (by decide) ?_
      refine j_iload d_So_visit_188 9 rfl ?_
      refine zj_iald (z σ 78 x8.toNat) d_So_visit_190 (tg_78 hE) (q_okE hE (by decide)) c15 (by decide) (q_z _ _ _) ?_
      obtain ⟨h1, h2⟩ := h
      refine zj_if_ne 202 d_So_visit_191 (by decide) (z_R _ _ _) (fun k17 => ?_) (fun k17 => ?_)
      · have h := h1 k17
        refine j_iload d_So_visit_202 10 rfl ?_
        refine j_istore (L' := [(4, .int (zI x9)), (11, .int (zI y0)), (0, .ref 70), (1, .int (zI x1)), (2, .ref 72), (3, .ref 73), (5, .int (zI x5)), (6, .int (zI x6)), (7, .int (zI x7)), (8, .int (zI x8)), (9, .int (zI x9)), (10, .int (zI x10))]) d_So_visit_204 (by decide) rfl ?_
        refine j_iload d_So_visit_206 11 rfl ?_
        refine j_istore (L' := [(5, .int (zI x10)), (4, .int (zI x9)), (11, .int (zI y0)), (0, .ref 70), (1, .int (zI x1)), (2, .ref 72), (3, .ref 73), (6, .int (zI x6)), (7, .int (zI x7)), (8, .int (zI x8)), (9, .int (zI x9)), (10, .int (zI x10))]) d_So_visit_208 (by decide) rfl ?_
        refine zj_iinc (L' := [(6, .int (zI (x6 + 1))), (5, .int (zI x10)), (4, .int (zI x9)), (11, .int (zI y0)), (0, .ref 70), (1, .int (zI x1)), (2, .ref 72), (3, .ref 73), (7, .int (zI x7)), (8, .int (zI x8)), (9, .int (zI x9)), (10, .int (zI x10))]) (x6 + 1) d_So_visit_210 7 rfl (by omega) (by decide) rfl ?_
        refine j_goto 27 d_So_visit_213 (by decide) ?_
        exact j_sel [4, 5, 6, 7, 2, 1, 0] rfl h
      · have h := h2 k17
        refine j_aload_n d_So_visit_194 1 rfl ?_
        refine j_iload d_So_visit_195 9 rfl ?_
        refine j_iload d_So_visit_197 6 rfl ?_
        refine j_callV m_So_assign [.int (zI x8), .int (zI x5)] [] d 0 0 cV_So_96 d_So_visit_199 rfl rfl (tg_70 hE) (q_okE hE (by decide)) (Nat.le_of_ble_eq_true rfl) (Nat.le_refl _) (Nat.le_of_ble_eq_true rfl) (Nat.zero_le _) (Nat.zero_le _) h (fun v τ h => ?_) (fun x τ h => ?_)
        · obtain ⟨e1, h⟩ := h; cases e1; exact j_sel [1, 2, 3, 4, 7, 10, 11] rfl h
        · obtain ⟨e1, h⟩ := h; cases e1
    · have h := h2 k16
      refine j_iload d_So_visit_181 6 rfl ?_
      exact zj_iret d_So_visit_183 rfl (Nat.zero_le _) (Nat.zero_le _) h
  · have h := h2 k14
    refine j_aload_n d_So_visit_112 3 rfl ?_
    refine j_iload d_So_visit_113 0 rfl ?_
    obtain ⟨c18, h⟩ := h
    refine zj_iald (z σ 72 y0.toNat) d_So_visit_115 (tg_72 hE) (q_okE hE (by decide)) c18 (by decide) (q_z _ _ _) ?_
    refine j_istore (L' := [(12, .int (zI (z σ 72 y0.toNat))), (11, .int (zI y0)), (0, .ref 70), (1, .int (zI x1)), (2, .ref 72), (3, .ref 73), (4, .int (zI x4)), (5, .int (zI x5)), (6, .int (zI x6)), (7, .int (zI x7)), (8, .int (zI x8)), (9, .int (zI x9)), (10, .int (zI x10))]) d_So_visit_116 (by decide) rfl ?_
    refine j_aload_n d_So_visit_118 4 rfl ?_
    refine j_iload d_So_visit_119 1 rfl ?_
    refine j_iload_n d_So_visit_121 3 rfl ?_
    refine zj_iast d_So_visit_122 (tg_72 hE) (q_okE hE (by decide)) c18 (by decide) ?_
    refine j_aload_n d_So_visit_123 4 rfl ?_
    refine j_iload d_So_visit_124 7 rfl ?_
    refine j_iconst (v := zI 3) d_So_visit_126 (by decide) ?_
    refine zj_iadd (x5 + 3) (by omega) d_So_visit_127 ?_
    refine j_iload d_So_visit_128 9 rfl ?_
    refine zj_iadd ((x5 + 3) + x7) rfl d_So_visit_130 ?_
    refine j_iload d_So_visit_131 0 rfl ?_
    obtain ⟨c19, h⟩ := h
    refine zj_iast d_So_visit_133 (tg_72 (zs_E hE)) (q_okE (zs_E hE) (by decide)) c19 (by decide) ?_
    refine j_aload_n d_So_visit_134 4 rfl ?_
    refine j_iload d_So_visit_135 11 rfl ?_
    refine j_aload_n d_So_visit_137 5 rfl ?_
    refine j_iload d_So_visit_138 0 rfl ?_
    obtain ⟨c20, h⟩ := h
    refine zj_iald (z σ 73 (z σ 72 y0.toNat).toNat) d_So_visit_140 (tg_73 (zs_E (zs_E hE))) (q_okE (zs_E (zs_E hE)) (by decide)) c20 (by decide) (Eq.trans (qs_o (by decide)) (Eq.trans (qs_o (by decide)) (q_z _ _ _))) ?_
    obtain ⟨c21, h⟩ := h
    refine zj_iast d_So_visit_141 (tg_72 (zs_E (zs_E hE))) (q_okE (zs_E (zs_E hE)) (by decide)) c21 (by decide) ?_
    refine j_aload_n d_So_visit_142 5 rfl ?_
    refine j_iload d_So_visit_143 0 rfl ?_
    refine j_iload d_So_visit_145 7 rfl ?_
    refine zj_iast d_So_visit_147 (tg_73 (zs_E (zs_E (zs_E hE)))) (q_okE (zs_E (zs_E (zs_E hE))) (by decide)) c20 (by decide) ?_
    refine j_iload d_So_visit_148 6 rfl ?_
    obtain ⟨r22, h⟩ := h
    obtain ⟨h1, h2⟩ := h
    refine zj_if_ne 161 d_So_visit_150 (by decide) r22 (fun k23 => ?_) (fun k23 => ?_)
    · have h := h1 k23
      refine j_aload_n d_So_visit_161 4 rfl ?_
      refine j_iload d_So_visit_162 6 rfl ?_
      refine j_iload d_So_visit_164 12 rfl ?_
      obtain ⟨c24, h⟩ := h
      refine zj_iast d_So_visit_166 (tg_72 (zs_E (zs_E (zs_E (zs_E hE))))) (q_okE (zs_E (zs_E (zs_E (zs_E hE)))) (by decide)) c24 (by decide) ?_
      refine j_goto 206 d_So_visit_167 (by decide) ?_
      refine j_iload d_So_visit_206 12 rfl ?_
      refine j_istore (L' := [(5, .int (zI x10)), (12, .int (zI (z σ 72 y0.toNat))), (11, .int (zI y0)), (0, .ref 70), (1, .int (zI x1)), (2, .ref 72), (3, .ref 73), (4, .int (zI x4)), (6, .int (zI x6)), (7, .int (zI x7)), (8, .int (zI x8)), (9, .int (zI x9)), (10, .int (zI x10))]) d_So_visit_208 (by decide) rfl ?_
      refine zj_iinc (L' := [(6, .int (zI (x6 + 1))), (5, .int (zI x10)), (12, .int (zI (z σ 72 y0.toNat))), (11, .int (zI y0)), (0, .ref 70), (1, .int (zI x1)), (2, .ref 72), (3, .ref 73), (4, .int (zI x4)), (7, .int (zI x7)), (8, .int (zI x8)), (9, .int (zI x9)), (10, .int (zI x10))]) (x6 + 1) d_So_visit_210 8 rfl (by omega) (by decide) rfl ?_
      refine j_goto 27 d_So_visit_213 (by decide) ?_
      exact j_sel [4, 5, 6, 7, 8, 1, 0] rfl h
    · have h := h2 k23
      refine j_aload_n d_So_visit_153 5 rfl ?_
      refine j_iload_n d_So_visit_154 3 rfl ?_
      refine j_iload d_So_visit_155 12 rfl ?_
      obtain ⟨c25, h⟩ := h
      refine zj_iast d_So_visit_157 (tg_73 (zs_E (zs_E (zs_E (zs_E hE))))) (q_okE (zs_E (zs_E (zs_E (zs_E hE)))) (by decide)) c25 (by decide) ?_
      refine j_goto 167 d_So_visit_158 (by decide) ?_
      refine j_goto 206 d_So_visit_167 (by decide) ?_
      refine j_iload d_So_visit_206 12 rfl ?_
      refine j_istore (L' := [(5, .int (zI x10)), (12, .int (zI (z σ 72 y0.toNat))), (11, .int (zI y0)), (0, .ref 70), (1, .int (zI x1)), (2, .ref 72), (3, .ref 73), (4, .int (zI x4)), (6, .int (zI x6)), (7, .int (zI x7)), (8, .int (zI x8)), (9, .int (zI x9)), (10, .int (zI x10))]) d_So_visit_208 (by decide) rfl ?_
      refine zj_iinc (L' := [(6, .int (zI (x6 + 1))), (5, .int (zI x10)), (12, .int (zI (z σ 72 y0.toNat))), (11, .int (zI y0)), (0, .ref 70), (1, .int (zI x1)), (2, .ref 72), (3, .ref 73), (4, .int (zI x4)), (7, .int (zI x7)), (8, .int (zI x8)), (9, .int (zI x9)), (10, .int (zI x10))]) (x6 + 1) d_So_visit_210 8 rfl (by omega) (by decide) rfl ?_
      refine j_goto 27 d_So_visit_213 (by decide) ?_
      exact j_sel [4, 5, 6, 7, 8, 1, 0] rfl h
set_option maxHeartbeats 2000000 in
theorem b_So_visit_202 {ω : q_W} {σ : q_H} {Q : q_R → q_H → Prop} {d mc ms : Nat} {x1 : Int} {x6 : Int} {x9 : Int} {x10 : Int}  (hE : q_E σ) (h : (J ω m_So_visit (d + 1) mc ms 0 0 27 [(0, .ref 70), (1, .int (zI x1)), (2, .ref 72), (3, .ref 73), (4, .int (zI x9)), (5, .int (zI x10)), (6, .int (zI (x6 + 1)))] [] σ Q)) : J ω m_So_visit (d + 1) mc ms 0 0 202 [(0, .ref 70), (1, .int (zI x1)), (2, .ref 72), (3, .ref 73), (6, .int (zI x6)), (9, .int (zI x9)), (10, .int (zI x10))] [] σ Q := by
  refine j_iload d_So_visit_202 5 rfl ?_
  refine j_istore (L' := [(4, .int (zI x9)), (0, .ref 70), (1, .int (zI x1)), (2, .ref 72), (3, .ref 73), (6, .int (zI x6)), (9, .int (zI x9)), (10, .int (zI x10))]) d_So_visit_204 (by decide) rfl ?_
  refine j_iload d_So_visit_206 7 rfl ?_
  refine j_istore (L' := [(5, .int (zI x10)), (4, .int (zI x9)), (0, .ref 70), (1, .int (zI x1)), (2, .ref 72), (3, .ref 73), (6, .int (zI x6)), (9, .int (zI x9)), (10, .int (zI x10))]) d_So_visit_208 (by decide) rfl ?_
  refine zj_iinc (L' := [(6, .int (zI (x6 + 1))), (5, .int (zI x10)), (4, .int (zI x9)), (0, .ref 70), (1, .int (zI x1)), (2, .ref 72), (3, .ref 73), (9, .int (zI x9)), (10, .int (zI x10))]) (x6 + 1) d_So_visit_210 6 rfl (by omega) (by decide) rfl ?_
  refine j_goto 27 d_So_visit_213 (by decide) ?_
  exact j_sel [3, 4, 5, 6, 2, 1, 0] rfl h
set_option maxHeartbeats 2000000 in
theorem b_So_replacement_0 {ω : q_W} {σ : q_H} {Q : q_R → q_H → Prop} {d mc ms : Nat} {x1 : Int}  (hE : q_E σ) (h : (0 ≤ x1 ∧ x1 < 360000) ∧ (J ω m_So_replacement d mc ms 0 0 20 [(0, .ref 70), (2, .int (zI ((x1 + 3) + (z σ 72 x1.toNat)))), (3, .int (zI (x1 + 5)))] [] σ Q)) : J ω m_So_replacement d mc ms 0 0 0 [(0, .ref 70), (1, .int (zI x1))] [] σ Q := by
  refine j_iload_n d_So_replacement_0 1 rfl ?_
  refine j_iconst (v := zI 3) d_So_replacement_1 (by decide) ?_
  refine zj_iadd (x1 + 3) (by omega) d_So_replacement_2 ?_
  refine j_aload_n d_So_replacement_3 0 rfl ?_
  refine j_getR 71 f_So_12 d_So_replacement_4 (tg_70 hE) (q_okE hE (by decide)) (rf_70_0 hE) (by decide) ?_
  refine j_getR 72 f_So_136 d_So_replacement_7 (tg_71 hE) (q_okE hE (by decide)) (rf_71_0 hE) (by decide) ?_
  refine j_iload_n d_So_replacement_10 1 rfl ?_
  obtain ⟨c1, h⟩ := h
  refine zj_iald (z σ 72 x1.toNat) d_So_replacement_11 (tg_72 hE) (q_okE hE (by decide)) c1 (by decide) (q_z _ _ _) ?_
  refine zj_iadd ((x1 + 3) + (z σ 72 x1.toNat)) rfl d_So_replacement_12 ?_
  refine j_istore_n (L' := [(2, .int (zI ((x1 + 3) + (z σ 72 x1.toNat)))), (0, .ref 70), (1, .int (zI x1))]) d_So_replacement_13 (by decide) rfl ?_
  refine j_iload_n d_So_replacement_14 2 rfl ?_
  refine j_iconst (v := zI 3) d_So_replacement_15 (by decide) ?_
  refine zj_iadd (x1 + 3) (by omega) d_So_replacement_16 ?_
  refine j_iconst (v := zI 2) d_So_replacement_17 (by decide) ?_
  refine zj_iadd (x1 + 5) (by omega) d_So_replacement_18 ?_
  refine j_istore_n (L' := [(3, .int (zI (x1 + 5))), (2, .int (zI ((x1 + 3) + (z σ 72 x1.toNat)))), (0, .ref 70), (1, .int (zI x1))]) d_So_replacement_19 (by decide) rfl ?_
  exact j_sel [2, 1, 0] rfl h
set_option maxHeartbeats 2000000 in
theorem b_So_replacement_20 {ω : q_W} {σ : q_H} {Q : q_R → q_H → Prop} {d mc ms : Nat} {x2 : Int} {x3 : Int}  (hE : q_E σ) (h : inR x3 ∧ inR x2 ∧ q_imp (x3 ≥ x2) ((Q (.inl (some (.int (zI 0)))) σ)) ∧ q_imp (x3 < x2) ((0 ≤ x3 ∧ x3 < 360000) ∧ (0 ≤ (z σ 72 x3.toNat) ∧ (z σ 72 x3.toNat) < 20480) ∧ q_imp ((z σ 78 (z σ 72 x3.toNat).toNat) = (-1)) ((J ω m_So_replacement d mc ms 0 0 20 [(0, .ref 70), (2, .int (zI x2)), (3, .int (zI (x3 + 1)))] [] σ Q)) ∧ q_imp ((z σ 78 (z σ 72 x3.toNat).toNat) ≠ (-1)) ((Q (.inl (some (.int (zI x3)))) σ)))) : J ω m_So_replacement d mc ms 0 0 20 [(0, .ref 70), (2, .int (zI x2)), (3, .int (zI x3))] [] σ Q := by
  refine j_iload_n d_So_replacement_20 2 rfl ?_
  refine j_iload_n d_So_replacement_21 1 rfl ?_
  obtain ⟨r2, h⟩ := h
  obtain ⟨r3, h⟩ := h
  obtain ⟨h1, h2⟩ := h
  refine zj_icmp_ge 51 d_So_replacement_22 (by decide) r2 r3 (fun k4 => ?_) (fun k4 => ?_)
  · have h := h1 k4
    refine j_iconst (v := zI 0) d_So_replacement_51 (by decide) ?_
    exact zj_iret d_So_replacement_52 rfl (Nat.zero_le _) (Nat.zero_le _) h
  · have h := h2 k4
    refine j_aload_n d_So_replacement_25 0 rfl ?_
    refine j_getR 78 f_So_27 d_So_replacement_26 (tg_70 hE) (q_okE hE (by decide)) (rf_70_2 hE) (by decide) ?_
    refine j_aload_n d_So_replacement_29 0 rfl ?_
    refine j_getR 71 f_So_12 d_So_replacement_30 (tg_70 hE) (q_okE hE (by decide)) (rf_70_0 hE) (by decide) ?_
    refine j_getR 72 f_So_136 d_So_replacement_33 (tg_71 hE) (q_okE hE (by decide)) (rf_71_0 hE) (by decide) ?_
    refine j_iload_n d_So_replacement_36 2 rfl ?_
    obtain ⟨c5, h⟩ := h
    refine zj_iald (z σ 72 x3.toNat) d_So_replacement_37 (tg_72 hE) (q_okE hE (by decide)) c5 (by decide) (q_z _ _ _) ?_
    obtain ⟨c6, h⟩ := h
    refine zj_iald (z σ 78 (z σ 72 x3.toNat).toNat) d_So_replacement_38 (tg_78 hE) (q_okE hE (by decide)) c6 (by decide) (q_z _ _ _) ?_
    refine j_iconst (v := zI (-1)) d_So_replacement_39 (by decide) ?_
    obtain ⟨h1, h2⟩ := h
    refine zj_icmp_eq 45 d_So_replacement_40 (by decide) (z_R _ _ _) ⟨by decide, by decide⟩ (fun k7 => ?_) (fun k7 => ?_)
    · have h := h1 k7
      refine zj_iinc (L' := [(3, .int (zI (x3 + 1))), (0, .ref 70), (2, .int (zI x2))]) (x3 + 1) d_So_replacement_45 2 rfl (by omega) (by decide) rfl ?_
      refine j_goto 20 d_So_replacement_48 (by decide) ?_
      exact j_sel [1, 2, 0] rfl h
    · have h := h2 k7
      refine j_iload_n d_So_replacement_43 2 rfl ?_
      exact zj_iret d_So_replacement_44 rfl (Nat.zero_le _) (Nat.zero_le _) h
set_option maxHeartbeats 2000000 in
theorem b_So_noteFacts_0 {ω : q_W} {σ : q_H} {Q : q_R → q_H → Prop} {d mc ms : Nat}   (hE : q_E σ) (h : q_imp ((z σ 70 8) ≥ (z σ 70 6)) ((Q (.inl none) σ)) ∧ q_imp ((z σ 70 8) < (z σ 70 6)) ((0 ≤ (z σ 70 8) ∧ (z σ 70 8) < 10240) ∧ (0 ≤ (zShr (z σ 81 (z σ 70 8).toNat) 1) ∧ (zShr (z σ 81 (z σ 70 8).toNat) 1) < 10240) ∧ (J ω m_Ch_knows d 0 0 0 0 0 [(0, .ref 75), (1, .int (zI (z σ 81 (z σ 70 8).toNat)))] [] (zs (zs σ 85 0 (z σ 81 (z σ 70 8).toNat)) 86 0 (z σ 80 (zShr (z σ 81 (z σ 70 8).toNat) 1).toNat)) (q_ki (fun v τ => J ω m_So_noteFacts (d + 1) mc ms 0 0 61 [(0, .ref 70)] [.int (zI v)] τ Q))))) : J ω m_So_noteFacts (d + 1) mc ms 0 0 0 [(0, .ref 70)] [] σ Q := by
  refine j_aload_n d_So_noteFacts_0 0 rfl ?_
  refine zj_getI (z σ 70 8) f_So_84 d_So_noteFacts_1 (tg_70 hE) (q_okE hE (by decide)) (q_z _ _ _) ?_
  refine j_aload_n d_So_noteFacts_4 0 rfl ?_
  refine zj_getI (z σ 70 6) f_So_78 d_So_noteFacts_5 (tg_70 hE) (q_okE hE (by decide)) (q_z _ _ _) ?_
  obtain ⟨h1, h2⟩ := h
  refine zj_icmp_ge 101 d_So_noteFacts_8 (by decide) (z_R _ _ _) (z_R _ _ _) (fun k1 => ?_) (fun k1 => ?_)
  · have h := h1 k1
    exact j_vret d_So_noteFacts_101 rfl (Nat.zero_le _) (Nat.zero_le _) h
  · have h := h2 k1
    refine j_aload_n d_So_noteFacts_11 0 rfl ?_
    refine j_getR 85 f_So_49 d_So_noteFacts_12 (tg_70 hE) (q_okE hE (by decide)) (rf_70_15 hE) (by decide) ?_
    refine j_iconst (v := zI 0) d_So_noteFacts_15 (by decide) ?_
    refine j_aload_n d_So_noteFacts_16 0 rfl ?_
    refine j_getR 81 f_So_37 d_So_noteFacts_17 (tg_70 hE) (q_okE hE (by decide)) (rf_70_5 hE) (by decide) ?_
    refine j_aload_n d_So_noteFacts_20 0 rfl ?_
    refine zj_getI (z σ 70 8) f_So_84 d_So_noteFacts_21 (tg_70 hE) (q_okE hE (by decide)) (q_z _ _ _) ?_
    obtain ⟨c2, h⟩ := h
    refine zj_iald (z σ 81 (z σ 70 8).toNat) d_So_noteFacts_24 (tg_81 hE) (q_okE hE (by decide)) c2 (by decide) (q_z _ _ _) ?_
    refine zj_iast d_So_noteFacts_25 (tg_85 hE) (q_okE hE (by decide)) ⟨by decide, by decide⟩ (by decide) ?_
    refine j_aload_n d_So_noteFacts_26 0 rfl ?_
    refine j_getR 86 f_So_52 d_So_noteFacts_27 (tg_70 (zs_E hE)) (q_okE (zs_E hE) (by decide)) (rf_70_17 (zs_E hE)) (by decide) ?_
    refine j_iconst (v := zI 0) d_So_noteFacts_30 (by decide) ?_
    refine j_aload_n d_So_noteFacts_31 0 rfl ?_
    refine j_getR 80 f_So_34 d_So_noteFacts_32 (tg_70 (zs_E hE)) (q_okE (zs_E hE) (by decide)) (rf_70_4 (zs_E hE)) (by decide) ?_
    refine j_aload_n d_So_noteFacts_35 0 rfl ?_
    refine j_getR 81 f_So_37 d_So_noteFacts_36 (tg_70 (zs_E hE)) (q_okE (zs_E hE) (by decide)) (rf_70_5 (zs_E hE)) (by decide) ?_
    refine j_aload_n d_So_noteFacts_39 0 rfl ?_
    refine zj_getI (z σ 70 8) f_So_84 d_So_noteFacts_40 (tg_70 (zs_E hE)) (q_okE (zs_E hE) (by decide)) (Eq.trans (qs_o (by decide)) (q_z _ _ _)) ?_
    refine zj_iald (z σ 81 (z σ 70 8).toNat) d_So_noteFacts_43 (tg_81 (zs_E hE)) (q_okE (zs_E hE) (by decide)) c2 (by decide) (Eq.trans (qs_o (by decide)) (q_z _ _ _)) ?_
    refine j_iconst (v := zI 1) d_So_noteFacts_44 (by decide) ?_
    refine zj_ishr d_So_noteFacts_45 ?_
    obtain ⟨c3, h⟩ := h
    refine zj_iald (z σ 80 (zShr (z σ 81 (z σ 70 8).toNat) 1).toNat) d_So_noteFacts_46 (tg_80 (zs_E hE)) (q_okE (zs_E hE) (by decide)) c3 (by decide) (Eq.trans (qs_o (by decide)) (q_z _ _ _)) ?_
    refine zj_iast d_So_noteFacts_47 (tg_86 (zs_E hE)) (q_okE (zs_E hE) (by decide)) ⟨by decide, by decide⟩ (by decide) ?_
    refine j_aload_n d_So_noteFacts_48 0 rfl ?_
    refine j_getR 75 f_So_21 d_So_noteFacts_49 (tg_70 (zs_E (zs_E hE))) (q_okE (zs_E (zs_E hE)) (by decide)) (rf_70_1 (zs_E (zs_E hE))) (by decide) ?_
    refine j_aload_n d_So_noteFacts_52 0 rfl ?_
    refine j_getR 85 f_So_49 d_So_noteFacts_53 (tg_70 (zs_E (zs_E hE))) (q_okE (zs_E (zs_E hE)) (by decide)) (rf_70_15 (zs_E (zs_E hE))) (by decide) ?_
    refine j_iconst (v := zI 0) d_So_noteFacts_56 (by decide) ?_
    refine zj_iald (z σ 81 (z σ 70 8).toNat) d_So_noteFacts_57 (tg_85 (zs_E (zs_E hE))) (q_okE (zs_E (zs_E hE)) (by decide)) ⟨by decide, by decide⟩ (by decide) (Eq.trans (qs_o (by decide)) (qs_s)) ?_
    refine j_callV m_Ch_knows [.int (zI (z σ 81 (z σ 70 8).toNat))] [] d 0 0 cV_So_145 d_So_noteFacts_58 rfl rfl (tg_75 (zs_E (zs_E hE))) (q_okE (zs_E (zs_E hE)) (by decide)) (Nat.le_of_ble_eq_true rfl) (Nat.le_refl _) (Nat.le_of_ble_eq_true rfl) (Nat.zero_le _) (Nat.zero_le _) h (fun v τ h => ?_) (fun x τ h => ?_)
    · obtain ⟨v, hv, e1, h⟩ := h; cases e1; exact j_sel [0] rfl h
    · obtain ⟨v, hv, e1, h⟩ := h; cases e1
set_option maxHeartbeats 2000000 in
theorem b_So_noteFacts_61 {ω : q_W} {σ : q_H} {Q : q_R → q_H → Prop} {d mc ms : Nat} {y0 : Int}  (hE : q_E σ) (h : inR y0 ∧ q_imp (y0 ≠ 0) ((J ω m_So_noteFacts (d + 1) mc ms 0 0 0 [(0, .ref 70)] [] (zs σ 70 8 ((z σ 70 8) + 1)) Q)) ∧ q_imp (y0 = 0) ((J ω m_Ch_check d 0 0 0 0 0 [(0, .ref 75), (1, .ref 72), (2, .ref 85), (3, .int (zI 1)), (4, .ref 86), (5, .int (zI 1))] [] σ (q_kv (fun τ => J ω m_So_noteFacts (d + 1) mc ms 0 0 88 [(0, .ref 70)] [] τ Q))))) : J ω m_So_noteFacts (d + 1) mc ms 0 0 61 [(0, .ref 70)] [.int (zI y0)] σ Q := by
  obtain ⟨r4, h⟩ := h
  obtain ⟨h1, h2⟩ := h
  refine zj_if_ne 88 d_So_noteFacts_61 (by decide) r4 (fun k5 => ?_) (fun k5 => ?_)
  · have h := h1 k5
    refine j_aload_n d_So_noteFacts_88 0 rfl ?_
    refine j_dup d_So_noteFacts_89 rfl ?_
    refine zj_getI (z σ 70 8) f_So_84 d_So_noteFacts_90 (tg_70 hE) (q_okE hE (by decide)) (q_z _ _ _) ?_
    refine j_iconst (v := zI 1) d_So_noteFacts_93 (by decide) ?_
    refine zj_iadd ((z σ 70 8) + 1) (by omega) d_So_noteFacts_94 ?_
    refine zj_putI (g_So_84 _) d_So_noteFacts_95 (tg_70 hE) (q_okE hE (by decide)) ?_
    refine j_goto 0 d_So_noteFacts_98 (by decide) ?_
    exact j_sel [0] rfl h
  · have h := h2 k5
    refine j_aload_n d_So_noteFacts_64 0 rfl ?_
    refine j_getR 75 f_So_21 d_So_noteFacts_65 (tg_70 hE) (q_okE hE (by decide)) (rf_70_1 hE) (by decide) ?_
    refine j_aload_n d_So_noteFacts_68 0 rfl ?_
    refine j_getR 71 f_So_12 d_So_noteFacts_69 (tg_70 hE) (q_okE hE (by decide)) (rf_70_0 hE) (by decide) ?_
    refine j_getR 72 f_So_136 d_So_noteFacts_72 (tg_71 hE) (q_okE hE (by decide)) (rf_71_0 hE) (by decide) ?_
    refine j_aload_n d_So_noteFacts_75 0 rfl ?_
    refine j_getR 85 f_So_49 d_So_noteFacts_76 (tg_70 hE) (q_okE hE (by decide)) (rf_70_15 hE) (by decide) ?_
    refine j_iconst (v := zI 1) d_So_noteFacts_79 (by decide) ?_
    refine j_aload_n d_So_noteFacts_80 0 rfl ?_
    refine j_getR 86 f_So_52 d_So_noteFacts_81 (tg_70 hE) (q_okE hE (by decide)) (rf_70_17 hE) (by decide) ?_
    refine j_iconst (v := zI 1) d_So_noteFacts_84 (by decide) ?_
    refine j_callV m_Ch_check [.ref 72, .ref 85, .int (zI 1), .ref 86, .int (zI 1)] [] d 0 0 cV_So_148 d_So_noteFacts_85 rfl rfl (tg_75 hE) (q_okE hE (by decide)) (Nat.le_of_ble_eq_true rfl) (Nat.le_refl _) (Nat.le_of_ble_eq_true rfl) (Nat.zero_le _) (Nat.zero_le _) h (fun v τ h => ?_) (fun x τ h => ?_)
    · obtain ⟨e1, h⟩ := h; cases e1; exact j_sel [0] rfl h
    · obtain ⟨e1, h⟩ := h; cases e1
set_option maxHeartbeats 2000000 in
theorem b_So_noteFacts_88 {ω : q_W} {σ : q_H} {Q : q_R → q_H → Prop} {d mc ms : Nat}   (hE : q_E σ) (h : (J ω m_So_noteFacts (d + 1) mc ms 0 0 0 [(0, .ref 70)] [] (zs σ 70 8 ((z σ 70 8) + 1)) Q)) : J ω m_So_noteFacts (d + 1) mc ms 0 0 88 [(0, .ref 70)] [] σ Q := by
  refine j_aload_n d_So_noteFacts_88 0 rfl ?_
  refine j_dup d_So_noteFacts_89 rfl ?_
  refine zj_getI (z σ 70 8) f_So_84 d_So_noteFacts_90 (tg_70 hE) (q_okE hE (by decide)) (q_z _ _ _) ?_
  refine j_iconst (v := zI 1) d_So_noteFacts_93 (by decide) ?_
  refine zj_iadd ((z σ 70 8) + 1) (by omega) d_So_noteFacts_94 ?_
  refine zj_putI (g_So_84 _) d_So_noteFacts_95 (tg_70 hE) (q_okE hE (by decide)) ?_
  refine j_goto 0 d_So_noteFacts_98 (by decide) ?_
  exact j_sel [0] rfl h
set_option maxHeartbeats 2000000 in
theorem b_So_learn_0 {ω : q_W} {σ : q_H} {Q : q_R → q_H → Prop} {d mc ms : Nat} {x1 : Int}  (hE : q_E σ) (h : (J ω m_So_gather d 0 0 0 0 0 [(0, .ref 70), (1, .int (zI x1))] [] (zs (zs σ 70 16 0) 70 18 0) (q_ki (fun v τ => J ω m_So_learn (d + 1) mc ms 0 0 15 [(0, .ref 70)] [.int (zI v)] τ Q)))) : J ω m_So_learn (d + 1) mc ms 0 0 0 [(0, .ref 70), (1, .int (zI x1))] [] σ Q := by
  refine j_aload_n d_So_learn_0 0 rfl ?_
  refine j_iconst (v := zI 0) d_So_learn_1 (by decide) ?_
  refine zj_putI (g_So_152 _) d_So_learn_2 (tg_70 hE) (q_okE hE (by decide)) ?_
  refine j_aload_n d_So_learn_5 0 rfl ?_
  refine j_iconst (v := zI 0) d_So_learn_6 (by decide) ?_
  refine zj_putI (g_So_155 _) d_So_learn_7 (tg_70 (zs_E hE)) (q_okE (zs_E hE) (by decide)) ?_
  refine j_aload_n d_So_learn_10 0 rfl ?_
  refine j_iload_n d_So_learn_11 1 rfl ?_
  refine j_callV m_So_gather [.int (zI x1)] [] d 0 0 cV_So_158 d_So_learn_12 rfl rfl (tg_70 (zs_E (zs_E hE))) (q_okE (zs_E (zs_E hE)) (by decide)) (Nat.le_of_ble_eq_true rfl) (Nat.le_refl _) (Nat.le_of_ble_eq_true rfl) (Nat.zero_le _) (Nat.zero_le _) h (fun v τ h => ?_) (fun x τ h => ?_)
  · obtain ⟨v, hv, e1, h⟩ := h; cases e1; exact j_sel [0] rfl h
  · obtain ⟨v, hv, e1, h⟩ := h; cases e1
set_option maxHeartbeats 2000000 in
theorem b_So_learn_15 {ω : q_W} {σ : q_H} {Q : q_R → q_H → Prop} {d mc ms : Nat} {y0 : Int}  (hE : q_E σ) (h : q_imp ((z σ 70 10) ≤ 0) ((J ω m_So_learn (d + 1) mc ms 0 0 35 [(0, .ref 70)] [] σ Q)) ∧ q_imp (0 < (z σ 70 10)) ((J ω m_Cl_hasNearRoom d 0 0 0 0 0 [(0, .ref 71)] [] σ (q_ki (fun v τ => J ω m_So_learn (d + 1) mc ms 0 0 31 [(0, .ref 70), (2, .int (zI y0))] [.int (zI v), .ref 70] τ Q))))) : J ω m_So_learn (d + 1) mc ms 0 0 15 [(0, .ref 70)] [.int (zI y0)] σ Q := by
  refine j_istore_n (L' := [(2, .int (zI y0)), (0, .ref 70)]) d_So_learn_15 (by decide) rfl ?_
  refine j_aload_n d_So_learn_16 1 rfl ?_
  refine zj_getI (z σ 70 10) f_So_87 d_So_learn_17 (tg_70 hE) (q_okE hE (by decide)) (q_z _ _ _) ?_
  obtain ⟨h1, h2⟩ := h
  refine zj_if_le 35 d_So_learn_20 (by decide) (z_R _ _ _) (fun k1 => ?_) (fun k1 => ?_)
  · have h := h1 k1
    exact j_sel [1] rfl h
  · have h := h2 k1
    refine j_aload_n d_So_learn_23 1 rfl ?_
    refine j_aload_n d_So_learn_24 1 rfl ?_
    refine j_getR 71 f_So_12 d_So_learn_25 (tg_70 hE) (q_okE hE (by decide)) (rf_70_0 hE) (by decide) ?_
    refine j_callV m_Cl_hasNearRoom [] [.ref 70] d 0 0 cV_So_161 d_So_learn_28 rfl rfl (tg_71 hE) (q_okE hE (by decide)) (Nat.le_of_ble_eq_true rfl) (Nat.le_refl _) (Nat.le_of_ble_eq_true rfl) (Nat.zero_le _) (Nat.zero_le _) h (fun v τ h => ?_) (fun x τ h => ?_)
    · obtain ⟨v, hv, e1, h⟩ := h; cases e1; exact j_sel [1, 0] rfl h
    · obtain ⟨v, hv, e1, h⟩ := h; cases e1
set_option maxHeartbeats 2000000 in
theorem b_So_learn_35 {ω : q_W} {σ : q_H} {Q : q_R → q_H → Prop} {d mc ms : Nat}   (hE : q_E σ) (h : (J ω m_Ch_check d 0 0 0 0 0 [(0, .ref 75), (1, .ref 72), (2, .ref 85), (3, .int (zI (z σ 70 16))), (4, .ref 86), (5, .int (zI (z σ 70 18)))] [] σ (q_kv (fun τ => J ω m_So_learn (d + 1) mc ms 0 0 65 [(0, .ref 70)] [] τ Q)))) : J ω m_So_learn (d + 1) mc ms 0 0 35 [(0, .ref 70)] [] σ Q := by
  refine j_aload_n d_So_learn_35 0 rfl ?_
  refine j_getR 75 f_So_21 d_So_learn_36 (tg_70 hE) (q_okE hE (by decide)) (rf_70_1 hE) (by decide) ?_
  refine j_aload_n d_So_learn_39 0 rfl ?_
  refine j_getR 71 f_So_12 d_So_learn_40 (tg_70 hE) (q_okE hE (by decide)) (rf_70_0 hE) (by decide) ?_
  refine j_getR 72 f_So_136 d_So_learn_43 (tg_71 hE) (q_okE hE (by decide)) (rf_71_0 hE) (by decide) ?_
  refine j_aload_n d_So_learn_46 0 rfl ?_
  refine j_getR 85 f_So_49 d_So_learn_47 (tg_70 hE) (q_okE hE (by decide)) (rf_70_15 hE) (by decide) ?_
  refine j_aload_n d_So_learn_50 0 rfl ?_
  refine zj_getI (z σ 70 16) f_So_152 d_So_learn_51 (tg_70 hE) (q_okE hE (by decide)) (q_z _ _ _) ?_
  refine j_aload_n d_So_learn_54 0 rfl ?_
  refine j_getR 86 f_So_52 d_So_learn_55 (tg_70 hE) (q_okE hE (by decide)) (rf_70_17 hE) (by decide) ?_
  refine j_aload_n d_So_learn_58 0 rfl ?_
  refine zj_getI (z σ 70 18) f_So_155 d_So_learn_59 (tg_70 hE) (q_okE hE (by decide)) (q_z _ _ _) ?_
  refine j_callV m_Ch_check [.ref 72, .ref 85, .int (zI (z σ 70 16)), .ref 86, .int (zI (z σ 70 18))] [] d 0 0 cV_So_148 d_So_learn_62 rfl rfl (tg_75 hE) (q_okE hE (by decide)) (Nat.le_of_ble_eq_true rfl) (Nat.le_refl _) (Nat.le_of_ble_eq_true rfl) (Nat.zero_le _) (Nat.zero_le _) h (fun v τ h => ?_) (fun x τ h => ?_)
  · obtain ⟨e1, h⟩ := h; cases e1; exact j_sel [0] rfl h
  · obtain ⟨e1, h⟩ := h; cases e1
set_option maxHeartbeats 2000000 in
theorem b_So_learn_31 {ω : q_W} {σ : q_H} {Q : q_R → q_H → Prop} {d mc ms : Nat} {x2 : Int} {y0 : Int}  (hE : q_E σ) (h : (J ω m_So_trace d 0 0 0 0 0 [(0, .ref 70), (1, .int (zI y0)), (2, .int (zI x2))] [] σ (q_kv (fun τ => J ω m_So_learn (d + 1) mc ms 0 0 35 [(0, .ref 70)] [] τ Q)))) : J ω m_So_learn (d + 1) mc ms 0 0 31 [(0, .ref 70), (2, .int (zI x2))] [.int (zI y0), .ref 70] σ Q := by
  refine j_iload_n d_So_learn_31 1 rfl ?_
  refine j_callV m_So_trace [.int (zI y0), .int (zI x2)] [] d 0 0 cV_So_165 d_So_learn_32 rfl rfl (tg_70 hE) (q_okE hE (by decide)) (Nat.le_of_ble_eq_true rfl) (Nat.le_refl _) (Nat.le_of_ble_eq_true rfl) (Nat.zero_le _) (Nat.zero_le _) h (fun v τ h => ?_) (fun x τ h => ?_)
  · obtain ⟨e1, h⟩ := h; cases e1; exact j_sel [0] rfl h
  · obtain ⟨e1, h⟩ := h; cases e1
set_option maxHeartbeats 2000000 in
theorem b_So_learn_65 {ω : q_W} {σ : q_H} {Q : q_R → q_H → Prop} {d mc ms : Nat}   (hE : q_E σ) (h : q_imp ((z σ 70 16) ≠ 0) (q_imp ((z σ 70 16) ≤ 1) ((J ω m_So_learn (d + 1) mc ms 0 0 100 [(0, .ref 70)] [.int (zI 0), .ref 70] σ Q)) ∧ q_imp ((z σ 70 16) > 1) ((0 ≤ (zShr (z σ 85 1) 1) ∧ (zShr (z σ 85 1) 1) < 10240) ∧ (J ω m_So_learn (d + 1) mc ms 0 0 100 [(0, .ref 70)] [.int (zI (z σ 79 (zShr (z σ 85 1) 1).toNat)), .ref 70] σ Q))) ∧ q_imp ((z σ 70 16) = 0) ((Q (.inl (some (.int (zI 0)))) σ))) : J ω m_So_learn (d + 1) mc ms 0 0 65 [(0, .ref 70)] [] σ Q := by
  refine j_aload_n d_So_learn_65 0 rfl ?_
  refine zj_getI (z σ 70 16) f_So_152 d_So_learn_66 (tg_70 hE) (q_okE hE (by decide)) (q_z _ _ _) ?_
  obtain ⟨h1, h2⟩ := h
  refine zj_if_ne 74 d_So_learn_69 (by decide) (z_R _ _ _) (fun k2 => ?_) (fun k2 => ?_)
  · have h := h1 k2
    refine j_aload_n d_So_learn_74 0 rfl ?_
    refine j_aload_n d_So_learn_75 0 rfl ?_
    refine zj_getI (z σ 70 16) f_So_152 d_So_learn_76 (tg_70 hE) (q_okE hE (by decide)) (q_z _ _ _) ?_
    refine j_iconst (v := zI 1) d_So_learn_79 (by decide) ?_
    obtain ⟨h1, h2⟩ := h
    refine zj_icmp_le 99 d_So_learn_80 (by decide) (z_R _ _ _) ⟨by decide, by decide⟩ (fun k3 => ?_) (fun k3 => ?_)
    · have h := h1 k3
      refine j_iconst (v := zI 0) d_So_learn_99 (by decide) ?_
      exact j_sel [0] rfl h
    · have h := h2 k3
      refine j_aload_n d_So_learn_83 0 rfl ?_
      refine j_getR 79 f_So_31 d_So_learn_84 (tg_70 hE) (q_okE hE (by decide)) (rf_70_3 hE) (by decide) ?_
      refine j_aload_n d_So_learn_87 0 rfl ?_
      refine j_getR 85 f_So_49 d_So_learn_88 (tg_70 hE) (q_okE hE (by decide)) (rf_70_15 hE) (by decide) ?_
      refine j_iconst (v := zI 1) d_So_learn_91 (by decide) ?_
      refine zj_iald (z σ 85 1) d_So_learn_92 (tg_85 hE) (q_okE hE (by decide)) ⟨by decide, by decide⟩ (by decide) (q_z _ _ _) ?_
      refine j_iconst (v := zI 1) d_So_learn_93 (by decide) ?_
      refine zj_ishr d_So_learn_94 ?_
      obtain ⟨c4, h⟩ := h
      refine zj_iald (z σ 79 (zShr (z σ 85 1) 1).toNat) d_So_learn_95 (tg_79 hE) (q_okE hE (by decide)) c4 (by decide) (q_z _ _ _) ?_
      refine j_goto 100 d_So_learn_96 (by decide) ?_
      exact j_sel [0] rfl h
  · have h := h2 k2
    refine j_iconst (v := zI 0) d_So_learn_72 (by decide) ?_
    exact zj_zret d_So_learn_73 rfl (by decide) (Nat.zero_le _) (Nat.zero_le _) h
set_option maxHeartbeats 2000000 in
theorem b_So_learn_100 {ω : q_W} {σ : q_H} {Q : q_R → q_H → Prop} {d mc ms : Nat} {y0 : Int}  (hE : q_E σ) (h : (J ω m_So_backTo d 0 0 0 0 0 [(0, .ref 70), (1, .int (zI y0))] [] σ (q_kv (fun τ => J ω m_So_learn (d + 1) mc ms 0 0 103 [(0, .ref 70)] [] τ Q)))) : J ω m_So_learn (d + 1) mc ms 0 0 100 [(0, .ref 70)] [.int (zI y0), .ref 70] σ Q := by
  refine j_callV m_So_backTo [.int (zI y0)] [] d 0 0 cV_So_100 d_So_learn_100 rfl rfl (tg_70 hE) (q_okE hE (by decide)) (Nat.le_of_ble_eq_true rfl) (Nat.le_refl _) (Nat.le_of_ble_eq_true rfl) (Nat.zero_le _) (Nat.zero_le _) h (fun v τ h => ?_) (fun x τ h => ?_)
  · obtain ⟨e1, h⟩ := h; cases e1; exact j_sel [0] rfl h
  · obtain ⟨e1, h⟩ := h; cases e1
set_option maxHeartbeats 2000000 in
theorem b_So_learn_103 {ω : q_W} {σ : q_H} {Q : q_R → q_H → Prop} {d mc ms : Nat}   (hE : q_E σ) (h : q_imp ((z σ 70 16) ≤ 1) ((J ω m_So_assign d 0 0 0 0 0 [(0, .ref 70), (1, .int (zI (z σ 85 0))), (2, .int (zI 0))] [] σ (q_kv (fun τ => J ω m_So_learn (d + 1) mc ms 0 0 140 [] [] τ Q)))) ∧ q_imp ((z σ 70 16) > 1) ((J ω m_Cl_add d 0 0 0 0 0 [(0, .ref 71), (1, .ref 85), (2, .int (zI (z σ 70 16)))] [] σ (q_ki (fun v τ => J ω m_So_learn (d + 1) mc ms 0 0 133 [] [.int (zI v), .int (zI (z σ 85 0)), .ref 70] τ Q))))) : J ω m_So_learn (d + 1) mc ms 0 0 103 [(0, .ref 70)] [] σ Q := by
  refine j_aload_n d_So_learn_103 0 rfl ?_
  refine j_aload_n d_So_learn_104 0 rfl ?_
  refine j_getR 85 f_So_49 d_So_learn_105 (tg_70 hE) (q_okE hE (by decide)) (rf_70_15 hE) (by decide) ?_
  refine j_iconst (v := zI 0) d_So_learn_108 (by decide) ?_
  refine zj_iald (z σ 85 0) d_So_learn_109 (tg_85 hE) (q_okE hE (by decide)) ⟨by decide, by decide⟩ (by decide) (q_z _ _ _) ?_
  refine j_aload_n d_So_learn_110 0 rfl ?_
  refine zj_getI (z σ 70 16) f_So_152 d_So_learn_111 (tg_70 hE) (q_okE hE (by decide)) (q_z _ _ _) ?_
  refine j_iconst (v := zI 1) d_So_learn_114 (by decide) ?_
  obtain ⟨h1, h2⟩ := h
  refine zj_icmp_le 136 d_So_learn_115 (by decide) (z_R _ _ _) ⟨by decide, by decide⟩ (fun k5 => ?_) (fun k5 => ?_)
  · have h := h1 k5
    refine j_iconst (v := zI 0) d_So_learn_136 (by decide) ?_
    refine j_callV m_So_assign [.int (zI (z σ 85 0)), .int (zI 0)] [] d 0 0 cV_So_96 d_So_learn_137 rfl rfl (tg_70 hE) (q_okE hE (by decide)) (Nat.le_of_ble_eq_true rfl) (Nat.le_refl _) (Nat.le_of_ble_eq_true rfl) (Nat.zero_le _) (Nat.zero_le _) h (fun v τ h => ?_) (fun x τ h => ?_)
    · obtain ⟨e1, h⟩ := h; cases e1; exact j_sel [] rfl h
    · obtain ⟨e1, h⟩ := h; cases e1
  · have h := h2 k5
    refine j_aload_n d_So_learn_118 0 rfl ?_
    refine j_getR 71 f_So_12 d_So_learn_119 (tg_70 hE) (q_okE hE (by decide)) (rf_70_0 hE) (by decide) ?_
    refine j_aload_n d_So_learn_122 0 rfl ?_
    refine j_getR 85 f_So_49 d_So_learn_123 (tg_70 hE) (q_okE hE (by decide)) (rf_70_15 hE) (by decide) ?_
    refine j_aload_n d_So_learn_126 0 rfl ?_
    refine zj_getI (z σ 70 16) f_So_152 d_So_learn_127 (tg_70 hE) (q_okE hE (by decide)) (q_z _ _ _) ?_
    refine j_callV m_Cl_add [.ref 85, .int (zI (z σ 70 16))] [.int (zI (z σ 85 0)), .ref 70] d 0 0 cV_So_111 d_So_learn_130 rfl rfl (tg_71 hE) (q_okE hE (by decide)) (Nat.le_of_ble_eq_true rfl) (Nat.le_refl _) (Nat.le_of_ble_eq_true rfl) (Nat.zero_le _) (Nat.zero_le _) h (fun v τ h => ?_) (fun x τ h => ?_)
    · obtain ⟨v, hv, e1, h⟩ := h; cases e1; exact j_sel [] rfl h
    · obtain ⟨v, hv, e1, h⟩ := h; cases e1
set_option maxHeartbeats 2000000 in
theorem b_So_learn_140 {ω : q_W} {σ : q_H} {Q : q_R → q_H → Prop} {d mc ms : Nat}   (hE : q_E σ) (h : (Q (.inl (some (.int (zI 1)))) σ)) : J ω m_So_learn (d + 1) mc ms 0 0 140 [] [] σ Q := by
  refine j_iconst (v := zI 1) d_So_learn_140 (by decide) ?_
  exact zj_zret d_So_learn_141 rfl (by decide) (Nat.zero_le _) (Nat.zero_le _) h
set_option maxHeartbeats 2000000 in
theorem b_So_learn_133 {ω : q_W} {σ : q_H} {Q : q_R → q_H → Prop} {d mc ms : Nat} {y0 : Int} {y1 : Int}  (hE : q_E σ) (h : (J ω m_So_assign d 0 0 0 0 0 [(0, .ref 70), (1, .int (zI y1)), (2, .int (zI y0))] [] σ (q_kv (fun τ => J ω m_So_learn (d + 1) mc ms 0 0 140 [] [] τ Q)))) : J ω m_So_learn (d + 1) mc ms 0 0 133 [] [.int (zI y0), .int (zI y1), .ref 70] σ Q := by
  refine j_goto 137 d_So_learn_133 (by decide) ?_
  refine j_callV m_So_assign [.int (zI y1), .int (zI y0)] [] d 0 0 cV_So_96 d_So_learn_137 rfl rfl (tg_70 hE) (q_okE hE (by decide)) (Nat.le_of_ble_eq_true rfl) (Nat.le_refl _) (Nat.le_of_ble_eq_true rfl) (Nat.zero_le _) (Nat.zero_le _) h (fun v τ h => ?_) (fun x τ h => ?_)
  · obtain ⟨e1, h⟩ := h; cases e1; exact j_sel [] rfl h
  · obtain ⟨e1, h⟩ := h; cases e1
set_option maxHeartbeats 2000000 in
theorem b_So_gather_0 {ω : q_W} {σ : q_H} {Q : q_R → q_H → Prop} {d mc ms : Nat} {x1 : Int}  (hE : q_E σ) (h : (0 ≤ (z σ 70 18) ∧ (z σ 70 18) < 10240) ∧ (0 ≤ x1 ∧ x1 < 360000) ∧ (J ω m_So_gather d mc ms 0 0 41 [(0, .ref 70), (2, .int (zI 0)), (3, .int (zI ((x1 + 3) + (z σ 72 x1.toNat)))), (4, .int (zI (x1 + 3)))] [] (zs (zs σ 86 (z σ 70 18).toNat x1) 70 18 ((z σ 70 18) + 1)) Q)) : J ω m_So_gather d mc ms 0 0 0 [(0, .ref 70), (1, .int (zI x1))] [] σ Q := by
  refine j_aload_n d_So_gather_0 0 rfl ?_
  refine j_getR 86 f_So_52 d_So_gather_1 (tg_70 hE) (q_okE hE (by decide)) (rf_70_17 hE) (by decide) ?_
  refine j_aload_n d_So_gather_4 0 rfl ?_
  refine zj_getI (z σ 70 18) f_So_155 d_So_gather_5 (tg_70 hE) (q_okE hE (by decide)) (q_z _ _ _) ?_
  refine j_iload_n d_So_gather_8 1 rfl ?_
  obtain ⟨c1, h⟩ := h
  refine zj_iast d_So_gather_9 (tg_86 hE) (q_okE hE (by decide)) c1 (by decide) ?_
  refine j_aload_n d_So_gather_10 0 rfl ?_
  refine j_dup d_So_gather_11 rfl ?_
  refine zj_getI (z σ 70 18) f_So_155 d_So_gather_12 (tg_70 (zs_E hE)) (q_okE (zs_E hE) (by decide)) (Eq.trans (qs_o (by decide)) (q_z _ _ _)) ?_
  refine j_iconst (v := zI 1) d_So_gather_15 (by decide) ?_
  refine zj_iadd ((z σ 70 18) + 1) (by omega) d_So_gather_16 ?_
  refine zj_putI (g_So_155 _) d_So_gather_17 (tg_70 (zs_E hE)) (q_okE (zs_E hE) (by decide)) ?_
  refine j_iconst (v := zI 0) d_So_gather_20 (by decide) ?_
  refine j_istore_n (L' := [(2, .int (zI 0)), (0, .ref 70), (1, .int (zI x1))]) d_So_gather_21 (by decide) rfl ?_
  refine j_iload_n d_So_gather_22 2 rfl ?_
  refine j_iconst (v := zI 3) d_So_gather_23 (by decide) ?_
  refine zj_iadd (x1 + 3) (by omega) d_So_gather_24 ?_
  refine j_aload_n d_So_gather_25 1 rfl ?_
  refine j_getR 71 f_So_12 d_So_gather_26 (tg_70 (zs_E (zs_E hE))) (q_okE (zs_E (zs_E hE)) (by decide)) (rf_70_0 (zs_E (zs_E hE))) (by decide) ?_
  refine j_getR 72 f_So_136 d_So_gather_29 (tg_71 (zs_E (zs_E hE))) (q_okE (zs_E (zs_E hE)) (by decide)) (rf_71_0 (zs_E (zs_E hE))) (by decide) ?_
  refine j_iload_n d_So_gather_32 2 rfl ?_
  obtain ⟨c2, h⟩ := h
  refine zj_iald (z σ 72 x1.toNat) d_So_gather_33 (tg_72 (zs_E (zs_E hE))) (q_okE (zs_E (zs_E hE)) (by decide)) c2 (by decide) (Eq.trans (qs_o (by decide)) (Eq.trans (qs_o (by decide)) (q_z _ _ _))) ?_
  refine zj_iadd ((x1 + 3) + (z σ 72 x1.toNat)) rfl d_So_gather_34 ?_
  refine j_istore_n (L' := [(3, .int (zI ((x1 + 3) + (z σ 72 x1.toNat)))), (2, .int (zI 0)), (0, .ref 70), (1, .int (zI x1))]) d_So_gather_35 (by decide) rfl ?_
  refine j_iload_n d_So_gather_36 3 rfl ?_
  refine j_iconst (v := zI 3) d_So_gather_37 (by decide) ?_
  refine zj_iadd (x1 + 3) (by omega) d_So_gather_38 ?_
  refine j_istore (L' := [(4, .int (zI (x1 + 3))), (3, .int (zI ((x1 + 3) + (z σ 72 x1.toNat)))), (2, .int (zI 0)), (0, .ref 70), (1, .int (zI x1))]) d_So_gather_39 (by decide) rfl ?_
  exact j_sel [3, 2, 1, 0] rfl h
set_option maxHeartbeats 2000000 in
theorem b_So_gather_41 {ω : q_W} {σ : q_H} {Q : q_R → q_H → Prop} {d mc ms : Nat} {x2 : Int} {x3 : Int} {x4 : Int}  (hE : q_E σ) (h : inR x4 ∧ inR x3 ∧ q_imp (x4 ≥ x3) ((Q (.inl (some (.int (zI x2)))) σ)) ∧ q_imp (x4 < x3) ((0 ≤ x4 ∧ x4 < 360000) ∧ (0 ≤ (z σ 72 x4.toNat) ∧ (z σ 72 x4.toNat) < 20480) ∧ q_imp ((z σ 78 (z σ 72 x4.toNat).toNat) ≠ (-1)) ((J ω m_So_gather d mc ms 0 0 41 [(0, .ref 70), (2, .int (zI x2)), (3, .int (zI x3)), (4, .int (zI (x4 + 1)))] [] σ Q)) ∧ q_imp ((z σ 78 (z σ 72 x4.toNat).toNat) = (-1)) ((0 ≤ (zShr (z σ 72 x4.toNat) 1) ∧ (zShr (z σ 72 x4.toNat) 1) < 10240) ∧ q_imp ((z σ 79 (zShr (z σ 72 x4.toNat) 1).toNat) ≤ 0) ((J ω m_So_gather d mc ms 0 0 41 [(0, .ref 70), (2, .int (zI x2)), (3, .int (zI x3)), (4, .int (zI (x4 + 1)))] [] σ Q)) ∧ q_imp (0 < (z σ 79 (zShr (z σ 72 x4.toNat) 1).toNat)) (q_imp ((z σ 84 (zShr (z σ 72 x4.toNat) 1).toNat) ≠ 0) ((J ω m_So_gather d mc ms 0 0 41 [(0, .ref 70), (2, .int (zI x2)), (3, .int (zI x3)), (4, .int (zI (x4 + 1)))] [] σ Q)) ∧ q_imp ((z σ 84 (zShr (z σ 72 x4.toNat) 1).toNat) = 0) (q_imp ((z σ 79 (zShr (z σ 72 x4.toNat) 1).toNat) ≠ (z σ 70 10)) ((J ω m_So_gather d mc ms 0 0 41 [(0, .ref 70), (2, .int (zI x2)), (3, .int (zI x3)), (4, .int (zI (x4 + 1)))] [] (zs σ 84 (zShr (z σ 72 x4.toNat) 1).toNat 1) Q)) ∧ q_imp ((z σ 79 (zShr (z σ 72 x4.toNat) 1).toNat) = (z σ 70 10)) ((J ω m_So_gather d mc ms 0 0 41 [(0, .ref 70), (2, .int (zI (x2 + 1))), (3, .int (zI x3)), (4, .int (zI (x4 + 1)))] [] (zs σ 84 (zShr (z σ 72 x4.toNat) 1).toNat 1) Q))))))) : J ω m_So_gather d mc ms 0 0 41 [(0, .ref 70), (2, .int (zI x2)), (3, .int (zI x3)), (4, .int (zI x4))] [] σ Q := by
  refine j_iload d_So_gather_41 3 rfl ?_
  refine j_iload_n d_So_gather_43 2 rfl ?_
  obtain ⟨r3, h⟩ := h
  obtain ⟨r4, h⟩ := h
  obtain ⟨h1, h2⟩ := h
  refine zj_icmp_ge 132 d_So_gather_44 (by decide) r3 r4 (fun k5 => ?_) (fun k5 => ?_)
  · have h := h1 k5
    refine j_iload_n d_So_gather_132 1 rfl ?_
    exact zj_iret d_So_gather_133 rfl (Nat.zero_le _) (Nat.zero_le _) h
  · have h := h2 k5
    refine j_aload_n d_So_gather_47 0 rfl ?_
    refine j_getR 71 f_So_12 d_So_gather_48 (tg_70 hE) (q_okE hE (by decide)) (rf_70_0 hE) (by decide) ?_
    refine j_getR 72 f_So_136 d_So_gather_51 (tg_71 hE) (q_okE hE (by decide)) (rf_71_0 hE) (by decide) ?_
    refine j_iload d_So_gather_54 3 rfl ?_
    obtain ⟨c6, h⟩ := h
    refine zj_iald (z σ 72 x4.toNat) d_So_gather_56 (tg_72 hE) (q_okE hE (by decide)) c6 (by decide) (q_z _ _ _) ?_
    refine j_istore (L' := [(5, .int (zI (z σ 72 x4.toNat))), (0, .ref 70), (2, .int (zI x2)), (3, .int (zI x3)), (4, .int (zI x4))]) d_So_gather_57 (by decide) rfl ?_
    refine j_iload d_So_gather_59 0 rfl ?_
    refine j_iconst (v := zI 1) d_So_gather_61 (by decide) ?_
    refine zj_ishr d_So_gather_62 ?_
    refine j_istore (L' := [(6, .int (zI (zShr (z σ 72 x4.toNat) 1))), (5, .int (zI (z σ 72 x4.toNat))), (0, .ref 70), (2, .int (zI x2)), (3, .int (zI x3)), (4, .int (zI x4))]) d_So_gather_63 (by decide) rfl ?_
    refine j_aload_n d_So_gather_65 2 rfl ?_
    refine j_getR 78 f_So_27 d_So_gather_66 (tg_70 hE) (q_okE hE (by decide)) (rf_70_2 hE) (by decide) ?_
    refine j_iload d_So_gather_69 1 rfl ?_
    obtain ⟨c7, h⟩ := h
    refine zj_iald (z σ 78 (z σ 72 x4.toNat).toNat) d_So_gather_71 (tg_78 hE) (q_okE hE (by decide)) c7 (by decide) (q_z _ _ _) ?_
    refine j_iconst (v := zI (-1)) d_So_gather_72 (by decide) ?_
    obtain ⟨h1, h2⟩ := h
    refine zj_icmp_ne 126 d_So_gather_73 (by decide) (z_R _ _ _) ⟨by decide, by decide⟩ (fun k8 => ?_) (fun k8 => ?_)
    · have h := h1 k8
      refine zj_iinc (L' := [(4, .int (zI (x4 + 1))), (6, .int (zI (zShr (z σ 72 x4.toNat) 1))), (5, .int (zI (z σ 72 x4.toNat))), (0, .ref 70), (2, .int (zI x2)), (3, .int (zI x3))]) (x4 + 1) d_So_gather_126 5 rfl (by omega) (by decide) rfl ?_
      refine j_goto 41 d_So_gather_129 (by decide) ?_
      exact j_sel [3, 4, 5, 0] rfl h
    · have h := h2 k8
      refine j_aload_n d_So_gather_76 2 rfl ?_
      refine j_getR 79 f_So_31 d_So_gather_77 (tg_70 hE) (q_okE hE (by decide)) (rf_70_3 hE) (by decide) ?_
      refine j_iload d_So_gather_80 0 rfl ?_
      obtain ⟨c9, h⟩ := h
      refine zj_iald (z σ 79 (zShr (z σ 72 x4.toNat) 1).toNat) d_So_gather_82 (tg_79 hE) (q_okE hE (by decide)) c9 (by decide) (q_z _ _ _) ?_
      obtain ⟨h1, h2⟩ := h
      refine zj_if_le 126 d_So_gather_83 (by decide) (z_R _ _ _) (fun k10 => ?_) (fun k10 => ?_)
      · have h := h1 k10
        refine zj_iinc (L' := [(4, .int (zI (x4 + 1))), (6, .int (zI (zShr (z σ 72 x4.toNat) 1))), (5, .int (zI (z σ 72 x4.toNat))), (0, .ref 70), (2, .int (zI x2)), (3, .int (zI x3))]) (x4 + 1) d_So_gather_126 5 rfl (by omega) (by decide) rfl ?_
        refine j_goto 41 d_So_gather_129 (by decide) ?_
        exact j_sel [3, 4, 5, 0] rfl h
      · have h := h2 k10
        refine j_aload_n d_So_gather_86 2 rfl ?_
        refine j_getR 84 f_So_46 d_So_gather_87 (tg_70 hE) (q_okE hE (by decide)) (rf_70_14 hE) (by decide) ?_
        refine j_iload d_So_gather_90 0 rfl ?_
        refine zj_iald (z σ 84 (zShr (z σ 72 x4.toNat) 1).toNat) d_So_gather_92 (tg_84 hE) (q_okE hE (by decide)) c9 (by decide) (q_z _ _ _) ?_
        obtain ⟨h1, h2⟩ := h
        refine zj_if_ne 126 d_So_gather_93 (by decide) (z_R _ _ _) (fun k11 => ?_) (fun k11 => ?_)
        · have h := h1 k11
          refine zj_iinc (L' := [(4, .int (zI (x4 + 1))), (6, .int (zI (zShr (z σ 72 x4.toNat) 1))), (5, .int (zI (z σ 72 x4.toNat))), (0, .ref 70), (2, .int (zI x2)), (3, .int (zI x3))]) (x4 + 1) d_So_gather_126 5 rfl (by omega) (by decide) rfl ?_
          refine j_goto 41 d_So_gather_129 (by decide) ?_
          exact j_sel [3, 4, 5, 0] rfl h
        · have h := h2 k11
          refine j_aload_n d_So_gather_96 2 rfl ?_
          refine j_getR 84 f_So_46 d_So_gather_97 (tg_70 hE) (q_okE hE (by decide)) (rf_70_14 hE) (by decide) ?_
          refine j_iload d_So_gather_100 0 rfl ?_
          refine j_iconst (v := zI 1) d_So_gather_102 (by decide) ?_
          refine zj_iast d_So_gather_103 (tg_84 hE) (q_okE hE (by decide)) c9 (by decide) ?_
          refine j_iload_n d_So_gather_104 3 rfl ?_
          refine j_aload_n d_So_gather_105 2 rfl ?_
          refine j_getR 79 f_So_31 d_So_gather_106 (tg_70 (zs_E hE)) (q_okE (zs_E hE) (by decide)) (rf_70_3 (zs_E hE)) (by decide) ?_
          refine j_iload d_So_gather_109 0 rfl ?_
          refine zj_iald (z σ 79 (zShr (z σ 72 x4.toNat) 1).toNat) d_So_gather_111 (tg_79 (zs_E hE)) (q_okE (zs_E hE) (by decide)) c9 (by decide) (Eq.trans (qs_o (by decide)) (q_z _ _ _)) ?_
          refine j_aload_n d_So_gather_112 2 rfl ?_
          refine zj_getI (z σ 70 10) f_So_87 d_So_gather_113 (tg_70 (zs_E hE)) (q_okE (zs_E hE) (by decide)) (Eq.trans (qs_o (by decide)) (q_z _ _ _)) ?_
          obtain ⟨h1, h2⟩ := h
          refine zj_icmp_ne 123 d_So_gather_116 (by decide) (z_R _ _ _) (z_R _ _ _) (fun k12 => ?_) (fun k12 => ?_)
          · have h := h1 k12
            refine j_iconst (v := zI 0) d_So_gather_123 (by decide) ?_
            refine zj_iadd x2 (by omega) d_So_gather_124 ?_
            refine j_istore_n (L' := [(2, .int (zI x2)), (6, .int (zI (zShr (z σ 72 x4.toNat) 1))), (5, .int (zI (z σ 72 x4.toNat))), (0, .ref 70), (3, .int (zI x3)), (4, .int (zI x4))]) d_So_gather_125 (by decide) rfl ?_
            refine zj_iinc (L' := [(4, .int (zI (x4 + 1))), (2, .int (zI x2)), (6, .int (zI (zShr (z σ 72 x4.toNat) 1))), (5, .int (zI (z σ 72 x4.toNat))), (0, .ref 70), (3, .int (zI x3))]) (x4 + 1) d_So_gather_126 5 rfl (by omega) (by decide) rfl ?_
            refine j_goto 41 d_So_gather_129 (by decide) ?_
            exact j_sel [4, 1, 5, 0] rfl h
          · have h := h2 k12
            refine j_iconst (v := zI 1) d_So_gather_119 (by decide) ?_
            refine j_goto 124 d_So_gather_120 (by decide) ?_
            refine zj_iadd (x2 + 1) (by omega) d_So_gather_124 ?_
            refine j_istore_n (L' := [(2, .int (zI (x2 + 1))), (6, .int (zI (zShr (z σ 72 x4.toNat) 1))), (5, .int (zI (z σ 72 x4.toNat))), (0, .ref 70), (3, .int (zI x3)), (4, .int (zI x4))]) d_So_gather_125 (by decide) rfl ?_
            refine zj_iinc (L' := [(4, .int (zI (x4 + 1))), (2, .int (zI (x2 + 1))), (6, .int (zI (zShr (z σ 72 x4.toNat) 1))), (5, .int (zI (z σ 72 x4.toNat))), (0, .ref 70), (3, .int (zI x3))]) (x4 + 1) d_So_gather_126 5 rfl (by omega) (by decide) rfl ?_
            refine j_goto 41 d_So_gather_129 (by decide) ?_
            exact j_sel [4, 1, 5, 0] rfl h
set_option maxHeartbeats 2000000 in
theorem b_So_trace_0 {ω : q_W} {σ : q_H} {Q : q_R → q_H → Prop} {d mc ms : Nat} {x1 : Int} {x2 : Int}  (hE : q_E σ) (h : (J ω m_So_trace (d + 1) mc ms 0 0 10 [(0, .ref 70), (1, .int (zI x1)), (3, .int (zI x2)), (4, .int (zI ((z σ 70 6) - 1)))] [] σ Q)) : J ω m_So_trace (d + 1) mc ms 0 0 0 [(0, .ref 70), (1, .int (zI x1)), (2, .int (zI x2))] [] σ Q := by
  refine j_iload_n d_So_trace_0 2 rfl ?_
  refine j_istore_n (L' := [(3, .int (zI x2)), (0, .ref 70), (1, .int (zI x1)), (2, .int (zI x2))]) d_So_trace_1 (by decide) rfl ?_
  refine j_aload_n d_So_trace_2 1 rfl ?_
  refine zj_getI (z σ 70 6) f_So_78 d_So_trace_3 (tg_70 hE) (q_okE hE (by decide)) (q_z _ _ _) ?_
  refine j_iconst (v := zI 1) d_So_trace_6 (by decide) ?_
  refine zj_isub ((z σ 70 6) - 1) (by omega) d_So_trace_7 ?_
  refine j_istore (L' := [(4, .int (zI ((z σ 70 6) - 1))), (3, .int (zI x2)), (0, .ref 70), (1, .int (zI x1)), (2, .int (zI x2))]) d_So_trace_8 (by decide) rfl ?_
  exact j_sel [2, 3, 1, 0] rfl h
set_option maxHeartbeats 2000000 in
theorem b_So_trace_10 {ω : q_W} {σ : q_H} {Q : q_R → q_H → Prop} {d mc ms : Nat} {x1 : Int} {x3 : Int} {x4 : Int}  (hE : q_E σ) (h : inR x4 ∧ q_imp (x4 < (z σ 82 1)) ((Q (.inl none) σ)) ∧ q_imp (x4 ≥ (z σ 82 1)) ((0 ≤ x4 ∧ x4 < 10240) ∧ (0 ≤ (zShr (z σ 81 x4.toNat) 1) ∧ (zShr (z σ 81 x4.toNat) 1) < 10240) ∧ q_imp ((z σ 84 (zShr (z σ 81 x4.toNat) 1).toNat) ≠ 0) (q_imp ((z σ 79 (zShr (z σ 81 x4.toNat) 1).toNat) ≠ (z σ 70 10)) ((J ω m_So_trace (d + 1) mc ms 0 0 76 [(0, .ref 70), (1, .int (zI x1)), (3, .int (zI x3)), (4, .int (zI x4)), (5, .int (zI (z σ 81 x4.toNat))), (6, .int (zI (zShr (z σ 81 x4.toNat) 1)))] [.int (zI 0)] (zs σ 84 (zShr (z σ 81 x4.toNat) 1).toNat 0) Q)) ∧ q_imp ((z σ 79 (zShr (z σ 81 x4.toNat) 1).toNat) = (z σ 70 10)) ((J ω m_So_trace (d + 1) mc ms 0 0 76 [(0, .ref 70), (1, .int (zI x1)), (3, .int (zI x3)), (4, .int (zI x4)), (5, .int (zI (z σ 81 x4.toNat))), (6, .int (zI (zShr (z σ 81 x4.toNat) 1)))] [.int (zI 1)] (zs σ 84 (zShr (z σ 81 x4.toNat) 1).toNat 0) Q))) ∧ q_imp ((z σ 84 (zShr (z σ 81 x4.toNat) 1).toNat) = 0) ((J ω m_So_trace (d + 1) mc ms 0 0 10 [(0, .ref 70), (1, .int (zI x1)), (3, .int (zI x3)), (4, .int (zI (x4 - 1)))] [] σ Q)))) : J ω m_So_trace (d + 1) mc ms 0 0 10 [(0, .ref 70), (1, .int (zI x1)), (3, .int (zI x3)), (4, .int (zI x4))] [] σ Q := by
  refine j_iload d_So_trace_10 3 rfl ?_
  refine j_aload_n d_So_trace_12 0 rfl ?_
  refine j_getR 82 f_So_40 d_So_trace_13 (tg_70 hE) (q_okE hE (by decide)) (rf_70_9 hE) (by decide) ?_
  refine j_iconst (v := zI 1) d_So_trace_16 (by decide) ?_
  refine zj_iald (z σ 82 1) d_So_trace_17 (tg_82 hE) (q_okE hE (by decide)) ⟨by decide, by decide⟩ (by decide) (q_z _ _ _) ?_
  obtain ⟨r1, h⟩ := h
  obtain ⟨h1, h2⟩ := h
  refine zj_icmp_lt 161 d_So_trace_18 (by decide) r1 (z_R _ _ _) (fun k2 => ?_) (fun k2 => ?_)
  · have h := h1 k2
    exact j_vret d_So_trace_161 rfl (Nat.zero_le _) (Nat.zero_le _) h
  · have h := h2 k2
    refine j_aload_n d_So_trace_21 0 rfl ?_
    refine j_getR 81 f_So_37 d_So_trace_22 (tg_70 hE) (q_okE hE (by decide)) (rf_70_5 hE) (by decide) ?_
    refine j_iload d_So_trace_25 3 rfl ?_
    obtain ⟨c3, h⟩ := h
    refine zj_iald (z σ 81 x4.toNat) d_So_trace_27 (tg_81 hE) (q_okE hE (by decide)) c3 (by decide) (q_z _ _ _) ?_
    refine j_istore (L' := [(5, .int (zI (z σ 81 x4.toNat))), (0, .ref 70), (1, .int (zI x1)), (3, .int (zI x3)), (4, .int (zI x4))]) d_So_trace_28 (by decide) rfl ?_
    refine j_iload d_So_trace_30 0 rfl ?_
    refine j_iconst (v := zI 1) d_So_trace_32 (by decide) ?_
    refine zj_ishr d_So_trace_33 ?_
    refine j_istore (L' := [(6, .int (zI (zShr (z σ 81 x4.toNat) 1))), (5, .int (zI (z σ 81 x4.toNat))), (0, .ref 70), (1, .int (zI x1)), (3, .int (zI x3)), (4, .int (zI x4))]) d_So_trace_34 (by decide) rfl ?_
    refine j_aload_n d_So_trace_36 2 rfl ?_
    refine j_getR 84 f_So_46 d_So_trace_37 (tg_70 hE) (q_okE hE (by decide)) (rf_70_14 hE) (by decide) ?_
    refine j_iload d_So_trace_40 0 rfl ?_
    obtain ⟨c4, h⟩ := h
    refine zj_iald (z σ 84 (zShr (z σ 81 x4.toNat) 1).toNat) d_So_trace_42 (tg_84 hE) (q_okE hE (by decide)) c4 (by decide) (q_z _ _ _) ?_
    obtain ⟨h1, h2⟩ := h
    refine zj_if_ne 49 d_So_trace_43 (by decide) (z_R _ _ _) (fun k5 => ?_) (fun k5 => ?_)
    · have h := h1 k5
      refine j_aload_n d_So_trace_49 2 rfl ?_
      refine j_getR 84 f_So_46 d_So_trace_50 (tg_70 hE) (q_okE hE (by decide)) (rf_70_14 hE) (by decide) ?_
      refine j_iload d_So_trace_53 0 rfl ?_
      refine j_iconst (v := zI 0) d_So_trace_55 (by decide) ?_
      refine zj_iast d_So_trace_56 (tg_84 hE) (q_okE hE (by decide)) c4 (by decide) ?_
      refine j_aload_n d_So_trace_57 2 rfl ?_
      refine j_getR 79 f_So_31 d_So_trace_58 (tg_70 (zs_E hE)) (q_okE (zs_E hE) (by decide)) (rf_70_3 (zs_E hE)) (by decide) ?_
      refine j_iload d_So_trace_61 0 rfl ?_
      refine zj_iald (z σ 79 (zShr (z σ 81 x4.toNat) 1).toNat) d_So_trace_63 (tg_79 (zs_E hE)) (q_okE (zs_E hE) (by decide)) c4 (by decide) (Eq.trans (qs_o (by decide)) (q_z _ _ _)) ?_
      refine j_aload_n d_So_trace_64 2 rfl ?_
      refine zj_getI (z σ 70 10) f_So_87 d_So_trace_65 (tg_70 (zs_E hE)) (q_okE (zs_E hE) (by decide)) (Eq.trans (qs_o (by decide)) (q_z _ _ _)) ?_
      obtain ⟨h1, h2⟩ := h
      refine zj_icmp_ne 75 d_So_trace_68 (by decide) (z_R _ _ _) (z_R _ _ _) (fun k6 => ?_) (fun k6 => ?_)
      · have h := h1 k6
        refine j_iconst (v := zI 0) d_So_trace_75 (by decide) ?_
        exact j_sel [2, 3, 4, 5, 1, 0] rfl h
      · have h := h2 k6
        refine j_iconst (v := zI 1) d_So_trace_71 (by decide) ?_
        refine j_goto 76 d_So_trace_72 (by decide) ?_
        exact j_sel [2, 3, 4, 5, 1, 0] rfl h
    · have h := h2 k5
      refine j_goto 155 d_So_trace_46 (by decide) ?_
      refine zj_iinc (L' := [(4, .int (zI (x4 - 1))), (6, .int (zI (zShr (z σ 81 x4.toNat) 1))), (5, .int (zI (z σ 81 x4.toNat))), (0, .ref 70), (1, .int (zI x1)), (3, .int (zI x3))]) (x4 - 1) d_So_trace_155 5 rfl (by omega) (by decide) rfl ?_
      refine j_goto 10 d_So_trace_158 (by decide) ?_
      exact j_sel [3, 4, 5, 0] rfl h
set_option maxHeartbeats 2000000 in
theorem b_So_trace_76 {ω : q_W} {σ : q_H} {Q : q_R → q_H → Prop} {d mc ms : Nat} {x1 : Int} {x3 : Int} {x4 : Int} {x5 : Int} {x6 : Int} {y0 : Int}  (hE : q_E σ) (h : (0 ≤ x6 ∧ x6 < 10240) ∧ q_imp ((z σ 80 x6.toNat) = 0) ((J ω m_So_trace (d + 1) mc ms 0 0 102 [(0, .ref 70), (1, .int (zI x1)), (3, .int (zI x3)), (4, .int (zI x4)), (5, .int (zI x5)), (7, .int (zI y0))] [] σ Q)) ∧ q_imp ((z σ 80 x6.toNat) ≠ 0) (inR x1 ∧ q_imp (x1 = 0) ((J ω m_So_trace (d + 1) mc ms 0 0 128 [(0, .ref 70), (1, .int (zI x1)), (3, .int (zI x3)), (4, .int (zI x4)), (6, .int (zI x6)), (7, .int (zI y0))] [] σ Q)) ∧ q_imp (x1 ≠ 0) (inR y0 ∧ q_imp (y0 = 0) ((J ω m_So_trace (d + 1) mc ms 0 0 102 [(0, .ref 70), (1, .int (zI x1)), (3, .int (zI x3)), (4, .int (zI x4)), (5, .int (zI x5)), (7, .int (zI y0))] [] σ Q)) ∧ q_imp (y0 ≠ 0) (inR x3 ∧ q_imp (x3 ≠ 1) ((J ω m_So_trace (d + 1) mc ms 0 0 128 [(0, .ref 70), (1, .int (zI x1)), (3, .int (zI x3)), (4, .int (zI x4)), (6, .int (zI x6)), (7, .int (zI y0))] [] σ Q)) ∧ q_imp (x3 = 1) ((J ω m_So_trace (d + 1) mc ms 0 0 102 [(0, .ref 70), (1, .int (zI x1)), (3, .int (zI x3)), (4, .int (zI x4)), (5, .int (zI x5)), (7, .int (zI y0))] [] σ Q)))))) : J ω m_So_trace (d + 1) mc ms 0 0 76 [(0, .ref 70), (1, .int (zI x1)), (3, .int (zI x3)), (4, .int (zI x4)), (5, .int (zI x5)), (6, .int (zI x6))] [.int (zI y0)] σ Q := by
  refine j_istore (L' := [(7, .int (zI y0)), (0, .ref 70), (1, .int (zI x1)), (3, .int (zI x3)), (4, .int (zI x4)), (5, .int (zI x5)), (6, .int (zI x6))]) d_So_trace_76 (by decide) rfl ?_
  refine j_aload_n d_So_trace_78 1 rfl ?_
  refine j_getR 80 f_So_34 d_So_trace_79 (tg_70 hE) (q_okE hE (by decide)) (rf_70_4 hE) (by decide) ?_
  refine j_iload d_So_trace_82 6 rfl ?_
  obtain ⟨c7, h⟩ := h
  refine zj_iald (z σ 80 x6.toNat) d_So_trace_84 (tg_80 hE) (q_okE hE (by decide)) c7 (by decide) (q_z _ _ _) ?_
  obtain ⟨h1, h2⟩ := h
  refine zj_if_eq 102 d_So_trace_85 (by decide) (z_R _ _ _) (fun k8 => ?_) (fun k8 => ?_)
  · have h := h1 k8
    exact j_sel [1, 2, 3, 4, 5, 0] rfl h
  · have h := h2 k8
    refine j_iload_n d_So_trace_88 2 rfl ?_
    obtain ⟨r9, h⟩ := h
    obtain ⟨h1, h2⟩ := h
    refine zj_if_eq 128 d_So_trace_89 (by decide) r9 (fun k10 => ?_) (fun k10 => ?_)
    · have h := h1 k10
      exact j_sel [1, 2, 3, 4, 6, 0] rfl h
    · have h := h2 k10
      refine j_iload d_So_trace_92 0 rfl ?_
      obtain ⟨r11, h⟩ := h
      obtain ⟨h1, h2⟩ := h
      refine zj_if_eq 102 d_So_trace_94 (by decide) r11 (fun k12 => ?_) (fun k12 => ?_)
      · have h := h1 k12
        exact j_sel [1, 2, 3, 4, 5, 0] rfl h
      · have h := h2 k12
        refine j_iload_n d_So_trace_97 3 rfl ?_
        refine j_iconst (v := zI 1) d_So_trace_98 (by decide) ?_
        obtain ⟨r13, h⟩ := h
        obtain ⟨h1, h2⟩ := h
        refine zj_icmp_ne 128 d_So_trace_99 (by decide) r13 ⟨by decide, by decide⟩ (fun k14 => ?_) (fun k14 => ?_)
        · have h := h1 k14
          exact j_sel [1, 2, 3, 4, 6, 0] rfl h
        · have h := h2 k14
          exact j_sel [1, 2, 3, 4, 5, 0] rfl h
set_option maxHeartbeats 2000000 in
theorem b_So_trace_102 {ω : q_W} {σ : q_H} {Q : q_R → q_H → Prop} {d mc ms : Nat} {x1 : Int} {x3 : Int} {x4 : Int} {x5 : Int} {x7 : Int}  (hE : q_E σ) (h : (0 ≤ (z σ 70 16) ∧ (z σ 70 16) < 10240) ∧ (J ω m_So_trace (d + 1) mc ms 0 0 142 [(0, .ref 70), (1, .int (zI x1)), (3, .int (zI x3)), (4, .int (zI x4)), (7, .int (zI x7))] [] (zs (zs σ 85 (z σ 70 16).toNat (zXor x5 1)) 70 16 ((z σ 70 16) + 1)) Q)) : J ω m_So_trace (d + 1) mc ms 0 0 102 [(0, .ref 70), (1, .int (zI x1)), (3, .int (zI x3)), (4, .int (zI x4)), (5, .int (zI x5)), (7, .int (zI x7))] [] σ Q := by
  refine j_aload_n d_So_trace_102 0 rfl ?_
  refine j_getR 85 f_So_49 d_So_trace_103 (tg_70 hE) (q_okE hE (by decide)) (rf_70_15 hE) (by decide) ?_
  refine j_aload_n d_So_trace_106 0 rfl ?_
  refine zj_getI (z σ 70 16) f_So_152 d_So_trace_107 (tg_70 hE) (q_okE hE (by decide)) (q_z _ _ _) ?_
  refine j_iload d_So_trace_110 4 rfl ?_
  refine j_iconst (v := zI 1) d_So_trace_112 (by decide) ?_
  refine zj_ixor d_So_trace_113 ?_
  obtain ⟨c15, h⟩ := h
  refine zj_iast d_So_trace_114 (tg_85 hE) (q_okE hE (by decide)) c15 (by decide) ?_
  refine j_aload_n d_So_trace_115 0 rfl ?_
  refine j_dup d_So_trace_116 rfl ?_
  refine zj_getI (z σ 70 16) f_So_152 d_So_trace_117 (tg_70 (zs_E hE)) (q_okE (zs_E hE) (by decide)) (Eq.trans (qs_o (by decide)) (q_z _ _ _)) ?_
  refine j_iconst (v := zI 1) d_So_trace_120 (by decide) ?_
  refine zj_iadd ((z σ 70 16) + 1) (by omega) d_So_trace_121 ?_
  refine zj_putI (g_So_152 _) d_So_trace_122 (tg_70 (zs_E hE)) (q_okE (zs_E hE) (by decide)) ?_
  refine j_goto 142 d_So_trace_125 (by decide) ?_
  exact j_sel [0, 1, 2, 3, 5] rfl h
set_option maxHeartbeats 2000000 in
theorem b_So_trace_128 {ω : q_W} {σ : q_H} {Q : q_R → q_H → Prop} {d mc ms : Nat} {x1 : Int} {x3 : Int} {x4 : Int} {x6 : Int} {x7 : Int}  (hE : q_E σ) (h : (0 ≤ x6 ∧ x6 < 10240) ∧ (J ω m_So_gather d 0 0 0 0 0 [(0, .ref 70), (1, .int (zI (z σ 80 x6.toNat)))] [] σ (q_ki (fun v τ => J ω m_So_trace (d + 1) mc ms 0 0 140 [(0, .ref 70), (1, .int (zI x1)), (4, .int (zI x4)), (7, .int (zI x7))] [.int (zI v), .int (zI x3)] τ Q)))) : J ω m_So_trace (d + 1) mc ms 0 0 128 [(0, .ref 70), (1, .int (zI x1)), (3, .int (zI x3)), (4, .int (zI x4)), (6, .int (zI x6)), (7, .int (zI x7))] [] σ Q := by
  refine j_iload_n d_So_trace_128 2 rfl ?_
  refine j_aload_n d_So_trace_129 0 rfl ?_
  refine j_aload_n d_So_trace_130 0 rfl ?_
  refine j_getR 80 f_So_34 d_So_trace_131 (tg_70 hE) (q_okE hE (by decide)) (rf_70_4 hE) (by decide) ?_
  refine j_iload d_So_trace_134 4 rfl ?_
  obtain ⟨c16, h⟩ := h
  refine zj_iald (z σ 80 x6.toNat) d_So_trace_136 (tg_80 hE) (q_okE hE (by decide)) c16 (by decide) (q_z _ _ _) ?_
  refine j_callV m_So_gather [.int (zI (z σ 80 x6.toNat))] [.int (zI x3)] d 0 0 cV_So_158 d_So_trace_137 rfl rfl (tg_70 hE) (q_okE hE (by decide)) (Nat.le_of_ble_eq_true rfl) (Nat.le_refl _) (Nat.le_of_ble_eq_true rfl) (Nat.zero_le _) (Nat.zero_le _) h (fun v τ h => ?_) (fun x τ h => ?_)
  · obtain ⟨v, hv, e1, h⟩ := h; cases e1; exact j_sel [0, 1, 3, 5] rfl h
  · obtain ⟨v, hv, e1, h⟩ := h; cases e1
set_option maxHeartbeats 2000000 in
theorem b_So_trace_142 {ω : q_W} {σ : q_H} {Q : q_R → q_H → Prop} {d mc ms : Nat} {x1 : Int} {x3 : Int} {x4 : Int} {x7 : Int}  (hE : q_E σ) (h : inR x7 ∧ q_imp (x7 = 0) ((J ω m_So_trace (d + 1) mc ms 0 0 10 [(0, .ref 70), (1, .int (zI x1)), (3, .int (zI x3)), (4, .int (zI (x4 - 1)))] [] σ Q)) ∧ q_imp (x7 ≠ 0) ((J ω m_So_trace (d + 1) mc ms 0 0 10 [(0, .ref 70), (1, .int (zI x1)), (3, .int (zI (x3 - 1))), (4, .int (zI (x4 - 1)))] [] σ Q))) : J ω m_So_trace (d + 1) mc ms 0 0 142 [(0, .ref 70), (1, .int (zI x1)), (3, .int (zI x3)), (4, .int (zI x4)), (7, .int (zI x7))] [] σ Q := by
  refine j_iload_n d_So_trace_142 2 rfl ?_
  refine j_iload d_So_trace_143 4 rfl ?_
  obtain ⟨r17, h⟩ := h
  obtain ⟨h1, h2⟩ := h
  refine zj_if_eq 152 d_So_trace_145 (by decide) r17 (fun k18 => ?_) (fun k18 => ?_)
  · have h := h1 k18
    refine j_iconst (v := zI 0) d_So_trace_152 (by decide) ?_
    refine zj_isub x3 (by omega) d_So_trace_153 ?_
    refine j_istore_n (L' := [(3, .int (zI x3)), (0, .ref 70), (1, .int (zI x1)), (4, .int (zI x4)), (7, .int (zI x7))]) d_So_trace_154 (by decide) rfl ?_
    refine zj_iinc (L' := [(4, .int (zI (x4 - 1))), (3, .int (zI x3)), (0, .ref 70), (1, .int (zI x1)), (7, .int (zI x7))]) (x4 - 1) d_So_trace_155 3 rfl (by omega) (by decide) rfl ?_
    refine j_goto 10 d_So_trace_158 (by decide) ?_
    exact j_sel [2, 3, 1, 0] rfl h
  · have h := h2 k18
    refine j_iconst (v := zI 1) d_So_trace_148 (by decide) ?_
    refine j_goto 153 d_So_trace_149 (by decide) ?_
    refine zj_isub (x3 - 1) (by omega) d_So_trace_153 ?_
    refine j_istore_n (L' := [(3, .int (zI (x3 - 1))), (0, .ref 70), (1, .int (zI x1)), (4, .int (zI x4)), (7, .int (zI x7))]) d_So_trace_154 (by decide) rfl ?_
    refine zj_iinc (L' := [(4, .int (zI (x4 - 1))), (3, .int (zI (x3 - 1))), (0, .ref 70), (1, .int (zI x1)), (7, .int (zI x7))]) (x4 - 1) d_So_trace_155 3 rfl (by omega) (by decide) rfl ?_
    refine j_goto 10 d_So_trace_158 (by decide) ?_
    exact j_sel [2, 3, 1, 0] rfl h
set_option maxHeartbeats 2000000 in
theorem b_So_trace_140 {ω : q_W} {σ : q_H} {Q : q_R → q_H → Prop} {d mc ms : Nat} {x1 : Int} {x4 : Int} {x7 : Int} {y0 : Int} {y1 : Int}  (hE : q_E σ) (h : (J ω m_So_trace (d + 1) mc ms 0 0 142 [(0, .ref 70), (1, .int (zI x1)), (3, .int (zI (y1 + y0))), (4, .int (zI x4)), (7, .int (zI x7))] [] σ Q)) : J ω m_So_trace (d + 1) mc ms 0 0 140 [(0, .ref 70), (1, .int (zI x1)), (4, .int (zI x4)), (7, .int (zI x7))] [.int (zI y0), .int (zI y1)] σ Q := by
  refine zj_iadd (y1 + y0) rfl d_So_trace_140 ?_
  refine j_istore_n (L' := [(3, .int (zI (y1 + y0))), (0, .ref 70), (1, .int (zI x1)), (4, .int (zI x4)), (7, .int (zI x7))]) d_So_trace_141 (by decide) rfl ?_
  exact j_sel [1, 2, 0, 3, 4] rfl h
set_option maxHeartbeats 2000000 in
theorem b_So_nextWish_0 {ω : q_W} {σ : q_H} {Q : q_R → q_H → Prop} {d mc ms : Nat}   (hE : q_E σ) (h : (J ω m_So_nextWish d mc ms 0 0 2 [(0, .ref 70), (1, .int (zI 0))] [] σ Q)) : J ω m_So_nextWish d mc ms 0 0 0 [(0, .ref 70)] [] σ Q := by
  refine j_iconst (v := zI 0) d_So_nextWish_0 (by decide) ?_
  refine j_istore_n (L' := [(1, .int (zI 0)), (0, .ref 70)]) d_So_nextWish_1 (by decide) rfl ?_
  exact j_sel [1, 0] rfl h
set_option maxHeartbeats 2000000 in
theorem b_So_nextWish_2 {ω : q_W} {σ : q_H} {Q : q_R → q_H → Prop} {d mc ms : Nat} {x1 : Int}  (hE : q_E σ) (h : inR x1 ∧ q_imp (x1 ≥ (z σ 70 12)) ((Q (.inl (some (.int (zI (-1))))) σ)) ∧ q_imp (x1 < (z σ 70 12)) ((0 ≤ x1 ∧ x1 < 12) ∧ (0 ≤ (z σ 83 x1.toNat) ∧ (z σ 83 x1.toNat) < 20480) ∧ q_imp ((z σ 78 (z σ 83 x1.toNat).toNat) ≠ 0) ((J ω m_So_nextWish d mc ms 0 0 2 [(0, .ref 70), (1, .int (zI (x1 + 1)))] [] σ Q)) ∧ q_imp ((z σ 78 (z σ 83 x1.toNat).toNat) = 0) ((Q (.inl (some (.int (zI (z σ 83 x1.toNat))))) σ)))) : J ω m_So_nextWish d mc ms 0 0 2 [(0, .ref 70), (1, .int (zI x1))] [] σ Q := by
  refine j_iload_n d_So_nextWish_2 1 rfl ?_
  refine j_aload_n d_So_nextWish_3 0 rfl ?_
  refine zj_getI (z σ 70 12) f_So_90 d_So_nextWish_4 (tg_70 hE) (q_okE hE (by decide)) (q_z _ _ _) ?_
  obtain ⟨r1, h⟩ := h
  obtain ⟨h1, h2⟩ := h
  refine zj_icmp_ge 37 d_So_nextWish_7 (by decide) r1 (z_R _ _ _) (fun k2 => ?_) (fun k2 => ?_)
  · have h := h1 k2
    refine j_iconst (v := zI (-1)) d_So_nextWish_37 (by decide) ?_
    exact zj_iret d_So_nextWish_38 rfl (Nat.zero_le _) (Nat.zero_le _) h
  · have h := h2 k2
    refine j_aload_n d_So_nextWish_10 0 rfl ?_
    refine j_getR 78 f_So_27 d_So_nextWish_11 (tg_70 hE) (q_okE hE (by decide)) (rf_70_2 hE) (by decide) ?_
    refine j_aload_n d_So_nextWish_14 0 rfl ?_
    refine j_getR 83 f_So_43 d_So_nextWish_15 (tg_70 hE) (q_okE hE (by decide)) (rf_70_11 hE) (by decide) ?_
    refine j_iload_n d_So_nextWish_18 1 rfl ?_
    obtain ⟨c3, h⟩ := h
    refine zj_iald (z σ 83 x1.toNat) d_So_nextWish_19 (tg_83 hE) (q_okE hE (by decide)) c3 (by decide) (q_z _ _ _) ?_
    obtain ⟨c4, h⟩ := h
    refine zj_iald (z σ 78 (z σ 83 x1.toNat).toNat) d_So_nextWish_20 (tg_78 hE) (q_okE hE (by decide)) c4 (by decide) (q_z _ _ _) ?_
    obtain ⟨h1, h2⟩ := h
    refine zj_if_ne 31 d_So_nextWish_21 (by decide) (z_R _ _ _) (fun k5 => ?_) (fun k5 => ?_)
    · have h := h1 k5
      refine zj_iinc (L' := [(1, .int (zI (x1 + 1))), (0, .ref 70)]) (x1 + 1) d_So_nextWish_31 1 rfl (by omega) (by decide) rfl ?_
      refine j_goto 2 d_So_nextWish_34 (by decide) ?_
      exact j_sel [1, 0] rfl h
    · have h := h2 k5
      refine j_aload_n d_So_nextWish_24 0 rfl ?_
      refine j_getR 83 f_So_43 d_So_nextWish_25 (tg_70 hE) (q_okE hE (by decide)) (rf_70_11 hE) (by decide) ?_
      refine j_iload_n d_So_nextWish_28 1 rfl ?_
      refine zj_iald (z σ 83 x1.toNat) d_So_nextWish_29 (tg_83 hE) (q_okE hE (by decide)) c3 (by decide) (q_z _ _ _) ?_
      exact zj_iret d_So_nextWish_30 rfl (Nat.zero_le _) (Nat.zero_le _) h
set_option maxHeartbeats 2000000 in
theorem b_So_checkModel_0 {ω : q_W} {σ : q_H} {Q : q_R → q_H → Prop} {d mc ms : Nat}   (hE : q_E σ) (h : (J ω m_Cl_allHold d 0 0 0 0 0 [(0, .ref 71), (1, .ref 78)] [] σ (q_ki (fun v τ => J ω m_So_checkModel (d + 1) mc ms 0 0 11 [(0, .ref 70)] [.int (zI v)] τ Q)))) : J ω m_So_checkModel (d + 1) mc ms 0 0 0 [(0, .ref 70)] [] σ Q := by
  refine j_aload_n d_So_checkModel_0 0 rfl ?_
  refine j_getR 71 f_So_12 d_So_checkModel_1 (tg_70 hE) (q_okE hE (by decide)) (rf_70_0 hE) (by decide) ?_
  refine j_aload_n d_So_checkModel_4 0 rfl ?_
  refine j_getR 78 f_So_27 d_So_checkModel_5 (tg_70 hE) (q_okE hE (by decide)) (rf_70_2 hE) (by decide) ?_
  refine j_callV m_Cl_allHold [.ref 78] [] d 0 0 cV_So_169 d_So_checkModel_8 rfl rfl (tg_71 hE) (q_okE hE (by decide)) (Nat.le_of_ble_eq_true rfl) (Nat.le_refl _) (Nat.le_of_ble_eq_true rfl) (Nat.zero_le _) (Nat.zero_le _) h (fun v τ h => ?_) (fun x τ h => ?_)
  · obtain ⟨v, hv, e1, h⟩ := h; cases e1; exact j_sel [0] rfl h
  · obtain ⟨v, hv, e1, h⟩ := h; cases e1
set_option maxHeartbeats 2000000 in
theorem b_So_checkModel_11 {ω : q_W} {σ : q_H} {Q : q_R → q_H → Prop} {d mc ms : Nat} {y0 : Int}  (hE : q_E σ) (h : inR y0 ∧ q_imp (y0 ≠ 0) ((J ω m_So_checkModel (d + 1) mc ms 0 0 29 [(0, .ref 70), (1, .int (zI 0))] [] σ Q)) ∧ q_imp (y0 = 0) ((J ω m_So_checkModel (d + 1) mc ms 0 0 29 [(0, .ref 70), (1, .int (zI 0))] [] (zs σ 75 3 ((z σ 75 3) + 1)) Q))) : J ω m_So_checkModel (d + 1) mc ms 0 0 11 [(0, .ref 70)] [.int (zI y0)] σ Q := by
  obtain ⟨r1, h⟩ := h
  obtain ⟨h1, h2⟩ := h
  refine zj_if_ne 27 d_So_checkModel_11 (by decide) r1 (fun k2 => ?_) (fun k2 => ?_)
  · have h := h1 k2
    refine j_iconst (v := zI 0) d_So_checkModel_27 (by decide) ?_
    refine j_istore_n (L' := [(1, .int (zI 0)), (0, .ref 70)]) d_So_checkModel_28 (by decide) rfl ?_
    exact j_sel [1, 0] rfl h
  · have h := h2 k2
    refine j_aload_n d_So_checkModel_14 0 rfl ?_
    refine j_getR 75 f_So_21 d_So_checkModel_15 (tg_70 hE) (q_okE hE (by decide)) (rf_70_1 hE) (by decide) ?_
    refine j_dup d_So_checkModel_18 rfl ?_
    refine zj_getI (z σ 75 3) f_So_55 d_So_checkModel_19 (tg_75 hE) (q_okE hE (by decide)) (q_z _ _ _) ?_
    refine j_iconst (v := zI 1) d_So_checkModel_22 (by decide) ?_
    refine zj_iadd ((z σ 75 3) + 1) (by omega) d_So_checkModel_23 ?_
    refine zj_putI (g_So_55 _) d_So_checkModel_24 (tg_75 hE) (q_okE hE (by decide)) ?_
    refine j_iconst (v := zI 0) d_So_checkModel_27 (by decide) ?_
    refine j_istore_n (L' := [(1, .int (zI 0)), (0, .ref 70)]) d_So_checkModel_28 (by decide) rfl ?_
    exact j_sel [1, 0] rfl h
set_option maxHeartbeats 2000000 in
theorem b_So_checkModel_29 {ω : q_W} {σ : q_H} {Q : q_R → q_H → Prop} {d mc ms : Nat} {x1 : Int}  (hE : q_E σ) (h : inR x1 ∧ q_imp (x1 ≥ (z σ 70 12)) ((Q (.inl none) σ)) ∧ q_imp (x1 < (z σ 70 12)) ((0 ≤ x1 ∧ x1 < 12) ∧ (0 ≤ (z σ 83 x1.toNat) ∧ (z σ 83 x1.toNat) < 20480) ∧ q_imp ((z σ 78 (z σ 83 x1.toNat).toNat) ≠ (-1)) ((J ω m_So_checkModel (d + 1) mc ms 0 0 29 [(0, .ref 70), (1, .int (zI (x1 + 1)))] [] σ Q)) ∧ q_imp ((z σ 78 (z σ 83 x1.toNat).toNat) = (-1)) ((0 ≤ (zShr (z σ 83 x1.toNat) 1) ∧ (zShr (z σ 83 x1.toNat) 1) < 10240) ∧ q_imp ((z σ 79 (zShr (z σ 83 x1.toNat) 1).toNat) ≤ 0) ((J ω m_So_checkModel (d + 1) mc ms 0 0 29 [(0, .ref 70), (1, .int (zI (x1 + 1)))] [] σ Q)) ∧ q_imp (0 < (z σ 79 (zShr (z σ 83 x1.toNat) 1).toNat)) ((J ω m_So_trace d 0 0 0 0 0 [(0, .ref 70), (1, .int (zI 0)), (2, .int (zI 0))] [] (zs (zs (zs (zs σ 85 0 (zXor (z σ 83 x1.toNat) 1)) 70 16 1) 70 18 0) 84 (zShr (z σ 83 x1.toNat) 1).toNat 1) (q_kv (fun τ => J ω m_So_checkModel (d + 1) mc ms 0 0 112 [(0, .ref 70), (1, .int (zI x1))] [] τ Q))))))) : J ω m_So_checkModel (d + 1) mc ms 0 0 29 [(0, .ref 70), (1, .int (zI x1))] [] σ Q := by
  refine j_iload_n d_So_checkModel_29 1 rfl ?_
  refine j_aload_n d_So_checkModel_30 0 rfl ?_
  refine zj_getI (z σ 70 12) f_So_90 d_So_checkModel_31 (tg_70 hE) (q_okE hE (by decide)) (q_z _ _ _) ?_
  obtain ⟨r3, h⟩ := h
  obtain ⟨h1, h2⟩ := h
  refine zj_icmp_ge 148 d_So_checkModel_34 (by decide) r3 (z_R _ _ _) (fun k4 => ?_) (fun k4 => ?_)
  · have h := h1 k4
    exact j_vret d_So_checkModel_148 rfl (Nat.zero_le _) (Nat.zero_le _) h
  · have h := h2 k4
    refine j_aload_n d_So_checkModel_37 0 rfl ?_
    refine j_getR 78 f_So_27 d_So_checkModel_38 (tg_70 hE) (q_okE hE (by decide)) (rf_70_2 hE) (by decide) ?_
    refine j_aload_n d_So_checkModel_41 0 rfl ?_
    refine j_getR 83 f_So_43 d_So_checkModel_42 (tg_70 hE) (q_okE hE (by decide)) (rf_70_11 hE) (by decide) ?_
    refine j_iload_n d_So_checkModel_45 1 rfl ?_
    obtain ⟨c5, h⟩ := h
    refine zj_iald (z σ 83 x1.toNat) d_So_checkModel_46 (tg_83 hE) (q_okE hE (by decide)) c5 (by decide) (q_z _ _ _) ?_
    obtain ⟨c6, h⟩ := h
    refine zj_iald (z σ 78 (z σ 83 x1.toNat).toNat) d_So_checkModel_47 (tg_78 hE) (q_okE hE (by decide)) c6 (by decide) (q_z _ _ _) ?_
    refine j_iconst (v := zI (-1)) d_So_checkModel_48 (by decide) ?_
    obtain ⟨h1, h2⟩ := h
    refine zj_icmp_ne 142 d_So_checkModel_49 (by decide) (z_R _ _ _) ⟨by decide, by decide⟩ (fun k7 => ?_) (fun k7 => ?_)
    · have h := h1 k7
      refine zj_iinc (L' := [(1, .int (zI (x1 + 1))), (0, .ref 70)]) (x1 + 1) d_So_checkModel_142 1 rfl (by omega) (by decide) rfl ?_
      refine j_goto 29 d_So_checkModel_145 (by decide) ?_
      exact j_sel [1, 0] rfl h
    · have h := h2 k7
      refine j_aload_n d_So_checkModel_52 0 rfl ?_
      refine j_getR 79 f_So_31 d_So_checkModel_53 (tg_70 hE) (q_okE hE (by decide)) (rf_70_3 hE) (by decide) ?_
      refine j_aload_n d_So_checkModel_56 0 rfl ?_
      refine j_getR 83 f_So_43 d_So_checkModel_57 (tg_70 hE) (q_okE hE (by decide)) (rf_70_11 hE) (by decide) ?_
      refine j_iload_n d_So_checkModel_60 1 rfl ?_
      refine zj_iald (z σ 83 x1.toNat) d_So_checkModel_61 (tg_83 hE) (q_okE hE (by decide)) c5 (by decide) (q_z _ _ _) ?_
      refine j_iconst (v := zI 1) d_So_checkModel_62 (by decide) ?_
      refine zj_ishr d_So_checkModel_63 ?_
      obtain ⟨c8, h⟩ := h
      refine zj_iald (z σ 79 (zShr (z σ 83 x1.toNat) 1).toNat) d_So_checkModel_64 (tg_79 hE) (q_okE hE (by decide)) c8 (by decide) (q_z _ _ _) ?_
      obtain ⟨h1, h2⟩ := h
      refine zj_if_le 142 d_So_checkModel_65 (by decide) (z_R _ _ _) (fun k9 => ?_) (fun k9 => ?_)
      · have h := h1 k9
        refine zj_iinc (L' := [(1, .int (zI (x1 + 1))), (0, .ref 70)]) (x1 + 1) d_So_checkModel_142 1 rfl (by omega) (by decide) rfl ?_
        refine j_goto 29 d_So_checkModel_145 (by decide) ?_
        exact j_sel [1, 0] rfl h
      · have h := h2 k9
        refine j_aload_n d_So_checkModel_68 0 rfl ?_
        refine j_getR 85 f_So_49 d_So_checkModel_69 (tg_70 hE) (q_okE hE (by decide)) (rf_70_15 hE) (by decide) ?_
        refine j_iconst (v := zI 0) d_So_checkModel_72 (by decide) ?_
        refine j_aload_n d_So_checkModel_73 0 rfl ?_
        refine j_getR 83 f_So_43 d_So_checkModel_74 (tg_70 hE) (q_okE hE (by decide)) (rf_70_11 hE) (by decide) ?_
        refine j_iload_n d_So_checkModel_77 1 rfl ?_
        refine zj_iald (z σ 83 x1.toNat) d_So_checkModel_78 (tg_83 hE) (q_okE hE (by decide)) c5 (by decide) (q_z _ _ _) ?_
        refine j_iconst (v := zI 1) d_So_checkModel_79 (by decide) ?_
        refine zj_ixor d_So_checkModel_80 ?_
        refine zj_iast d_So_checkModel_81 (tg_85 hE) (q_okE hE (by decide)) ⟨by decide, by decide⟩ (by decide) ?_
        refine j_aload_n d_So_checkModel_82 0 rfl ?_
        refine j_iconst (v := zI 1) d_So_checkModel_83 (by decide) ?_
        refine zj_putI (g_So_152 _) d_So_checkModel_84 (tg_70 (zs_E hE)) (q_okE (zs_E hE) (by decide)) ?_
        refine j_aload_n d_So_checkModel_87 0 rfl ?_
        refine j_iconst (v := zI 0) d_So_checkModel_88 (by decide) ?_
        refine zj_putI (g_So_155 _) d_So_checkModel_89 (tg_70 (zs_E (zs_E hE))) (q_okE (zs_E (zs_E hE)) (by decide)) ?_
        refine j_aload_n d_So_checkModel_92 0 rfl ?_
        refine j_getR 84 f_So_46 d_So_checkModel_93 (tg_70 (zs_E (zs_E (zs_E hE)))) (q_okE (zs_E (zs_E (zs_E hE))) (by decide)) (rf_70_14 (zs_E (zs_E (zs_E hE)))) (by decide) ?_
        refine j_aload_n d_So_checkModel_96 0 rfl ?_
        refine j_getR 83 f_So_43 d_So_checkModel_97 (tg_70 (zs_E (zs_E (zs_E hE)))) (q_okE (zs_E (zs_E (zs_E hE))) (by decide)) (rf_70_11 (zs_E (zs_E (zs_E hE)))) (by decide) ?_
        refine j_iload_n d_So_checkModel_100 1 rfl ?_
        refine zj_iald (z σ 83 x1.toNat) d_So_checkModel_101 (tg_83 (zs_E (zs_E (zs_E hE)))) (q_okE (zs_E (zs_E (zs_E hE))) (by decide)) c5 (by decide) (Eq.trans (qs_o (by decide)) (Eq.trans (qs_o (by decide)) (Eq.trans (qs_o (by decide)) (q_z _ _ _)))) ?_
        refine j_iconst (v := zI 1) d_So_checkModel_102 (by decide) ?_
        refine zj_ishr d_So_checkModel_103 ?_
        refine j_iconst (v := zI 1) d_So_checkModel_104 (by decide) ?_
        refine zj_iast d_So_checkModel_105 (tg_84 (zs_E (zs_E (zs_E hE)))) (q_okE (zs_E (zs_E (zs_E hE))) (by decide)) c8 (by decide) ?_
        refine j_aload_n d_So_checkModel_106 0 rfl ?_
        refine j_iconst (v := zI 0) d_So_checkModel_107 (by decide) ?_
        refine j_iconst (v := zI 0) d_So_checkModel_108 (by decide) ?_
        refine j_callV m_So_trace [.int (zI 0), .int (zI 0)] [] d 0 0 cV_So_165 d_So_checkModel_109 rfl rfl (tg_70 (zs_E (zs_E (zs_E (zs_E hE))))) (q_okE (zs_E (zs_E (zs_E (zs_E hE)))) (by decide)) (Nat.le_of_ble_eq_true rfl) (Nat.le_refl _) (Nat.le_of_ble_eq_true rfl) (Nat.zero_le _) (Nat.zero_le _) h (fun v τ h => ?_) (fun x τ h => ?_)
        · obtain ⟨e1, h⟩ := h; cases e1; exact j_sel [0, 1] rfl h
        · obtain ⟨e1, h⟩ := h; cases e1
set_option maxHeartbeats 2000000 in
theorem b_So_checkModel_112 {ω : q_W} {σ : q_H} {Q : q_R → q_H → Prop} {d mc ms : Nat} {x1 : Int}  (hE : q_E σ) (h : (J ω m_Ch_check d 0 0 0 0 0 [(0, .ref 75), (1, .ref 72), (2, .ref 85), (3, .int (zI (z σ 70 16))), (4, .ref 86), (5, .int (zI (z σ 70 18)))] [] σ (q_kv (fun τ => J ω m_So_checkModel (d + 1) mc ms 0 0 142 [(0, .ref 70), (1, .int (zI x1))] [] τ Q)))) : J ω m_So_checkModel (d + 1) mc ms 0 0 112 [(0, .ref 70), (1, .int (zI x1))] [] σ Q := by
  refine j_aload_n d_So_checkModel_112 0 rfl ?_
  refine j_getR 75 f_So_21 d_So_checkModel_113 (tg_70 hE) (q_okE hE (by decide)) (rf_70_1 hE) (by decide) ?_
  refine j_aload_n d_So_checkModel_116 0 rfl ?_
  refine j_getR 71 f_So_12 d_So_checkModel_117 (tg_70 hE) (q_okE hE (by decide)) (rf_70_0 hE) (by decide) ?_
  refine j_getR 72 f_So_136 d_So_checkModel_120 (tg_71 hE) (q_okE hE (by decide)) (rf_71_0 hE) (by decide) ?_
  refine j_aload_n d_So_checkModel_123 0 rfl ?_
  refine j_getR 85 f_So_49 d_So_checkModel_124 (tg_70 hE) (q_okE hE (by decide)) (rf_70_15 hE) (by decide) ?_
  refine j_aload_n d_So_checkModel_127 0 rfl ?_
  refine zj_getI (z σ 70 16) f_So_152 d_So_checkModel_128 (tg_70 hE) (q_okE hE (by decide)) (q_z _ _ _) ?_
  refine j_aload_n d_So_checkModel_131 0 rfl ?_
  refine j_getR 86 f_So_52 d_So_checkModel_132 (tg_70 hE) (q_okE hE (by decide)) (rf_70_17 hE) (by decide) ?_
  refine j_aload_n d_So_checkModel_135 0 rfl ?_
  refine zj_getI (z σ 70 18) f_So_155 d_So_checkModel_136 (tg_70 hE) (q_okE hE (by decide)) (q_z _ _ _) ?_
  refine j_callV m_Ch_check [.ref 72, .ref 85, .int (zI (z σ 70 16)), .ref 86, .int (zI (z σ 70 18))] [] d 0 0 cV_So_148 d_So_checkModel_139 rfl rfl (tg_75 hE) (q_okE hE (by decide)) (Nat.le_of_ble_eq_true rfl) (Nat.le_refl _) (Nat.le_of_ble_eq_true rfl) (Nat.zero_le _) (Nat.zero_le _) h (fun v τ h => ?_) (fun x τ h => ?_)
  · obtain ⟨e1, h⟩ := h; cases e1; exact j_sel [0, 1] rfl h
  · obtain ⟨e1, h⟩ := h; cases e1
set_option maxHeartbeats 2000000 in
theorem b_So_checkModel_142 {ω : q_W} {σ : q_H} {Q : q_R → q_H → Prop} {d mc ms : Nat} {x1 : Int}  (hE : q_E σ) (h : (J ω m_So_checkModel (d + 1) mc ms 0 0 29 [(0, .ref 70), (1, .int (zI (x1 + 1)))] [] σ Q)) : J ω m_So_checkModel (d + 1) mc ms 0 0 142 [(0, .ref 70), (1, .int (zI x1))] [] σ Q := by
  refine zj_iinc (L' := [(1, .int (zI (x1 + 1))), (0, .ref 70)]) (x1 + 1) d_So_checkModel_142 1 rfl (by omega) (by decide) rfl ?_
  refine j_goto 29 d_So_checkModel_145 (by decide) ?_
  exact j_sel [1, 0] rfl h
set_option maxHeartbeats 2000000 in
theorem b_So_holds_0 {ω : q_W} {σ : q_H} {Q : q_R → q_H → Prop} {d mc ms : Nat} {x1 : Int}  (hE : q_E σ) (h : (0 ≤ x1 ∧ x1 < 20480) ∧ q_imp ((z σ 78 x1.toNat) ≠ 1) ((Q (.inl (some (.int (zI 0)))) σ)) ∧ q_imp ((z σ 78 x1.toNat) = 1) ((Q (.inl (some (.int (zI 1)))) σ))) : J ω m_So_holds d mc ms 0 0 0 [(0, .ref 70), (1, .int (zI x1))] [] σ Q := by
  refine j_aload_n d_So_holds_0 0 rfl ?_
  refine j_getR 78 f_So_27 d_So_holds_1 (tg_70 hE) (q_okE hE (by decide)) (rf_70_2 hE) (by decide) ?_
  refine j_iload_n d_So_holds_4 1 rfl ?_
  obtain ⟨c1, h⟩ := h
  refine zj_iald (z σ 78 x1.toNat) d_So_holds_5 (tg_78 hE) (q_okE hE (by decide)) c1 (by decide) (q_z _ _ _) ?_
  refine j_iconst (v := zI 1) d_So_holds_6 (by decide) ?_
  obtain ⟨h1, h2⟩ := h
  refine zj_icmp_ne 14 d_So_holds_7 (by decide) (z_R _ _ _) ⟨by decide, by decide⟩ (fun k2 => ?_) (fun k2 => ?_)
  · have h := h1 k2
    refine j_iconst (v := zI 0) d_So_holds_14 (by decide) ?_
    exact zj_zret d_So_holds_15 rfl (by decide) (Nat.zero_le _) (Nat.zero_le _) h
  · have h := h2 k2
    refine j_iconst (v := zI 1) d_So_holds_10 (by decide) ?_
    refine j_goto 15 d_So_holds_11 (by decide) ?_
    exact zj_zret d_So_holds_15 rfl (by decide) (Nat.zero_le _) (Nat.zero_le _) h
