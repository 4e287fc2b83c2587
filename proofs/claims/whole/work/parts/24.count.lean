theorem d_M_questions_0 : decode m_M_questions.2.1 0 = .ok (.aload_n 0, 1) := by decide +kernel
theorem d_M_questions_1 : decode m_M_questions.2.1 1 = .ok (.getfield 347, 3) := by decide +kernel
theorem d_M_questions_4 : decode m_M_questions.2.1 4 = .ok (.ifCond .ne 5, 3) := by decide +kernel
theorem d_M_questions_7 : decode m_M_questions.2.1 7 = .ok (.iconst 0, 1) := by decide +kernel
theorem d_M_questions_8 : decode m_M_questions.2.1 8 = .ok (.ireturn, 1) := by decide +kernel
theorem d_M_fails_0 : decode m_M_fails.2.1 0 = .ok (.aload_n 0, 1) := by decide +kernel
theorem d_M_fails_1 : decode m_M_fails.2.1 1 = .ok (.invokevirtual 402, 3) := by decide +kernel
theorem d_M_fails_4 : decode m_M_fails.2.1 4 = .ok (.ifCond .ne 9, 3) := by decide +kernel
theorem d_M_fails_7 : decode m_M_fails.2.1 7 = .ok (.aload_n 0, 1) := by decide +kernel
theorem d_M_fails_8 : decode m_M_fails.2.1 8 = .ok (.iconst 1, 1) := by decide +kernel
theorem d_M_fails_9 : decode m_M_fails.2.1 9 = .ok (.invokevirtual 147, 3) := by decide +kernel
theorem d_M_fails_12 : decode m_M_fails.2.1 12 = .ok (.ireturn, 1) := by decide +kernel
theorem d_M_failsAt_0 : decode m_M_failsAt.2.1 0 = .ok (.aload_n 0, 1) := by decide +kernel
theorem d_M_failsAt_1 : decode m_M_failsAt.2.1 1 = .ok (.invokevirtual 402, 3) := by decide +kernel
theorem d_M_failsAt_4 : decode m_M_failsAt.2.1 4 = .ok (.ifCond .ne 9, 3) := by decide +kernel
theorem d_M_failsAt_7 : decode m_M_failsAt.2.1 7 = .ok (.aload_n 0, 1) := by decide +kernel
theorem d_M_failsAt_8 : decode m_M_failsAt.2.1 8 = .ok (.iconst 1, 1) := by decide +kernel
theorem d_M_failsAt_9 : decode m_M_failsAt.2.1 9 = .ok (.invokevirtual 147, 3) := by decide +kernel
theorem d_M_failsAt_12 : decode m_M_failsAt.2.1 12 = .ok (.ireturn, 1) := by decide +kernel
theorem d_M_extreme_0 : decode m_M_extreme.2.1 0 = .ok (.aload_n 0, 1) := by decide +kernel
theorem d_M_extreme_1 : decode m_M_extreme.2.1 1 = .ok (.invokevirtual 402, 3) := by decide +kernel
theorem d_M_extreme_4 : decode m_M_extreme.2.1 4 = .ok (.ifCond .ne 9, 3) := by decide +kernel
theorem d_M_extreme_7 : decode m_M_extreme.2.1 7 = .ok (.aload_n 0, 1) := by decide +kernel
theorem d_M_extreme_8 : decode m_M_extreme.2.1 8 = .ok (.iconst 1, 1) := by decide +kernel
theorem d_M_extreme_9 : decode m_M_extreme.2.1 9 = .ok (.invokevirtual 147, 3) := by decide +kernel
theorem d_M_extreme_12 : decode m_M_extreme.2.1 12 = .ok (.ireturn, 1) := by decide +kernel
theorem d_M_differ_0 : decode m_M_differ.2.1 0 = .ok (.aload_n 0, 1) := by decide +kernel
theorem d_M_differ_1 : decode m_M_differ.2.1 1 = .ok (.invokevirtual 402, 3) := by decide +kernel
theorem d_M_differ_4 : decode m_M_differ.2.1 4 = .ok (.ifCond .ne 9, 3) := by decide +kernel
theorem d_M_differ_7 : decode m_M_differ.2.1 7 = .ok (.aload_n 0, 1) := by decide +kernel
theorem d_M_differ_8 : decode m_M_differ.2.1 8 = .ok (.iconst 1, 1) := by decide +kernel
theorem d_M_differ_9 : decode m_M_differ.2.1 9 = .ok (.invokevirtual 147, 3) := by decide +kernel
theorem d_M_differ_12 : decode m_M_differ.2.1 12 = .ok (.ireturn, 1) := by decide +kernel
theorem d_M_can_0 : decode m_M_can.2.1 0 = .ok (.aload_n 0, 1) := by decide +kernel
theorem d_M_can_1 : decode m_M_can.2.1 1 = .ok (.invokevirtual 402, 3) := by decide +kernel
theorem d_M_can_4 : decode m_M_can.2.1 4 = .ok (.ifCond .ne 9, 3) := by decide +kernel
theorem d_M_can_7 : decode m_M_can.2.1 7 = .ok (.aload_n 0, 1) := by decide +kernel
theorem d_M_can_8 : decode m_M_can.2.1 8 = .ok (.iconst 1, 1) := by decide +kernel
theorem d_M_can_9 : decode m_M_can.2.1 9 = .ok (.invokevirtual 147, 3) := by decide +kernel
theorem d_M_can_12 : decode m_M_can.2.1 12 = .ok (.ireturn, 1) := by decide +kernel
theorem d_M_ends_0 : decode m_M_ends.2.1 0 = .ok (.aload_n 0, 1) := by decide +kernel
theorem d_M_ends_1 : decode m_M_ends.2.1 1 = .ok (.invokevirtual 402, 3) := by decide +kernel
theorem d_M_ends_4 : decode m_M_ends.2.1 4 = .ok (.ifCond .ne 9, 3) := by decide +kernel
theorem d_M_ends_7 : decode m_M_ends.2.1 7 = .ok (.aload_n 0, 1) := by decide +kernel
theorem d_M_ends_8 : decode m_M_ends.2.1 8 = .ok (.iconst 1, 1) := by decide +kernel
theorem d_M_ends_9 : decode m_M_ends.2.1 9 = .ok (.invokevirtual 147, 3) := by decide +kernel
theorem d_M_ends_12 : decode m_M_ends.2.1 12 = .ok (.ireturn, 1) := by decide +kernel
theorem d_M_witness_0 : decode m_M_witness.2.1 0 = .ok (.aload_n 0, 1) := by decide +kernel
theorem d_M_witness_1 : decode m_M_witness.2.1 1 = .ok (.getfield 347, 3) := by decide +kernel
theorem d_M_witness_4 : decode m_M_witness.2.1 4 = .ok (.ifCond .ne 9, 3) := by decide +kernel
theorem d_M_witness_7 : decode m_M_witness.2.1 7 = .ok (.aload_n 0, 1) := by decide +kernel
theorem d_M_witness_8 : decode m_M_witness.2.1 8 = .ok (.iconst 1, 1) := by decide +kernel
theorem d_M_witness_9 : decode m_M_witness.2.1 9 = .ok (.invokevirtual 147, 3) := by decide +kernel
theorem d_M_witness_12 : decode m_M_witness.2.1 12 = .ok (.ireturn, 1) := by decide +kernel
theorem d_M_run_0 : decode m_M_run.2.1 0 = .ok (.aload_n 0, 1) := by decide +kernel
theorem d_M_run_1 : decode m_M_run.2.1 1 = .ok (.getfield 347, 3) := by decide +kernel
theorem d_M_run_4 : decode m_M_run.2.1 4 = .ok (.ifCond .ne 9, 3) := by decide +kernel
theorem d_M_run_7 : decode m_M_run.2.1 7 = .ok (.aload_n 0, 1) := by decide +kernel
theorem d_M_run_8 : decode m_M_run.2.1 8 = .ok (.iconst 1, 1) := by decide +kernel
theorem d_M_run_9 : decode m_M_run.2.1 9 = .ok (.invokevirtual 147, 3) := by decide +kernel
theorem d_M_run_12 : decode m_M_run.2.1 12 = .ok (.ireturn, 1) := by decide +kernel
theorem d_M_value_0 : decode m_M_value.2.1 0 = .ok (.aload_n 0, 1) := by decide +kernel
theorem d_M_value_1 : decode m_M_value.2.1 1 = .ok (.getfield 347, 3) := by decide +kernel
theorem d_M_value_4 : decode m_M_value.2.1 4 = .ok (.ifCond .ne 9, 3) := by decide +kernel
theorem d_M_value_7 : decode m_M_value.2.1 7 = .ok (.aload_n 0, 1) := by decide +kernel
theorem d_M_value_8 : decode m_M_value.2.1 8 = .ok (.iconst 1, 1) := by decide +kernel
theorem d_M_value_9 : decode m_M_value.2.1 9 = .ok (.invokevirtual 147, 3) := by decide +kernel
theorem d_M_value_12 : decode m_M_value.2.1 12 = .ok (.ireturn, 1) := by decide +kernel
theorem d_M_least_0 : decode m_M_least.2.1 0 = .ok (.aload_n 0, 1) := by decide +kernel
theorem d_M_least_1 : decode m_M_least.2.1 1 = .ok (.iload_n 1, 1) := by decide +kernel
theorem d_M_least_2 : decode m_M_least.2.1 2 = .ok (.iconst 1, 1) := by decide +kernel
theorem d_M_least_3 : decode m_M_least.2.1 3 = .ok (.invokevirtual 415, 3) := by decide +kernel
theorem d_M_least_6 : decode m_M_least.2.1 6 = .ok (.ireturn, 1) := by decide +kernel
theorem d_M_greatest_0 : decode m_M_greatest.2.1 0 = .ok (.aload_n 0, 1) := by decide +kernel
theorem d_M_greatest_1 : decode m_M_greatest.2.1 1 = .ok (.iload_n 1, 1) := by decide +kernel
theorem d_M_greatest_2 : decode m_M_greatest.2.1 2 = .ok (.iconst (-1), 1) := by decide +kernel
theorem d_M_greatest_3 : decode m_M_greatest.2.1 3 = .ok (.invokevirtual 415, 3) := by decide +kernel
theorem d_M_greatest_6 : decode m_M_greatest.2.1 6 = .ok (.ireturn, 1) := by decide +kernel
theorem d_M_set_0 : decode m_M_set.2.1 0 = .ok (.aload_n 0, 1) := by decide +kernel
theorem d_M_set_1 : decode m_M_set.2.1 1 = .ok (.getfield 347, 3) := by decide +kernel
theorem d_M_set_4 : decode m_M_set.2.1 4 = .ok (.ifCond .eq 15, 3) := by decide +kernel
theorem d_M_set_19 : decode m_M_set.2.1 19 = .ok (.aload_n 0, 1) := by decide +kernel
theorem d_M_set_20 : decode m_M_set.2.1 20 = .ok (.aload_n 0, 1) := by decide +kernel
theorem d_M_set_21 : decode m_M_set.2.1 21 = .ok (.getfield 347, 3) := by decide +kernel
theorem d_M_set_24 : decode m_M_set.2.1 24 = .ok (.ifCond .eq 7, 3) := by decide +kernel
theorem d_M_set_31 : decode m_M_set.2.1 31 = .ok (.iconst 1, 1) := by decide +kernel
theorem d_M_set_32 : decode m_M_set.2.1 32 = .ok (.putfield 141, 3) := by decide +kernel
theorem d_M_set_35 : decode m_M_set.2.1 35 = .ok (.return_, 1) := by decide +kernel
theorem d_M_take_0 : decode m_M_take.2.1 0 = .ok (.aload_n 0, 1) := by decide +kernel
theorem d_M_take_1 : decode m_M_take.2.1 1 = .ok (.getfield 347, 3) := by decide +kernel
theorem d_M_take_4 : decode m_M_take.2.1 4 = .ok (.ifCond .eq 10, 3) := by decide +kernel
theorem d_M_take_14 : decode m_M_take.2.1 14 = .ok (.aload_n 0, 1) := by decide +kernel
theorem d_M_take_15 : decode m_M_take.2.1 15 = .ok (.aload_n 0, 1) := by decide +kernel
theorem d_M_take_16 : decode m_M_take.2.1 16 = .ok (.getfield 347, 3) := by decide +kernel
theorem d_M_take_19 : decode m_M_take.2.1 19 = .ok (.ifCond .eq 7, 3) := by decide +kernel
theorem d_M_take_26 : decode m_M_take.2.1 26 = .ok (.iconst 1, 1) := by decide +kernel
theorem d_M_take_27 : decode m_M_take.2.1 27 = .ok (.putfield 141, 3) := by decide +kernel
theorem d_M_take_30 : decode m_M_take.2.1 30 = .ok (.return_, 1) := by decide +kernel
theorem d_So_mistakes_0 : decode m_So_mistakes.2.1 0 = .ok (.aload_n 0, 1) := by decide +kernel
theorem d_So_mistakes_1 : decode m_So_mistakes.2.1 1 = .ok (.getfield 21, 3) := by decide +kernel
theorem d_So_mistakes_4 : decode m_So_mistakes.2.1 4 = .ok (.getfield 55, 3) := by decide +kernel
theorem d_So_mistakes_7 : decode m_So_mistakes.2.1 7 = .ok (.aload_n 0, 1) := by decide +kernel
theorem d_So_mistakes_8 : decode m_So_mistakes.2.1 8 = .ok (.getfield 12, 3) := by decide +kernel
theorem d_So_mistakes_11 : decode m_So_mistakes.2.1 11 = .ok (.getfield 59, 3) := by decide +kernel
theorem d_So_mistakes_14 : decode m_So_mistakes.2.1 14 = .ok (.iadd, 1) := by decide +kernel
theorem d_So_mistakes_15 : decode m_So_mistakes.2.1 15 = .ok (.ireturn, 1) := by decide +kernel
theorem d_En_circuit_0 : decode m_En_circuit.2.1 0 = .ok (.aload_n 0, 1) := by decide +kernel
theorem d_En_circuit_1 : decode m_En_circuit.2.1 1 = .ok (.getfield 12, 3) := by decide +kernel
theorem d_En_circuit_4 : decode m_En_circuit.2.1 4 = .ok (.getfield 46, 3) := by decide +kernel
theorem d_En_circuit_7 : decode m_En_circuit.2.1 7 = .ok (.areturn, 1) := by decide +kernel
theorem d_In_mistakes_0 : decode m_In_mistakes.2.1 0 = .ok (.aload_n 0, 1) := by decide +kernel
theorem d_In_mistakes_1 : decode m_In_mistakes.2.1 1 = .ok (.getfield 50, 3) := by decide +kernel
theorem d_In_mistakes_4 : decode m_In_mistakes.2.1 4 = .ok (.aload_n 0, 1) := by decide +kernel
theorem d_In_mistakes_5 : decode m_In_mistakes.2.1 5 = .ok (.getfield 21, 3) := by decide +kernel
theorem d_In_mistakes_8 : decode m_In_mistakes.2.1 8 = .ok (.invokevirtual 54, 3) := by decide +kernel
theorem d_In_mistakes_11 : decode m_In_mistakes.2.1 11 = .ok (.iadd, 1) := by decide +kernel
theorem d_In_mistakes_12 : decode m_In_mistakes.2.1 12 = .ok (.aload_n 0, 1) := by decide +kernel
theorem d_In_mistakes_13 : decode m_In_mistakes.2.1 13 = .ok (.getfield 12, 3) := by decide +kernel
theorem d_In_mistakes_16 : decode m_In_mistakes.2.1 16 = .ok (.invokevirtual 58, 3) := by decide +kernel
theorem d_In_mistakes_19 : decode m_In_mistakes.2.1 19 = .ok (.getfield 62, 3) := by decide +kernel
theorem d_In_mistakes_22 : decode m_In_mistakes.2.1 22 = .ok (.iadd, 1) := by decide +kernel
theorem d_In_mistakes_23 : decode m_In_mistakes.2.1 23 = .ok (.ireturn, 1) := by decide +kernel
theorem d_H_count_0 : decode m_H_count.2.1 0 = .ok (.iload_n 1, 1) := by decide +kernel
theorem d_H_count_1 : decode m_H_count.2.1 1 = .ok (.tableswitch 181 0 9 #[55, 63, 68, 73, 92, 111, 130, 149, 157, 173], 55) := by decide +kernel
theorem d_H_count_56 : decode m_H_count.2.1 56 = .ok (.aload_n 0, 1) := by decide +kernel
theorem d_H_count_57 : decode m_H_count.2.1 57 = .ok (.getfield 10, 3) := by decide +kernel
theorem d_H_count_60 : decode m_H_count.2.1 60 = .ok (.getfield 55, 3) := by decide +kernel
theorem d_H_count_63 : decode m_H_count.2.1 63 = .ok (.ireturn, 1) := by decide +kernel
theorem d_H_count_64 : decode m_H_count.2.1 64 = .ok (.aload_n 0, 1) := by decide +kernel
theorem d_H_count_65 : decode m_H_count.2.1 65 = .ok (.getfield 89, 3) := by decide +kernel
theorem d_H_count_68 : decode m_H_count.2.1 68 = .ok (.ireturn, 1) := by decide +kernel
theorem d_H_count_69 : decode m_H_count.2.1 69 = .ok (.aload_n 0, 1) := by decide +kernel
theorem d_H_count_70 : decode m_H_count.2.1 70 = .ok (.getfield 33, 3) := by decide +kernel
theorem d_H_count_73 : decode m_H_count.2.1 73 = .ok (.ireturn, 1) := by decide +kernel
theorem d_H_count_74 : decode m_H_count.2.1 74 = .ok (.aload_n 0, 1) := by decide +kernel
theorem d_H_count_75 : decode m_H_count.2.1 75 = .ok (.getfield 94, 3) := by decide +kernel
theorem d_H_count_78 : decode m_H_count.2.1 78 = .ok (.ifCond .eq 13, 3) := by decide +kernel
theorem d_H_count_81 : decode m_H_count.2.1 81 = .ok (.aload_n 0, 1) := by decide +kernel
theorem d_H_count_82 : decode m_H_count.2.1 82 = .ok (.getfield 26, 3) := by decide +kernel
theorem d_H_count_85 : decode m_H_count.2.1 85 = .ok (.getfield 187, 3) := by decide +kernel
theorem d_H_count_88 : decode m_H_count.2.1 88 = .ok (.goto 4, 3) := by decide +kernel
theorem d_H_count_91 : decode m_H_count.2.1 91 = .ok (.iconst 0, 1) := by decide +kernel
theorem d_H_count_92 : decode m_H_count.2.1 92 = .ok (.ireturn, 1) := by decide +kernel
theorem d_H_count_93 : decode m_H_count.2.1 93 = .ok (.aload_n 0, 1) := by decide +kernel
theorem d_H_count_94 : decode m_H_count.2.1 94 = .ok (.getfield 94, 3) := by decide +kernel
theorem d_H_count_97 : decode m_H_count.2.1 97 = .ok (.ifCond .eq 13, 3) := by decide +kernel
theorem d_H_count_100 : decode m_H_count.2.1 100 = .ok (.aload_n 0, 1) := by decide +kernel
theorem d_H_count_101 : decode m_H_count.2.1 101 = .ok (.getfield 26, 3) := by decide +kernel
theorem d_H_count_104 : decode m_H_count.2.1 104 = .ok (.getfield 209, 3) := by decide +kernel
theorem d_H_count_107 : decode m_H_count.2.1 107 = .ok (.goto 4, 3) := by decide +kernel
theorem d_H_count_110 : decode m_H_count.2.1 110 = .ok (.iconst 0, 1) := by decide +kernel
theorem d_H_count_111 : decode m_H_count.2.1 111 = .ok (.ireturn, 1) := by decide +kernel
theorem d_H_count_112 : decode m_H_count.2.1 112 = .ok (.aload_n 0, 1) := by decide +kernel
theorem d_H_count_113 : decode m_H_count.2.1 113 = .ok (.getfield 94, 3) := by decide +kernel
theorem d_H_count_116 : decode m_H_count.2.1 116 = .ok (.ifCond .eq 13, 3) := by decide +kernel
theorem d_H_count_119 : decode m_H_count.2.1 119 = .ok (.aload_n 0, 1) := by decide +kernel
theorem d_H_count_120 : decode m_H_count.2.1 120 = .ok (.getfield 26, 3) := by decide +kernel
theorem d_H_count_123 : decode m_H_count.2.1 123 = .ok (.getfield 120, 3) := by decide +kernel
theorem d_H_count_126 : decode m_H_count.2.1 126 = .ok (.goto 4, 3) := by decide +kernel
theorem d_H_count_129 : decode m_H_count.2.1 129 = .ok (.iconst 0, 1) := by decide +kernel
theorem d_H_count_130 : decode m_H_count.2.1 130 = .ok (.ireturn, 1) := by decide +kernel
theorem d_H_count_131 : decode m_H_count.2.1 131 = .ok (.aload_n 0, 1) := by decide +kernel
theorem d_H_count_132 : decode m_H_count.2.1 132 = .ok (.getfield 94, 3) := by decide +kernel
theorem d_H_count_135 : decode m_H_count.2.1 135 = .ok (.ifCond .eq 13, 3) := by decide +kernel
theorem d_H_count_138 : decode m_H_count.2.1 138 = .ok (.aload_n 0, 1) := by decide +kernel
theorem d_H_count_139 : decode m_H_count.2.1 139 = .ok (.getfield 26, 3) := by decide +kernel
theorem d_H_count_142 : decode m_H_count.2.1 142 = .ok (.getfield 211, 3) := by decide +kernel
theorem d_H_count_145 : decode m_H_count.2.1 145 = .ok (.goto 4, 3) := by decide +kernel
theorem d_H_count_148 : decode m_H_count.2.1 148 = .ok (.iconst 0, 1) := by decide +kernel
theorem d_H_count_149 : decode m_H_count.2.1 149 = .ok (.ireturn, 1) := by decide +kernel
theorem d_H_count_150 : decode m_H_count.2.1 150 = .ok (.aload_n 0, 1) := by decide +kernel
theorem d_H_count_151 : decode m_H_count.2.1 151 = .ok (.getfield 44, 3) := by decide +kernel
theorem d_H_count_154 : decode m_H_count.2.1 154 = .ok (.getfield 157, 3) := by decide +kernel
theorem d_H_count_157 : decode m_H_count.2.1 157 = .ok (.ireturn, 1) := by decide +kernel
theorem d_H_count_158 : decode m_H_count.2.1 158 = .ok (.aload_n 0, 1) := by decide +kernel
theorem d_H_count_159 : decode m_H_count.2.1 159 = .ok (.getfield 51, 3) := by decide +kernel
theorem d_H_count_162 : decode m_H_count.2.1 162 = .ok (.getfield 184, 3) := by decide +kernel
theorem d_H_count_165 : decode m_H_count.2.1 165 = .ok (.ifCond .eq 7, 3) := by decide +kernel
theorem d_H_count_168 : decode m_H_count.2.1 168 = .ok (.iconst 1, 1) := by decide +kernel
theorem d_H_count_169 : decode m_H_count.2.1 169 = .ok (.goto 4, 3) := by decide +kernel
theorem d_H_count_172 : decode m_H_count.2.1 172 = .ok (.iconst 0, 1) := by decide +kernel
theorem d_H_count_173 : decode m_H_count.2.1 173 = .ok (.ireturn, 1) := by decide +kernel
theorem d_H_count_174 : decode m_H_count.2.1 174 = .ok (.aload_n 0, 1) := by decide +kernel
theorem d_H_count_175 : decode m_H_count.2.1 175 = .ok (.getfield 51, 3) := by decide +kernel
theorem d_H_count_178 : decode m_H_count.2.1 178 = .ok (.invokevirtual 214, 3) := by decide +kernel
theorem d_H_count_181 : decode m_H_count.2.1 181 = .ok (.ireturn, 1) := by decide +kernel
theorem d_H_count_182 : decode m_H_count.2.1 182 = .ok (.iconst (-1), 1) := by decide +kernel
theorem d_H_count_183 : decode m_H_count.2.1 183 = .ok (.ireturn, 1) := by decide +kernel
theorem d_M_count_0 : decode m_M_count.2.1 0 = .ok (.aload_n 0, 1) := by decide +kernel
theorem d_M_count_1 : decode m_M_count.2.1 1 = .ok (.iconst 0, 1) := by decide +kernel
theorem d_M_count_2 : decode m_M_count.2.1 2 = .ok (.putfield 141, 3) := by decide +kernel
theorem d_M_count_5 : decode m_M_count.2.1 5 = .ok (.iload_n 1, 1) := by decide +kernel
theorem d_M_count_6 : decode m_M_count.2.1 6 = .ok (.tableswitch 109 0 9 #[54, 59, 64, 69, 74, 79, 84, 89, 94, 107], 54) := by decide +kernel
theorem d_M_count_60 : decode m_M_count.2.1 60 = .ok (.aload_n 0, 1) := by decide +kernel
theorem d_M_count_61 : decode m_M_count.2.1 61 = .ok (.getfield 144, 3) := by decide +kernel
theorem d_M_count_64 : decode m_M_count.2.1 64 = .ok (.ireturn, 1) := by decide +kernel
theorem d_M_count_65 : decode m_M_count.2.1 65 = .ok (.aload_n 0, 1) := by decide +kernel
theorem d_M_count_66 : decode m_M_count.2.1 66 = .ok (.getfield 330, 3) := by decide +kernel
theorem d_M_count_69 : decode m_M_count.2.1 69 = .ok (.ireturn, 1) := by decide +kernel
theorem d_M_count_70 : decode m_M_count.2.1 70 = .ok (.aload_n 0, 1) := by decide +kernel
theorem d_M_count_71 : decode m_M_count.2.1 71 = .ok (.getfield 101, 3) := by decide +kernel
theorem d_M_count_74 : decode m_M_count.2.1 74 = .ok (.ireturn, 1) := by decide +kernel
theorem d_M_count_75 : decode m_M_count.2.1 75 = .ok (.aload_n 0, 1) := by decide +kernel
theorem d_M_count_76 : decode m_M_count.2.1 76 = .ok (.getfield 357, 3) := by decide +kernel
theorem d_M_count_79 : decode m_M_count.2.1 79 = .ok (.ireturn, 1) := by decide +kernel
theorem d_M_count_80 : decode m_M_count.2.1 80 = .ok (.aload_n 0, 1) := by decide +kernel
theorem d_M_count_81 : decode m_M_count.2.1 81 = .ok (.getfield 360, 3) := by decide +kernel
theorem d_M_count_84 : decode m_M_count.2.1 84 = .ok (.ireturn, 1) := by decide +kernel
theorem d_M_count_85 : decode m_M_count.2.1 85 = .ok (.aload_n 0, 1) := by decide +kernel
theorem d_M_count_86 : decode m_M_count.2.1 86 = .ok (.getfield 363, 3) := by decide +kernel
theorem d_M_count_89 : decode m_M_count.2.1 89 = .ok (.ireturn, 1) := by decide +kernel
theorem d_M_count_90 : decode m_M_count.2.1 90 = .ok (.aload_n 0, 1) := by decide +kernel
theorem d_M_count_91 : decode m_M_count.2.1 91 = .ok (.getfield 354, 3) := by decide +kernel
theorem d_M_count_94 : decode m_M_count.2.1 94 = .ok (.ireturn, 1) := by decide +kernel
theorem d_M_count_95 : decode m_M_count.2.1 95 = .ok (.aload_n 0, 1) := by decide +kernel
theorem d_M_count_96 : decode m_M_count.2.1 96 = .ok (.getfield 132, 3) := by decide +kernel
theorem d_M_count_99 : decode m_M_count.2.1 99 = .ok (.ireturn, 1) := by decide +kernel
theorem d_M_count_100 : decode m_M_count.2.1 100 = .ok (.aload_n 0, 1) := by decide +kernel
theorem d_M_count_101 : decode m_M_count.2.1 101 = .ok (.getfield 129, 3) := by decide +kernel
theorem d_M_count_104 : decode m_M_count.2.1 104 = .ok (.ifCond .lt 7, 3) := by decide +kernel
theorem d_M_count_107 : decode m_M_count.2.1 107 = .ok (.iconst 1, 1) := by decide +kernel
theorem d_M_count_108 : decode m_M_count.2.1 108 = .ok (.goto 4, 3) := by decide +kernel
theorem d_M_count_111 : decode m_M_count.2.1 111 = .ok (.iconst 0, 1) := by decide +kernel
theorem d_M_count_112 : decode m_M_count.2.1 112 = .ok (.ireturn, 1) := by decide +kernel
theorem d_M_count_113 : decode m_M_count.2.1 113 = .ok (.iconst 0, 1) := by decide +kernel
theorem d_M_count_114 : decode m_M_count.2.1 114 = .ok (.ireturn, 1) := by decide +kernel
theorem d_M_count_115 : decode m_M_count.2.1 115 = .ok (.iconst (-1), 1) := by decide +kernel
theorem d_M_count_116 : decode m_M_count.2.1 116 = .ok (.ireturn, 1) := by decide +kernel
theorem f_M_347 : q_F "ProofHallModel" 347 12 31 "Z" := ⟨_, _, _, rfl, by decide, rfl, Or.inl (List.mem_of_getElem? (i := 1563) (by decide +kernel))⟩
theorem cd_M_questions : q_cd m_M_questions := ⟨by decide +kernel, List.mem_of_getElem? (i := 17) (by decide +kernel), Or.inl ⟨rfl, List.mem_of_getElem? (i := 1959) (by decide +kernel)⟩⟩
theorem cV_M_402 : q_CV "ProofHallModel" 402 12 m_M_questions 0 := ⟨⟨cd_M_questions, by decide, by decide, by decide, by decide +kernel⟩, Or.inl (List.mem_of_getElem? (i := 1956) (by decide +kernel)), List.mem_of_getElem? (i := 1958) (by decide +kernel), _, _, _, rfl, by decide +kernel⟩
theorem cd_M_extreme : q_cd m_M_extreme := ⟨by decide +kernel, List.mem_of_getElem? (i := 17) (by decide +kernel), Or.inl ⟨rfl, List.mem_of_getElem? (i := 2005) (by decide +kernel)⟩⟩
theorem cV_M_415 : q_CV "ProofHallModel" 415 12 m_M_extreme 2 := ⟨⟨cd_M_extreme, by decide, by decide, by decide, by decide +kernel⟩, Or.inl (List.mem_of_getElem? (i := 2002) (by decide +kernel)), List.mem_of_getElem? (i := 2004) (by decide +kernel), _, _, _, rfl, by decide +kernel⟩
theorem f_So_21 : q_FR "ProofHall$Solver" 21 11 1 := ⟨"LProofHall$Checker;", by decide, ⟨_, _, _, rfl, by decide, rfl, Or.inl (List.mem_of_getElem? (i := 522) (by decide +kernel))⟩⟩
theorem f_So_55 : q_F "ProofHall$Solver" 55 10 3 "I" := ⟨_, _, _, rfl, by decide, rfl, Or.inl (List.mem_of_getElem? (i := 510) (by decide +kernel))⟩
theorem f_So_12 : q_FR "ProofHall$Solver" 12 11 0 := ⟨"LProofHall$Clauses;", by decide, ⟨_, _, _, rfl, by decide, rfl, Or.inl (List.mem_of_getElem? (i := 521) (by decide +kernel))⟩⟩
theorem f_So_59 : q_F "ProofHall$Solver" 59 9 4 "I" := ⟨_, _, _, rfl, by decide, rfl, Or.inl (List.mem_of_getElem? (i := 488) (by decide +kernel))⟩
theorem f_En_12 : q_FR "ProofHall$Encoder" 12 7 0 := ⟨"LProofHall$Words;", by decide, ⟨_, _, _, rfl, by decide, rfl, Or.inl (List.mem_of_getElem? (i := 414) (by decide +kernel))⟩⟩
theorem f_En_46 : q_FR "ProofHall$Encoder" 46 6 0 := ⟨"LProofHall$Circuit;", by decide, ⟨_, _, _, rfl, by decide, rfl, Or.inl (List.mem_of_getElem? (i := 400) (by decide +kernel))⟩⟩
theorem f_In_50 : q_F "ProofHall$Inquiry" 50 8 10 "I" := ⟨_, _, _, rfl, by decide, rfl, Or.inl (List.mem_of_getElem? (i := 595) (by decide +kernel))⟩
theorem f_In_21 : q_FR "ProofHall$Inquiry" 21 8 1 := ⟨"LProofHall$Solver;", by decide, ⟨_, _, _, rfl, by decide, rfl, Or.inl (List.mem_of_getElem? (i := 583) (by decide +kernel))⟩⟩
theorem cd_So_mistakes : q_cd m_So_mistakes := ⟨by decide +kernel, List.mem_of_getElem? (i := 14) (by decide +kernel), Or.inl ⟨rfl, List.mem_of_getElem? (i := 661) (by decide +kernel)⟩⟩
theorem cV_In_54 : q_CV "ProofHall$Inquiry" 54 11 m_So_mistakes 0 := ⟨⟨cd_So_mistakes, by decide, by decide, by decide, by decide +kernel⟩, Or.inl (List.mem_of_getElem? (i := 658) (by decide +kernel)), List.mem_of_getElem? (i := 659) (by decide +kernel), _, _, _, rfl, List.mem_append_right _ (List.mem_of_getElem? (i := 660) (by decide +kernel))⟩
theorem f_In_12 : q_FR "ProofHall$Inquiry" 12 8 0 := ⟨"LProofHall$Encoder;", by decide, ⟨_, _, _, rfl, by decide, rfl, Or.inl (List.mem_of_getElem? (i := 581) (by decide +kernel))⟩⟩
theorem cd_En_circuit : q_cd m_En_circuit := ⟨by decide +kernel, List.mem_of_getElem? (i := 11) (by decide +kernel), Or.inl ⟨rfl, List.mem_of_getElem? (i := 665) (by decide +kernel)⟩⟩
theorem cV_In_58 : q_CV "ProofHall$Inquiry" 58 7 m_En_circuit 0 := ⟨⟨cd_En_circuit, by decide, by decide, by decide, by decide +kernel⟩, Or.inl (List.mem_of_getElem? (i := 662) (by decide +kernel)), List.mem_of_getElem? (i := 663) (by decide +kernel), _, _, _, rfl, List.mem_append_right _ (List.mem_of_getElem? (i := 664) (by decide +kernel))⟩
theorem f_In_62 : q_F "ProofHall$Inquiry" 62 5 8 "I" := ⟨_, _, _, rfl, by decide, rfl, Or.inl (List.mem_of_getElem? (i := 378) (by decide +kernel))⟩
theorem f_H_89 : q_F "ProofHall" 89 0 5 "I" := ⟨_, _, _, rfl, by decide, rfl, Or.inl (List.mem_of_getElem? (i := 624) (by decide +kernel))⟩
theorem f_H_33 : q_F "ProofHall" 33 0 6 "I" := ⟨_, _, _, rfl, by decide, rfl, Or.inl (List.mem_of_getElem? (i := 625) (by decide +kernel))⟩
theorem f_H_26 : q_FR "ProofHall" 26 0 2 := ⟨"LProofHall$Program;", by decide, ⟨_, _, _, rfl, by decide, rfl, Or.inl (List.mem_of_getElem? (i := 621) (by decide +kernel))⟩⟩
theorem f_H_187 : q_F "ProofHall" 187 2 0 "I" := ⟨_, _, _, rfl, by decide, rfl, Or.inl (List.mem_of_getElem? (i := 198) (by decide +kernel))⟩
theorem f_H_209 : q_F "ProofHall" 209 2 4 "I" := ⟨_, _, _, rfl, by decide, rfl, Or.inl (List.mem_of_getElem? (i := 209) (by decide +kernel))⟩
theorem f_H_120 : q_F "ProofHall" 120 2 7 "I" := ⟨_, _, _, rfl, by decide, rfl, Or.inl (List.mem_of_getElem? (i := 218) (by decide +kernel))⟩
theorem f_H_211 : q_F "ProofHall" 211 2 8 "I" := ⟨_, _, _, rfl, by decide, rfl, Or.inl (List.mem_of_getElem? (i := 222) (by decide +kernel))⟩
theorem f_H_44 : q_FR "ProofHall" 44 0 8 := ⟨"LProofHall$Machine;", by decide, ⟨_, _, _, rfl, by decide, rfl, Or.inl (List.mem_of_getElem? (i := 627) (by decide +kernel))⟩⟩
theorem f_H_157 : q_F "ProofHall" 157 4 1 "I" := ⟨_, _, _, rfl, by decide, rfl, Or.inl (List.mem_of_getElem? (i := 316) (by decide +kernel))⟩
theorem f_H_51 : q_FR "ProofHall" 51 0 9 := ⟨"LProofHall$Inquiry;", by decide, ⟨_, _, _, rfl, by decide, rfl, Or.inl (List.mem_of_getElem? (i := 628) (by decide +kernel))⟩⟩
theorem f_H_184 : q_F "ProofHall" 184 8 5 "Z" := ⟨_, _, _, rfl, by decide, rfl, Or.inl (List.mem_of_getElem? (i := 590) (by decide +kernel))⟩
theorem cd_In_mistakes : q_cd m_In_mistakes := ⟨by decide +kernel, List.mem_of_getElem? (i := 10) (by decide +kernel), Or.inl ⟨rfl, List.mem_of_getElem? (i := 657) (by decide +kernel)⟩⟩
theorem cV_H_214 : q_CV "ProofHall" 214 8 m_In_mistakes 0 := ⟨⟨cd_In_mistakes, by decide, by decide, by decide, by decide +kernel⟩, Or.inl (List.mem_of_getElem? (i := 654) (by decide +kernel)), List.mem_of_getElem? (i := 655) (by decide +kernel), _, _, _, rfl, List.mem_append_right _ (List.mem_of_getElem? (i := 656) (by decide +kernel))⟩
theorem f_M_330 : q_F "ProofHallModel" 330 12 50 "I" := ⟨_, _, _, rfl, by decide, rfl, Or.inl (List.mem_of_getElem? (i := 1581) (by decide +kernel))⟩
theorem f_M_101 : q_F "ProofHallModel" 101 12 51 "I" := ⟨_, _, _, rfl, by decide, rfl, Or.inl (List.mem_of_getElem? (i := 1582) (by decide +kernel))⟩
theorem f_M_357 : q_F "ProofHallModel" 357 12 26 "I" := ⟨_, _, _, rfl, by decide, rfl, Or.inl (List.mem_of_getElem? (i := 1558) (by decide +kernel))⟩
theorem f_M_360 : q_F "ProofHallModel" 360 12 27 "I" := ⟨_, _, _, rfl, by decide, rfl, Or.inl (List.mem_of_getElem? (i := 1559) (by decide +kernel))⟩
theorem f_M_363 : q_F "ProofHallModel" 363 12 28 "I" := ⟨_, _, _, rfl, by decide, rfl, Or.inl (List.mem_of_getElem? (i := 1560) (by decide +kernel))⟩
theorem f_M_354 : q_F "ProofHallModel" 354 12 30 "I" := ⟨_, _, _, rfl, by decide, rfl, Or.inl (List.mem_of_getElem? (i := 1562) (by decide +kernel))⟩
theorem f_M_132 : q_F "ProofHallModel" 132 12 63 "I" := ⟨_, _, _, rfl, by decide, rfl, Or.inl (List.mem_of_getElem? (i := 1594) (by decide +kernel))⟩
theorem f_M_129 : q_F "ProofHallModel" 129 12 62 "I" := ⟨_, _, _, rfl, by decide, rfl, Or.inl (List.mem_of_getElem? (i := 1593) (by decide +kernel))⟩
theorem n_M_questions {ω : q_W} {σ : q_H} (hE : q_E σ) (hb : q_i σ 94 31 = 0) : J ω m_M_questions 0 0 0 0 0 0 [(0, .ref 94)] [] σ (fun r τ => r = .inl (some (.int 0)) ∧ τ = σ) := by
  refine j_aload_n d_M_questions_0 0 rfl ?_
  refine k_getZ (0) f_M_347 d_M_questions_1 (tg_94 hE) (q_okE hE (by decide)) (hb) ?_
  refine j_if_ne 9 d_M_questions_4 (by decide) (fun h => absurd h (by decide)) (fun _ => ?_)
  refine j_iconst (v := 0) d_M_questions_7 (by decide) ?_
  exact j_nret d_M_questions_8 rfl (by decide) (by decide) (by decide) ⟨rfl, rfl⟩
theorem n_M_fails {ω : q_W} {σ : q_H} (hE : q_E σ) (hb : q_i σ 94 31 = 0) : J ω m_M_fails 1 0 0 0 0 0 [(0, .ref 94)] [] σ (fun r τ => r = .inl (some (.int 0)) ∧ τ = q_seti σ 94 0 1) := by
  refine j_aload_n d_M_fails_0 0 rfl ?_
  refine j_callV m_M_questions [] [] 0 0 0 cV_M_402 d_M_fails_1 rfl rfl (tg_94 hE) (q_okE hE (by decide)) (Nat.le_of_ble_eq_true rfl) (Nat.le_of_ble_eq_true rfl) (Nat.le_of_ble_eq_true rfl) (Nat.le_of_ble_eq_true rfl) (Nat.le_of_ble_eq_true rfl) (n_M_questions (σ := σ) hE hb) (fun v τ h => ?_) (fun x τ h => absurd h.1 (by simp))
  obtain ⟨h1, hτ⟩ := h
  cases h1
  rw [hτ]
  refine j_if_ne 13 d_M_fails_4 (by decide) (fun h => absurd h (by decide)) (fun _ => ?_)
  refine j_aload_n d_M_fails_7 0 rfl ?_
  refine j_iconst (v := 1) d_M_fails_8 (by decide) ?_
  refine j_callV m_M_no [.int 1] [] 0 0 0 cV_M_147 d_M_fails_9 rfl rfl (tg_94 hE) (q_okE hE (by decide)) (Nat.le_of_ble_eq_true rfl) (Nat.le_of_ble_eq_true rfl) (Nat.le_of_ble_eq_true rfl) (Nat.le_of_ble_eq_true rfl) (Nat.le_of_ble_eq_true rfl) (c_M_no (σ := σ) hE 1) (fun v τ h => ?_) (fun x τ h => absurd h.1 (by simp))
  obtain ⟨h1, hτ⟩ := h
  cases h1
  rw [hτ]
  exact j_iret d_M_fails_12 rfl (by decide) (by decide) ⟨rfl, rfl⟩
theorem n_M_failsAt {ω : q_W} {σ : q_H} (hE : q_E σ) (hb : q_i σ 94 31 = 0) (a : Int32) : J ω m_M_failsAt 1 0 0 0 0 0 [(0, .ref 94), (1, .int a)] [] σ (fun r τ => r = .inl (some (.int 0)) ∧ τ = q_seti σ 94 0 1) := by
  refine j_aload_n d_M_failsAt_0 0 rfl ?_
  refine j_callV m_M_questions [] [] 0 0 0 cV_M_402 d_M_failsAt_1 rfl rfl (tg_94 hE) (q_okE hE (by decide)) (Nat.le_of_ble_eq_true rfl) (Nat.le_of_ble_eq_true rfl) (Nat.le_of_ble_eq_true rfl) (Nat.le_of_ble_eq_true rfl) (Nat.le_of_ble_eq_true rfl) (n_M_questions (σ := σ) hE hb) (fun v τ h => ?_) (fun x τ h => absurd h.1 (by simp))
  obtain ⟨h1, hτ⟩ := h
  cases h1
  rw [hτ]
  refine j_if_ne 13 d_M_failsAt_4 (by decide) (fun h => absurd h (by decide)) (fun _ => ?_)
  refine j_aload_n d_M_failsAt_7 0 rfl ?_
  refine j_iconst (v := 1) d_M_failsAt_8 (by decide) ?_
  refine j_callV m_M_no [.int 1] [] 0 0 0 cV_M_147 d_M_failsAt_9 rfl rfl (tg_94 hE) (q_okE hE (by decide)) (Nat.le_of_ble_eq_true rfl) (Nat.le_of_ble_eq_true rfl) (Nat.le_of_ble_eq_true rfl) (Nat.le_of_ble_eq_true rfl) (Nat.le_of_ble_eq_true rfl) (c_M_no (σ := σ) hE 1) (fun v τ h => ?_) (fun x τ h => absurd h.1 (by simp))
  obtain ⟨h1, hτ⟩ := h
  cases h1
  rw [hτ]
  exact j_iret d_M_failsAt_12 rfl (by decide) (by decide) ⟨rfl, rfl⟩
theorem n_M_extreme {ω : q_W} {σ : q_H} (hE : q_E σ) (hb : q_i σ 94 31 = 0) (a b : Int32) : J ω m_M_extreme 1 0 0 0 0 0 [(0, .ref 94), (1, .int a), (2, .int b)] [] σ (fun r τ => r = .inl (some (.int 0)) ∧ τ = q_seti σ 94 0 1) := by
  refine j_aload_n d_M_extreme_0 0 rfl ?_
  refine j_callV m_M_questions [] [] 0 0 0 cV_M_402 d_M_extreme_1 rfl rfl (tg_94 hE) (q_okE hE (by decide)) (Nat.le_of_ble_eq_true rfl) (Nat.le_of_ble_eq_true rfl) (Nat.le_of_ble_eq_true rfl) (Nat.le_of_ble_eq_true rfl) (Nat.le_of_ble_eq_true rfl) (n_M_questions (σ := σ) hE hb) (fun v τ h => ?_) (fun x τ h => absurd h.1 (by simp))
  obtain ⟨h1, hτ⟩ := h
  cases h1
  rw [hτ]
  refine j_if_ne 13 d_M_extreme_4 (by decide) (fun h => absurd h (by decide)) (fun _ => ?_)
  refine j_aload_n d_M_extreme_7 0 rfl ?_
  refine j_iconst (v := 1) d_M_extreme_8 (by decide) ?_
  refine j_callV m_M_no [.int 1] [] 0 0 0 cV_M_147 d_M_extreme_9 rfl rfl (tg_94 hE) (q_okE hE (by decide)) (Nat.le_of_ble_eq_true rfl) (Nat.le_of_ble_eq_true rfl) (Nat.le_of_ble_eq_true rfl) (Nat.le_of_ble_eq_true rfl) (Nat.le_of_ble_eq_true rfl) (c_M_no (σ := σ) hE 1) (fun v τ h => ?_) (fun x τ h => absurd h.1 (by simp))
  obtain ⟨h1, hτ⟩ := h
  cases h1
  rw [hτ]
  exact j_iret d_M_extreme_12 rfl (by decide) (by decide) ⟨rfl, rfl⟩
theorem n_M_differ {ω : q_W} {σ : q_H} (hE : q_E σ) (hb : q_i σ 94 31 = 0) (a b : Int32) : J ω m_M_differ 1 0 0 0 0 0 [(0, .ref 94), (1, .int a), (2, .int b)] [] σ (fun r τ => r = .inl (some (.int 0)) ∧ τ = q_seti σ 94 0 1) := by
  refine j_aload_n d_M_differ_0 0 rfl ?_
  refine j_callV m_M_questions [] [] 0 0 0 cV_M_402 d_M_differ_1 rfl rfl (tg_94 hE) (q_okE hE (by decide)) (Nat.le_of_ble_eq_true rfl) (Nat.le_of_ble_eq_true rfl) (Nat.le_of_ble_eq_true rfl) (Nat.le_of_ble_eq_true rfl) (Nat.le_of_ble_eq_true rfl) (n_M_questions (σ := σ) hE hb) (fun v τ h => ?_) (fun x τ h => absurd h.1 (by simp))
  obtain ⟨h1, hτ⟩ := h
  cases h1
  rw [hτ]
  refine j_if_ne 13 d_M_differ_4 (by decide) (fun h => absurd h (by decide)) (fun _ => ?_)
  refine j_aload_n d_M_differ_7 0 rfl ?_
  refine j_iconst (v := 1) d_M_differ_8 (by decide) ?_
  refine j_callV m_M_no [.int 1] [] 0 0 0 cV_M_147 d_M_differ_9 rfl rfl (tg_94 hE) (q_okE hE (by decide)) (Nat.le_of_ble_eq_true rfl) (Nat.le_of_ble_eq_true rfl) (Nat.le_of_ble_eq_true rfl) (Nat.le_of_ble_eq_true rfl) (Nat.le_of_ble_eq_true rfl) (c_M_no (σ := σ) hE 1) (fun v τ h => ?_) (fun x τ h => absurd h.1 (by simp))
  obtain ⟨h1, hτ⟩ := h
  cases h1
  rw [hτ]
  exact j_iret d_M_differ_12 rfl (by decide) (by decide) ⟨rfl, rfl⟩
theorem n_M_can {ω : q_W} {σ : q_H} (hE : q_E σ) (hb : q_i σ 94 31 = 0) (a b : Int32) : J ω m_M_can 1 0 0 0 0 0 [(0, .ref 94), (1, .int a), (2, .int b)] [] σ (fun r τ => r = .inl (some (.int 0)) ∧ τ = q_seti σ 94 0 1) := by
  refine j_aload_n d_M_can_0 0 rfl ?_
  refine j_callV m_M_questions [] [] 0 0 0 cV_M_402 d_M_can_1 rfl rfl (tg_94 hE) (q_okE hE (by decide)) (Nat.le_of_ble_eq_true rfl) (Nat.le_of_ble_eq_true rfl) (Nat.le_of_ble_eq_true rfl) (Nat.le_of_ble_eq_true rfl) (Nat.le_of_ble_eq_true rfl) (n_M_questions (σ := σ) hE hb) (fun v τ h => ?_) (fun x τ h => absurd h.1 (by simp))
  obtain ⟨h1, hτ⟩ := h
  cases h1
  rw [hτ]
  refine j_if_ne 13 d_M_can_4 (by decide) (fun h => absurd h (by decide)) (fun _ => ?_)
  refine j_aload_n d_M_can_7 0 rfl ?_
  refine j_iconst (v := 1) d_M_can_8 (by decide) ?_
  refine j_callV m_M_no [.int 1] [] 0 0 0 cV_M_147 d_M_can_9 rfl rfl (tg_94 hE) (q_okE hE (by decide)) (Nat.le_of_ble_eq_true rfl) (Nat.le_of_ble_eq_true rfl) (Nat.le_of_ble_eq_true rfl) (Nat.le_of_ble_eq_true rfl) (Nat.le_of_ble_eq_true rfl) (c_M_no (σ := σ) hE 1) (fun v τ h => ?_) (fun x τ h => absurd h.1 (by simp))
  obtain ⟨h1, hτ⟩ := h
  cases h1
  rw [hτ]
  exact j_iret d_M_can_12 rfl (by decide) (by decide) ⟨rfl, rfl⟩
theorem n_M_ends {ω : q_W} {σ : q_H} (hE : q_E σ) (hb : q_i σ 94 31 = 0) : J ω m_M_ends 1 0 0 0 0 0 [(0, .ref 94)] [] σ (fun r τ => r = .inl (some (.int 0)) ∧ τ = q_seti σ 94 0 1) := by
  refine j_aload_n d_M_ends_0 0 rfl ?_
  refine j_callV m_M_questions [] [] 0 0 0 cV_M_402 d_M_ends_1 rfl rfl (tg_94 hE) (q_okE hE (by decide)) (Nat.le_of_ble_eq_true rfl) (Nat.le_of_ble_eq_true rfl) (Nat.le_of_ble_eq_true rfl) (Nat.le_of_ble_eq_true rfl) (Nat.le_of_ble_eq_true rfl) (n_M_questions (σ := σ) hE hb) (fun v τ h => ?_) (fun x τ h => absurd h.1 (by simp))
  obtain ⟨h1, hτ⟩ := h
  cases h1
  rw [hτ]
  refine j_if_ne 13 d_M_ends_4 (by decide) (fun h => absurd h (by decide)) (fun _ => ?_)
  refine j_aload_n d_M_ends_7 0 rfl ?_
  refine j_iconst (v := 1) d_M_ends_8 (by decide) ?_
  refine j_callV m_M_no [.int 1] [] 0 0 0 cV_M_147 d_M_ends_9 rfl rfl (tg_94 hE) (q_okE hE (by decide)) (Nat.le_of_ble_eq_true rfl) (Nat.le_of_ble_eq_true rfl) (Nat.le_of_ble_eq_true rfl) (Nat.le_of_ble_eq_true rfl) (Nat.le_of_ble_eq_true rfl) (c_M_no (σ := σ) hE 1) (fun v τ h => ?_) (fun x τ h => absurd h.1 (by simp))
  obtain ⟨h1, hτ⟩ := h
  cases h1
  rw [hτ]
  exact j_iret d_M_ends_12 rfl (by decide) (by decide) ⟨rfl, rfl⟩
theorem n_M_witness {ω : q_W} {σ : q_H} (hE : q_E σ) (hb : q_i σ 94 31 = 0) (a : Int32) : J ω m_M_witness 1 0 0 0 0 0 [(0, .ref 94), (1, .int a)] [] σ (fun r τ => r = .inl (some (.int 0)) ∧ τ = q_seti σ 94 0 1) := by
  refine j_aload_n d_M_witness_0 0 rfl ?_
  refine k_getZ (0) f_M_347 d_M_witness_1 (tg_94 hE) (q_okE hE (by decide)) (hb) ?_
  refine j_if_ne 13 d_M_witness_4 (by decide) (fun h => absurd h (by decide)) (fun _ => ?_)
  refine j_aload_n d_M_witness_7 0 rfl ?_
  refine j_iconst (v := 1) d_M_witness_8 (by decide) ?_
  refine j_callV m_M_no [.int 1] [] 0 0 0 cV_M_147 d_M_witness_9 rfl rfl (tg_94 hE) (q_okE hE (by decide)) (Nat.le_of_ble_eq_true rfl) (Nat.le_of_ble_eq_true rfl) (Nat.le_of_ble_eq_true rfl) (Nat.le_of_ble_eq_true rfl) (Nat.le_of_ble_eq_true rfl) (c_M_no (σ := σ) hE 1) (fun v τ h => ?_) (fun x τ h => absurd h.1 (by simp))
  obtain ⟨h1, hτ⟩ := h
  cases h1
  rw [hτ]
  exact j_iret d_M_witness_12 rfl (by decide) (by decide) ⟨rfl, rfl⟩
theorem n_M_run {ω : q_W} {σ : q_H} (hE : q_E σ) (hb : q_i σ 94 31 = 0) : J ω m_M_run 1 0 0 0 0 0 [(0, .ref 94)] [] σ (fun r τ => r = .inl (some (.int 0)) ∧ τ = q_seti σ 94 0 1) := by
  refine j_aload_n d_M_run_0 0 rfl ?_
  refine k_getZ (0) f_M_347 d_M_run_1 (tg_94 hE) (q_okE hE (by decide)) (hb) ?_
  refine j_if_ne 13 d_M_run_4 (by decide) (fun h => absurd h (by decide)) (fun _ => ?_)
  refine j_aload_n d_M_run_7 0 rfl ?_
  refine j_iconst (v := 1) d_M_run_8 (by decide) ?_
  refine j_callV m_M_no [.int 1] [] 0 0 0 cV_M_147 d_M_run_9 rfl rfl (tg_94 hE) (q_okE hE (by decide)) (Nat.le_of_ble_eq_true rfl) (Nat.le_of_ble_eq_true rfl) (Nat.le_of_ble_eq_true rfl) (Nat.le_of_ble_eq_true rfl) (Nat.le_of_ble_eq_true rfl) (c_M_no (σ := σ) hE 1) (fun v τ h => ?_) (fun x τ h => absurd h.1 (by simp))
  obtain ⟨h1, hτ⟩ := h
  cases h1
  rw [hτ]
  exact j_iret d_M_run_12 rfl (by decide) (by decide) ⟨rfl, rfl⟩
theorem n_M_value {ω : q_W} {σ : q_H} (hE : q_E σ) (hb : q_i σ 94 31 = 0) (a : Int32) : J ω m_M_value 1 0 0 0 0 0 [(0, .ref 94), (1, .int a)] [] σ (fun r τ => r = .inl (some (.int 0)) ∧ τ = q_seti σ 94 0 1) := by
  refine j_aload_n d_M_value_0 0 rfl ?_
  refine k_getZ (0) f_M_347 d_M_value_1 (tg_94 hE) (q_okE hE (by decide)) (hb) ?_
  refine j_if_ne 13 d_M_value_4 (by decide) (fun h => absurd h (by decide)) (fun _ => ?_)
  refine j_aload_n d_M_value_7 0 rfl ?_
  refine j_iconst (v := 1) d_M_value_8 (by decide) ?_
  refine j_callV m_M_no [.int 1] [] 0 0 0 cV_M_147 d_M_value_9 rfl rfl (tg_94 hE) (q_okE hE (by decide)) (Nat.le_of_ble_eq_true rfl) (Nat.le_of_ble_eq_true rfl) (Nat.le_of_ble_eq_true rfl) (Nat.le_of_ble_eq_true rfl) (Nat.le_of_ble_eq_true rfl) (c_M_no (σ := σ) hE 1) (fun v τ h => ?_) (fun x τ h => absurd h.1 (by simp))
  obtain ⟨h1, hτ⟩ := h
  cases h1
  rw [hτ]
  exact j_iret d_M_value_12 rfl (by decide) (by decide) ⟨rfl, rfl⟩
theorem n_M_least {ω : q_W} {σ : q_H} (hE : q_E σ) (hb : q_i σ 94 31 = 0) (a : Int32) : J ω m_M_least 2 0 0 0 0 0 [(0, .ref 94), (1, .int a)] [] σ (fun r τ => r = .inl (some (.int 0)) ∧ τ = q_seti σ 94 0 1) := by
  refine j_aload_n d_M_least_0 0 rfl ?_
  refine j_iload_n d_M_least_1 1 rfl ?_
  refine j_iconst (v := 1) d_M_least_2 (by decide) ?_
  refine j_callV m_M_extreme [.int a, .int 1] [] 1 0 0 cV_M_415 d_M_least_3 rfl rfl (tg_94 hE) (q_okE hE (by decide)) (Nat.le_of_ble_eq_true rfl) (Nat.le_of_ble_eq_true rfl) (Nat.le_of_ble_eq_true rfl) (Nat.le_of_ble_eq_true rfl) (Nat.le_of_ble_eq_true rfl) (n_M_extreme (σ := σ) hE hb a 1) (fun v τ h => ?_) (fun x τ h => absurd h.1 (by simp))
  obtain ⟨h1, hτ⟩ := h
  cases h1
  rw [hτ]
  exact j_iret d_M_least_6 rfl (by decide) (by decide) ⟨rfl, rfl⟩
theorem n_M_greatest {ω : q_W} {σ : q_H} (hE : q_E σ) (hb : q_i σ 94 31 = 0) (a : Int32) : J ω m_M_greatest 2 0 0 0 0 0 [(0, .ref 94), (1, .int a)] [] σ (fun r τ => r = .inl (some (.int 0)) ∧ τ = q_seti σ 94 0 1) := by
  refine j_aload_n d_M_greatest_0 0 rfl ?_
  refine j_iload_n d_M_greatest_1 1 rfl ?_
  refine j_iconst (v := (-1)) d_M_greatest_2 (by decide) ?_
  refine j_callV m_M_extreme [.int a, .int (-1)] [] 1 0 0 cV_M_415 d_M_greatest_3 rfl rfl (tg_94 hE) (q_okE hE (by decide)) (Nat.le_of_ble_eq_true rfl) (Nat.le_of_ble_eq_true rfl) (Nat.le_of_ble_eq_true rfl) (Nat.le_of_ble_eq_true rfl) (Nat.le_of_ble_eq_true rfl) (n_M_extreme (σ := σ) hE hb a (-1)) (fun v τ h => ?_) (fun x τ h => absurd h.1 (by simp))
  obtain ⟨h1, hτ⟩ := h
  cases h1
  rw [hτ]
  exact j_iret d_M_greatest_6 rfl (by decide) (by decide) ⟨rfl, rfl⟩
theorem n_M_set {ω : q_W} {σ : q_H} (hE : q_E σ) (hb : q_i σ 94 31 = 0) (a b : Int32) : J ω m_M_set 0 0 0 0 0 0 [(0, .ref 94), (1, .int a), (2, .int b)] [] σ (fun r τ => r = .inl none ∧ τ = q_seti σ 94 0 1) := by
  refine j_aload_n d_M_set_0 0 rfl ?_
  refine k_getZ (0) f_M_347 d_M_set_1 (tg_94 hE) (q_okE hE (by decide)) (hb) ?_
  refine j_if_eq 19 d_M_set_4 (by decide) (fun _ => ?_) (fun h => absurd h (by decide))
  refine j_aload_n d_M_set_19 0 rfl ?_
  refine j_aload_n d_M_set_20 0 rfl ?_
  refine k_getZ (0) f_M_347 d_M_set_21 (tg_94 hE) (q_okE hE (by decide)) (hb) ?_
  refine j_if_eq 31 d_M_set_24 (by decide) (fun _ => ?_) (fun h => absurd h (by decide))
  refine j_iconst (v := 1) d_M_set_31 (by decide) ?_
  refine j_putI (g_M_141 _) d_M_set_32 (tg_94 hE) (q_okE hE (by decide)) ?_
  exact j_vret d_M_set_35 rfl (by decide) (by decide) ⟨rfl, rfl⟩
theorem n_M_take {ω : q_W} {σ : q_H} (hE : q_E σ) (hb : q_i σ 94 31 = 0) : J ω m_M_take 0 0 0 0 0 0 [(0, .ref 94)] [] σ (fun r τ => r = .inl none ∧ τ = q_seti σ 94 0 1) := by
  refine j_aload_n d_M_take_0 0 rfl ?_
  refine k_getZ (0) f_M_347 d_M_take_1 (tg_94 hE) (q_okE hE (by decide)) (hb) ?_
  refine j_if_eq 14 d_M_take_4 (by decide) (fun _ => ?_) (fun h => absurd h (by decide))
  refine j_aload_n d_M_take_14 0 rfl ?_
  refine j_aload_n d_M_take_15 0 rfl ?_
  refine k_getZ (0) f_M_347 d_M_take_16 (tg_94 hE) (q_okE hE (by decide)) (hb) ?_
  refine j_if_eq 26 d_M_take_19 (by decide) (fun _ => ?_) (fun h => absurd h (by decide))
  refine j_iconst (v := 1) d_M_take_26 (by decide) ?_
  refine j_putI (g_M_141 _) d_M_take_27 (tg_94 hE) (q_okE hE (by decide)) ?_
  exact j_vret d_M_take_30 rfl (by decide) (by decide) ⟨rfl, rfl⟩
theorem q_sw (x : Int32) (n : Nat) (hn : n < 1000) : (x.toInt < 0 ∨ (n : Int) < x.toInt) ∨ ∃ j : Nat, j ≤ n ∧ x = nI j := by
  by_cases h : x.toInt < 0 ∨ (n : Int) < x.toInt
  · exact Or.inl h
  · right
    have h0 : ¬ x < 0 := fun h9 => h (Or.inl (by rw [Int32.lt_iff_toInt_lt] at h9; simpa using h9))
    obtain ⟨j, hj, rfl⟩ := nI_of h0
    refine ⟨j, ?_, rfl⟩
    rw [nI_toInt hj] at h
    omega
theorem c_So_mistakes {ω : q_W} {σ : q_H} (hE : q_E σ) : J ω m_So_mistakes 0 0 0 0 0 0 [(0, .ref 70)] [] σ (fun r τ => r = .inl (some (.int (q_i σ 75 3 + q_i σ 71 4))) ∧ τ = σ) := by
  refine j_aload_n d_So_mistakes_0 0 rfl ?_
  refine j_getR 75 f_So_21 d_So_mistakes_1 (tg_70 hE) (q_okE hE (by decide)) (rf_70_1 hE) (by decide) ?_
  refine k_getI ((q_i σ 75 3)) f_So_55 d_So_mistakes_4 (tg_75 hE) (q_okE hE (by decide)) (rfl) ?_
  refine j_aload_n d_So_mistakes_7 0 rfl ?_
  refine j_getR 71 f_So_12 d_So_mistakes_8 (tg_70 hE) (q_okE hE (by decide)) (rf_70_0 hE) (by decide) ?_
  refine k_getI ((q_i σ 71 4)) f_So_59 d_So_mistakes_11 (tg_71 hE) (q_okE hE (by decide)) (rfl) ?_
  refine j_iadd d_So_mistakes_14 ?_
  exact j_iret d_So_mistakes_15 rfl (by decide) (by decide) ⟨rfl, rfl⟩
theorem c_En_circuit {ω : q_W} {σ : q_H} (hE : q_E σ) : J ω m_En_circuit 0 0 0 0 0 0 [(0, .ref 48)] [] σ (fun r τ => r = .inl (some (.ref 50)) ∧ τ = σ) := by
  refine j_aload_n d_En_circuit_0 0 rfl ?_
  refine j_getR 49 f_En_12 d_En_circuit_1 (tg_48 hE) (q_okE hE (by decide)) (rf_48_0 hE) (by decide) ?_
  refine j_getR 50 f_En_46 d_En_circuit_4 (tg_49 hE) (q_okE hE (by decide)) (rf_49_0 hE) (by decide) ?_
  exact j_aret d_En_circuit_7 rfl (Or.inl ⟨_, rfl⟩) (by decide) (by decide) ⟨rfl, rfl⟩
theorem c_In_mistakes {ω : q_W} {σ : q_H} (hE : q_E σ) : J ω m_In_mistakes 1 0 0 0 0 0 [(0, .ref 47)] [] σ (fun r τ => r = .inl (some (.int (q_i σ 47 10 + (q_i σ 75 3 + q_i σ 71 4) + q_i σ 50 8))) ∧ τ = σ) := by
  refine j_aload_n d_In_mistakes_0 0 rfl ?_
  refine k_getI ((q_i σ 47 10)) f_In_50 d_In_mistakes_1 (tg_47 hE) (q_okE hE (by decide)) (rfl) ?_
  refine j_aload_n d_In_mistakes_4 0 rfl ?_
  refine j_getR 70 f_In_21 d_In_mistakes_5 (tg_47 hE) (q_okE hE (by decide)) (rf_47_1 hE) (by decide) ?_
  refine j_callV m_So_mistakes [] [.int (q_i σ 47 10)] 0 0 0 cV_In_54 d_In_mistakes_8 rfl rfl (tg_70 hE) (q_okE hE (by decide)) (Nat.le_of_ble_eq_true rfl) (Nat.le_of_ble_eq_true rfl) (Nat.le_of_ble_eq_true rfl) (Nat.le_of_ble_eq_true rfl) (Nat.le_of_ble_eq_true rfl) (c_So_mistakes (σ := σ) hE) (fun v τ h => ?_) (fun x τ h => absurd h.1 (by simp))
  obtain ⟨h1, hτ⟩ := h
  cases h1
  rw [hτ]
  refine j_iadd d_In_mistakes_11 ?_
  refine j_aload_n d_In_mistakes_12 0 rfl ?_
  refine j_getR 48 f_In_12 d_In_mistakes_13 (tg_47 hE) (q_okE hE (by decide)) (rf_47_0 hE) (by decide) ?_
  refine j_callV m_En_circuit [] [.int (q_i σ 47 10 + (q_i σ 75 3 + q_i σ 71 4))] 0 0 0 cV_In_58 d_In_mistakes_16 rfl rfl (tg_48 hE) (q_okE hE (by decide)) (Nat.le_of_ble_eq_true rfl) (Nat.le_of_ble_eq_true rfl) (Nat.le_of_ble_eq_true rfl) (Nat.le_of_ble_eq_true rfl) (Nat.le_of_ble_eq_true rfl) (c_En_circuit (σ := σ) hE) (fun v τ h => ?_) (fun x τ h => absurd h.1 (by simp))
  obtain ⟨h1, hτ⟩ := h
  cases h1
  rw [hτ]
  refine k_getI ((q_i σ 50 8)) f_In_62 d_In_mistakes_19 (tg_50 hE) (q_okE hE (by decide)) (rfl) ?_
  refine j_iadd d_In_mistakes_22 ?_
  exact j_iret d_In_mistakes_23 rfl (by decide) (by decide) ⟨rfl, rfl⟩
/-- what count answers: class, reference -/
def q_ch (σ : q_H) (p : Nat) : Nat → Int32
  | 0 => q_i σ 2 2
  | 1 => q_i σ 1 5
  | 2 => q_i σ 1 6
  | 3 => (if q_i σ 1 4 = 0 then 0 else q_i σ p 0)
  | 4 => (if q_i σ 1 4 = 0 then 0 else q_i σ p 4)
  | 5 => (if q_i σ 1 4 = 0 then 0 else q_i σ p 7)
  | 6 => (if q_i σ 1 4 = 0 then 0 else q_i σ p 8)
  | 7 => q_i σ 43 1
  | 8 => (if q_i σ 47 5 = 0 then 0 else 1)
  | 9 => q_i σ 47 10 + (q_i σ 75 3 + q_i σ 71 4) + q_i σ 50 8
  | _ => -1
def q_cm (σ : q_H) : Nat → Int32
  | 0 => q_i σ 94 2
  | 1 => q_i σ 94 50
  | 2 => q_i σ 94 51
  | 3 => q_i σ 94 26
  | 4 => q_i σ 94 27
  | 5 => q_i σ 94 28
  | 6 => q_i σ 94 30
  | 7 => q_i σ 94 63
  | 8 => (if q_i σ 94 62 < 0 then 0 else 1)
  | 9 => 0
  | _ => -1
set_option maxHeartbeats 1000000 in
theorem c_H_count {ω : q_W} {σ : q_H} (hE : q_E σ) {p : Nat} (hp : q_r σ 1 2 = p) (htp : q_t σ p = (1, 2)) (hop : 0 < p ∧ p ≤ q_n σ) (hb : q_i σ 1 4 = 0 ∨ q_i σ 1 4 = 1) (hf : q_i σ 47 5 = 0 ∨ q_i σ 47 5 = 1) (j : Nat) (hj : j ≤ 9) : J ω m_H_count 2 0 0 0 0 0 [(0, .ref 1), (1, .int (nI j))] [] σ (fun r τ => r = .inl (some (.int (q_ch σ p j))) ∧ τ = σ) := by
  rcases (show j = 0 ∨ j = 1 ∨ j = 2 ∨ j = 3 ∨ j = 4 ∨ j = 5 ∨ j = 6 ∨ j = 7 ∨ j = 8 ∨ j = 9 by omega) with rfl | rfl | rfl | rfl | rfl | rfl | rfl | rfl | rfl | rfl
  · refine j_iload_n d_H_count_0 1 rfl ?_
    refine j_tabIn 56 d_H_count_1 (by decide) (by decide) rfl (by decide) ?_
    refine j_aload_n d_H_count_56 0 rfl ?_
    refine j_getR 2 f_H_10 d_H_count_57 (tg_1 hE) (q_okE hE (by decide)) (rf_1_0 hE) (by decide) ?_
    refine k_getI ((q_i σ 2 2)) f_H_55 d_H_count_60 (tg_2 hE) (q_okE hE (by decide)) (rfl) ?_
    exact j_iret d_H_count_63 rfl (by decide) (by decide) ⟨rfl, rfl⟩
  · refine j_iload_n d_H_count_0 1 rfl ?_
    refine j_tabIn 64 d_H_count_1 (by decide) (by decide) rfl (by decide) ?_
    refine j_aload_n d_H_count_64 0 rfl ?_
    refine k_getI ((q_i σ 1 5)) f_H_89 d_H_count_65 (tg_1 hE) (q_okE hE (by decide)) (rfl) ?_
    exact j_iret d_H_count_68 rfl (by decide) (by decide) ⟨rfl, rfl⟩
  · refine j_iload_n d_H_count_0 1 rfl ?_
    refine j_tabIn 69 d_H_count_1 (by decide) (by decide) rfl (by decide) ?_
    refine j_aload_n d_H_count_69 0 rfl ?_
    refine k_getI ((q_i σ 1 6)) f_H_33 d_H_count_70 (tg_1 hE) (q_okE hE (by decide)) (rfl) ?_
    exact j_iret d_H_count_73 rfl (by decide) (by decide) ⟨rfl, rfl⟩
  · rcases hb with hb | hb
    · refine j_iload_n d_H_count_0 1 rfl ?_
      refine j_tabIn 74 d_H_count_1 (by decide) (by decide) rfl (by decide) ?_
      refine j_aload_n d_H_count_74 0 rfl ?_
      refine k_getZ (0) f_H_94 d_H_count_75 (tg_1 hE) (q_okE hE (by decide)) (hb) ?_
      refine j_if_eq 91 d_H_count_78 (by decide) (fun _ => ?_) (fun h => absurd h (by decide))
      refine j_iconst (v := 0) d_H_count_91 (by decide) ?_
      exact j_iret d_H_count_92 rfl (by decide) (by decide) ⟨by simp [q_ch, hb], rfl⟩
    · refine j_iload_n d_H_count_0 1 rfl ?_
      refine j_tabIn 74 d_H_count_1 (by decide) (by decide) rfl (by decide) ?_
      refine j_aload_n d_H_count_74 0 rfl ?_
      refine k_getZ (1) f_H_94 d_H_count_75 (tg_1 hE) (q_okE hE (by decide)) (hb) ?_
      refine j_if_eq 91 d_H_count_78 (by decide) (fun h => absurd h (by decide)) (fun _ => ?_)
      refine j_aload_n d_H_count_81 0 rfl ?_
      refine j_getR p f_H_26 d_H_count_82 (tg_1 hE) (q_okE hE (by decide)) (hp) hop.1 ?_
      refine k_getI ((q_i σ p 0)) f_H_187 d_H_count_85 htp hop (rfl) ?_
      refine j_goto 92 d_H_count_88 (by decide) ?_
      exact j_iret d_H_count_92 rfl (by decide) (by decide) ⟨by simp [q_ch, hb], rfl⟩
  · rcases hb with hb | hb
    · refine j_iload_n d_H_count_0 1 rfl ?_
      refine j_tabIn 93 d_H_count_1 (by decide) (by decide) rfl (by decide) ?_
      refine j_aload_n d_H_count_93 0 rfl ?_
      refine k_getZ (0) f_H_94 d_H_count_94 (tg_1 hE) (q_okE hE (by decide)) (hb) ?_
      refine j_if_eq 110 d_H_count_97 (by decide) (fun _ => ?_) (fun h => absurd h (by decide))
      refine j_iconst (v := 0) d_H_count_110 (by decide) ?_
      exact j_iret d_H_count_111 rfl (by decide) (by decide) ⟨by simp [q_ch, hb], rfl⟩
    · refine j_iload_n d_H_count_0 1 rfl ?_
      refine j_tabIn 93 d_H_count_1 (by decide) (by decide) rfl (by decide) ?_
      refine j_aload_n d_H_count_93 0 rfl ?_
      refine k_getZ (1) f_H_94 d_H_count_94 (tg_1 hE) (q_okE hE (by decide)) (hb) ?_
      refine j_if_eq 110 d_H_count_97 (by decide) (fun h => absurd h (by decide)) (fun _ => ?_)
      refine j_aload_n d_H_count_100 0 rfl ?_
      refine j_getR p f_H_26 d_H_count_101 (tg_1 hE) (q_okE hE (by decide)) (hp) hop.1 ?_
      refine k_getI ((q_i σ p 4)) f_H_209 d_H_count_104 htp hop (rfl) ?_
      refine j_goto 111 d_H_count_107 (by decide) ?_
      exact j_iret d_H_count_111 rfl (by decide) (by decide) ⟨by simp [q_ch, hb], rfl⟩
  · rcases hb with hb | hb
    · refine j_iload_n d_H_count_0 1 rfl ?_
      refine j_tabIn 112 d_H_count_1 (by decide) (by decide) rfl (by decide) ?_
      refine j_aload_n d_H_count_112 0 rfl ?_
      refine k_getZ (0) f_H_94 d_H_count_113 (tg_1 hE) (q_okE hE (by decide)) (hb) ?_
      refine j_if_eq 129 d_H_count_116 (by decide) (fun _ => ?_) (fun h => absurd h (by decide))
      refine j_iconst (v := 0) d_H_count_129 (by decide) ?_
      exact j_iret d_H_count_130 rfl (by decide) (by decide) ⟨by simp [q_ch, hb], rfl⟩
    · refine j_iload_n d_H_count_0 1 rfl ?_
      refine j_tabIn 112 d_H_count_1 (by decide) (by decide) rfl (by decide) ?_
      refine j_aload_n d_H_count_112 0 rfl ?_
      refine k_getZ (1) f_H_94 d_H_count_113 (tg_1 hE) (q_okE hE (by decide)) (hb) ?_
      refine j_if_eq 129 d_H_count_116 (by decide) (fun h => absurd h (by decide)) (fun _ => ?_)
      refine j_aload_n d_H_count_119 0 rfl ?_
      refine j_getR p f_H_26 d_H_count_120 (tg_1 hE) (q_okE hE (by decide)) (hp) hop.1 ?_
      refine k_getI ((q_i σ p 7)) f_H_120 d_H_count_123 htp hop (rfl) ?_
      refine j_goto 130 d_H_count_126 (by decide) ?_
      exact j_iret d_H_count_130 rfl (by decide) (by decide) ⟨by simp [q_ch, hb], rfl⟩
  · rcases hb with hb | hb
    · refine j_iload_n d_H_count_0 1 rfl ?_
      refine j_tabIn 131 d_H_count_1 (by decide) (by decide) rfl (by decide) ?_
      refine j_aload_n d_H_count_131 0 rfl ?_
      refine k_getZ (0) f_H_94 d_H_count_132 (tg_1 hE) (q_okE hE (by decide)) (hb) ?_
      refine j_if_eq 148 d_H_count_135 (by decide) (fun _ => ?_) (fun h => absurd h (by decide))
      refine j_iconst (v := 0) d_H_count_148 (by decide) ?_
      exact j_iret d_H_count_149 rfl (by decide) (by decide) ⟨by simp [q_ch, hb], rfl⟩
    · refine j_iload_n d_H_count_0 1 rfl ?_
      refine j_tabIn 131 d_H_count_1 (by decide) (by decide) rfl (by decide) ?_
      refine j_aload_n d_H_count_131 0 rfl ?_
      refine k_getZ (1) f_H_94 d_H_count_132 (tg_1 hE) (q_okE hE (by decide)) (hb) ?_
      refine j_if_eq 148 d_H_count_135 (by decide) (fun h => absurd h (by decide)) (fun _ => ?_)
      refine j_aload_n d_H_count_138 0 rfl ?_
      refine j_getR p f_H_26 d_H_count_139 (tg_1 hE) (q_okE hE (by decide)) (hp) hop.1 ?_
      refine k_getI ((q_i σ p 8)) f_H_211 d_H_count_142 htp hop (rfl) ?_
      refine j_goto 149 d_H_count_145 (by decide) ?_
      exact j_iret d_H_count_149 rfl (by decide) (by decide) ⟨by simp [q_ch, hb], rfl⟩
  · refine j_iload_n d_H_count_0 1 rfl ?_
    refine j_tabIn 150 d_H_count_1 (by decide) (by decide) rfl (by decide) ?_
    refine j_aload_n d_H_count_150 0 rfl ?_
    refine j_getR 43 f_H_44 d_H_count_151 (tg_1 hE) (q_okE hE (by decide)) (rf_1_8 hE) (by decide) ?_
    refine k_getI ((q_i σ 43 1)) f_H_157 d_H_count_154 (tg_43 hE) (q_okE hE (by decide)) (rfl) ?_
    exact j_iret d_H_count_157 rfl (by decide) (by decide) ⟨rfl, rfl⟩
  · rcases hf with hb | hb
    · refine j_iload_n d_H_count_0 1 rfl ?_
      refine j_tabIn 158 d_H_count_1 (by decide) (by decide) rfl (by decide) ?_
      refine j_aload_n d_H_count_158 0 rfl ?_
      refine j_getR 47 f_H_51 d_H_count_159 (tg_1 hE) (q_okE hE (by decide)) (rf_1_9 hE) (by decide) ?_
      refine k_getZ (0) f_H_184 d_H_count_162 (tg_47 hE) (q_okE hE (by decide)) (hb) ?_
      refine j_if_eq 172 d_H_count_165 (by decide) (fun _ => ?_) (fun h => absurd h (by decide))
      refine j_iconst (v := 0) d_H_count_172 (by decide) ?_
      exact j_iret d_H_count_173 rfl (by decide) (by decide) ⟨by simp [q_ch, hb], rfl⟩
    · refine j_iload_n d_H_count_0 1 rfl ?_
      refine j_tabIn 158 d_H_count_1 (by decide) (by decide) rfl (by decide) ?_
      refine j_aload_n d_H_count_158 0 rfl ?_
      refine j_getR 47 f_H_51 d_H_count_159 (tg_1 hE) (q_okE hE (by decide)) (rf_1_9 hE) (by decide) ?_
      refine k_getZ (1) f_H_184 d_H_count_162 (tg_47 hE) (q_okE hE (by decide)) (hb) ?_
      refine j_if_eq 172 d_H_count_165 (by decide) (fun h => absurd h (by decide)) (fun _ => ?_)
      refine j_iconst (v := 1) d_H_count_168 (by decide) ?_
      refine j_goto 173 d_H_count_169 (by decide) ?_
      exact j_iret d_H_count_173 rfl (by decide) (by decide) ⟨by simp [q_ch, hb], rfl⟩
  · refine j_iload_n d_H_count_0 1 rfl ?_
    refine j_tabIn 174 d_H_count_1 (by decide) (by decide) rfl (by decide) ?_
    refine j_aload_n d_H_count_174 0 rfl ?_
    refine j_getR 47 f_H_51 d_H_count_175 (tg_1 hE) (q_okE hE (by decide)) (rf_1_9 hE) (by decide) ?_
    refine j_callV m_In_mistakes [] [] 1 0 0 cV_H_214 d_H_count_178 rfl rfl (tg_47 hE) (q_okE hE (by decide)) (Nat.le_of_ble_eq_true rfl) (Nat.le_of_ble_eq_true rfl) (Nat.le_of_ble_eq_true rfl) (Nat.le_of_ble_eq_true rfl) (Nat.le_of_ble_eq_true rfl) (c_In_mistakes (σ := σ) hE) (fun v τ h => ?_) (fun x τ h => absurd h.1 (by simp))
    obtain ⟨h1, hτ⟩ := h
    cases h1
    rw [hτ]
    exact j_iret d_H_count_181 rfl (by decide) (by decide) ⟨rfl, rfl⟩
theorem x_H_count {ω : q_W} {σ : q_H} {x : Int32} (h : x.toInt < 0 ∨ 9 < x.toInt) : J ω m_H_count 2 0 0 0 0 0 [(0, .ref 1), (1, .int x)] [] σ (fun r τ => r = .inl (some (.int (-1))) ∧ τ = σ) := by
  refine j_iload_n d_H_count_0 1 rfl ?_
  refine j_tabOut 182 d_H_count_1 h (by decide) ?_
  refine j_iconst (v := (-1)) d_H_count_182 (by decide) ?_
  exact j_iret d_H_count_183 rfl (by decide) (by decide) ⟨rfl, rfl⟩
set_option maxHeartbeats 1000000 in
theorem c_M_count {ω : q_W} {σ : q_H} (hE : q_E σ) (j : Nat) (hj : j ≤ 9) : J ω m_M_count 0 0 0 0 0 0 [(0, .ref 94), (1, .int (nI j))] [] σ (fun r τ => r = .inl (some (.int (q_cm σ j))) ∧ τ = q_seti σ 94 0 0) := by
  rcases (show j = 0 ∨ j = 1 ∨ j = 2 ∨ j = 3 ∨ j = 4 ∨ j = 5 ∨ j = 6 ∨ j = 7 ∨ j = 8 ∨ j = 9 by omega) with rfl | rfl | rfl | rfl | rfl | rfl | rfl | rfl | rfl | rfl
  · refine j_aload_n d_M_count_0 0 rfl ?_
    refine j_iconst (v := 0) d_M_count_1 (by decide) ?_
    refine j_putI (g_M_141 _) d_M_count_2 (tg_94 hE) (q_okE hE (by decide)) ?_
    refine j_iload_n d_M_count_5 1 rfl ?_
    refine j_tabIn 60 d_M_count_6 (by decide) (by decide) rfl (by decide) ?_
    refine j_aload_n d_M_count_60 0 rfl ?_
    refine k_getI ((q_i σ 94 2)) f_M_144 d_M_count_61 (tg_94 hE) (q_okE hE (by decide)) (rfl) ?_
    exact j_iret d_M_count_64 rfl (by decide) (by decide) ⟨rfl, rfl⟩
  · refine j_aload_n d_M_count_0 0 rfl ?_
    refine j_iconst (v := 0) d_M_count_1 (by decide) ?_
    refine j_putI (g_M_141 _) d_M_count_2 (tg_94 hE) (q_okE hE (by decide)) ?_
    refine j_iload_n d_M_count_5 1 rfl ?_
    refine j_tabIn 65 d_M_count_6 (by decide) (by decide) rfl (by decide) ?_
    refine j_aload_n d_M_count_65 0 rfl ?_
    refine k_getI ((q_i σ 94 50)) f_M_330 d_M_count_66 (tg_94 hE) (q_okE hE (by decide)) (rfl) ?_
    exact j_iret d_M_count_69 rfl (by decide) (by decide) ⟨rfl, rfl⟩
  · refine j_aload_n d_M_count_0 0 rfl ?_
    refine j_iconst (v := 0) d_M_count_1 (by decide) ?_
    refine j_putI (g_M_141 _) d_M_count_2 (tg_94 hE) (q_okE hE (by decide)) ?_
    refine j_iload_n d_M_count_5 1 rfl ?_
    refine j_tabIn 70 d_M_count_6 (by decide) (by decide) rfl (by decide) ?_
    refine j_aload_n d_M_count_70 0 rfl ?_
    refine k_getI ((q_i σ 94 51)) f_M_101 d_M_count_71 (tg_94 hE) (q_okE hE (by decide)) (rfl) ?_
    exact j_iret d_M_count_74 rfl (by decide) (by decide) ⟨rfl, rfl⟩
  · refine j_aload_n d_M_count_0 0 rfl ?_
    refine j_iconst (v := 0) d_M_count_1 (by decide) ?_
    refine j_putI (g_M_141 _) d_M_count_2 (tg_94 hE) (q_okE hE (by decide)) ?_
    refine j_iload_n d_M_count_5 1 rfl ?_
    refine j_tabIn 75 d_M_count_6 (by decide) (by decide) rfl (by decide) ?_
    refine j_aload_n d_M_count_75 0 rfl ?_
    refine k_getI ((q_i σ 94 26)) f_M_357 d_M_count_76 (tg_94 hE) (q_okE hE (by decide)) (rfl) ?_
    exact j_iret d_M_count_79 rfl (by decide) (by decide) ⟨rfl, rfl⟩
  · refine j_aload_n d_M_count_0 0 rfl ?_
    refine j_iconst (v := 0) d_M_count_1 (by decide) ?_
    refine j_putI (g_M_141 _) d_M_count_2 (tg_94 hE) (q_okE hE (by decide)) ?_
    refine j_iload_n d_M_count_5 1 rfl ?_
    refine j_tabIn 80 d_M_count_6 (by decide) (by decide) rfl (by decide) ?_
    refine j_aload_n d_M_count_80 0 rfl ?_
    refine k_getI ((q_i σ 94 27)) f_M_360 d_M_count_81 (tg_94 hE) (q_okE hE (by decide)) (rfl) ?_
    exact j_iret d_M_count_84 rfl (by decide) (by decide) ⟨rfl, rfl⟩
  · refine j_aload_n d_M_count_0 0 rfl ?_
    refine j_iconst (v := 0) d_M_count_1 (by decide) ?_
    refine j_putI (g_M_141 _) d_M_count_2 (tg_94 hE) (q_okE hE (by decide)) ?_
    refine j_iload_n d_M_count_5 1 rfl ?_
    refine j_tabIn 85 d_M_count_6 (by decide) (by decide) rfl (by decide) ?_
    refine j_aload_n d_M_count_85 0 rfl ?_
    refine k_getI ((q_i σ 94 28)) f_M_363 d_M_count_86 (tg_94 hE) (q_okE hE (by decide)) (rfl) ?_
    exact j_iret d_M_count_89 rfl (by decide) (by decide) ⟨rfl, rfl⟩
  · refine j_aload_n d_M_count_0 0 rfl ?_
    refine j_iconst (v := 0) d_M_count_1 (by decide) ?_
    refine j_putI (g_M_141 _) d_M_count_2 (tg_94 hE) (q_okE hE (by decide)) ?_
    refine j_iload_n d_M_count_5 1 rfl ?_
    refine j_tabIn 90 d_M_count_6 (by decide) (by decide) rfl (by decide) ?_
    refine j_aload_n d_M_count_90 0 rfl ?_
    refine k_getI ((q_i σ 94 30)) f_M_354 d_M_count_91 (tg_94 hE) (q_okE hE (by decide)) (rfl) ?_
    exact j_iret d_M_count_94 rfl (by decide) (by decide) ⟨rfl, rfl⟩
  · refine j_aload_n d_M_count_0 0 rfl ?_
    refine j_iconst (v := 0) d_M_count_1 (by decide) ?_
    refine j_putI (g_M_141 _) d_M_count_2 (tg_94 hE) (q_okE hE (by decide)) ?_
    refine j_iload_n d_M_count_5 1 rfl ?_
    refine j_tabIn 95 d_M_count_6 (by decide) (by decide) rfl (by decide) ?_
    refine j_aload_n d_M_count_95 0 rfl ?_
    refine k_getI ((q_i σ 94 63)) f_M_132 d_M_count_96 (tg_94 hE) (q_okE hE (by decide)) (rfl) ?_
    exact j_iret d_M_count_99 rfl (by decide) (by decide) ⟨rfl, rfl⟩
  · by_cases hw : q_i σ 94 62 < 0
    · refine j_aload_n d_M_count_0 0 rfl ?_
      refine j_iconst (v := 0) d_M_count_1 (by decide) ?_
      refine j_putI (g_M_141 _) d_M_count_2 (tg_94 hE) (q_okE hE (by decide)) ?_
      refine j_iload_n d_M_count_5 1 rfl ?_
      refine j_tabIn 100 d_M_count_6 (by decide) (by decide) rfl (by decide) ?_
      refine j_aload_n d_M_count_100 0 rfl ?_
      refine k_getI ((q_i σ 94 62)) f_M_129 d_M_count_101 (tg_94 hE) (q_okE hE (by decide)) (rfl) ?_
      refine j_if_lt 111 d_M_count_104 (by decide) (fun _ => ?_) (fun h => absurd hw h)
      refine j_iconst (v := 0) d_M_count_111 (by decide) ?_
      exact j_iret d_M_count_112 rfl (by decide) (by decide) ⟨by simp [q_cm, hw], rfl⟩
    · refine j_aload_n d_M_count_0 0 rfl ?_
      refine j_iconst (v := 0) d_M_count_1 (by decide) ?_
      refine j_putI (g_M_141 _) d_M_count_2 (tg_94 hE) (q_okE hE (by decide)) ?_
      refine j_iload_n d_M_count_5 1 rfl ?_
      refine j_tabIn 100 d_M_count_6 (by decide) (by decide) rfl (by decide) ?_
      refine j_aload_n d_M_count_100 0 rfl ?_
      refine k_getI ((q_i σ 94 62)) f_M_129 d_M_count_101 (tg_94 hE) (q_okE hE (by decide)) (rfl) ?_
      refine j_if_lt 111 d_M_count_104 (by decide) (fun h => absurd h hw) (fun _ => ?_)
      refine j_iconst (v := 1) d_M_count_107 (by decide) ?_
      refine j_goto 112 d_M_count_108 (by decide) ?_
      exact j_iret d_M_count_112 rfl (by decide) (by decide) ⟨by simp [q_cm, hw], rfl⟩
  · refine j_aload_n d_M_count_0 0 rfl ?_
    refine j_iconst (v := 0) d_M_count_1 (by decide) ?_
    refine j_putI (g_M_141 _) d_M_count_2 (tg_94 hE) (q_okE hE (by decide)) ?_
    refine j_iload_n d_M_count_5 1 rfl ?_
    refine j_tabIn 113 d_M_count_6 (by decide) (by decide) rfl (by decide) ?_
    refine j_iconst (v := 0) d_M_count_113 (by decide) ?_
    exact j_iret d_M_count_114 rfl (by decide) (by decide) ⟨rfl, rfl⟩
theorem x_M_count {ω : q_W} {σ : q_H} (hE : q_E σ) {x : Int32} (h : x.toInt < 0 ∨ 9 < x.toInt) : J ω m_M_count 0 0 0 0 0 0 [(0, .ref 94), (1, .int x)] [] σ (fun r τ => r = .inl (some (.int (-1))) ∧ τ = q_seti σ 94 0 0) := by
  refine j_aload_n d_M_count_0 0 rfl ?_
  refine j_iconst (v := 0) d_M_count_1 (by decide) ?_
  refine j_putI (g_M_141 _) d_M_count_2 (tg_94 hE) (q_okE hE (by decide)) ?_
  refine j_iload_n d_M_count_5 1 rfl ?_
  refine j_tabOut 115 d_M_count_6 h (by decide) ?_
  refine j_iconst (v := (-1)) d_M_count_115 (by decide) ?_
  exact j_iret d_M_count_116 rfl (by decide) (by decide) ⟨rfl, rfl⟩
