theorem d_JA_fill_0 : decode m_JA_fill.2.1 0 = .ok (.iconst 0, 1) := by decide +kernel
theorem d_JA_fill_1 : decode m_JA_fill.2.1 1 = .ok (.istore_n 2, 1) := by decide +kernel
theorem d_JA_fill_2 : decode m_JA_fill.2.1 2 = .ok (.aload_n 0, 1) := by decide +kernel
theorem d_JA_fill_3 : decode m_JA_fill.2.1 3 = .ok (.arraylength, 1) := by decide +kernel
theorem d_JA_fill_4 : decode m_JA_fill.2.1 4 = .ok (.istore_n 3, 1) := by decide +kernel
theorem d_JA_fill_5 : decode m_JA_fill.2.1 5 = .ok (.iload_n 2, 1) := by decide +kernel
theorem d_JA_fill_6 : decode m_JA_fill.2.1 6 = .ok (.iload_n 3, 1) := by decide +kernel
theorem d_JA_fill_7 : decode m_JA_fill.2.1 7 = .ok (.if_icmp .ge 13, 3) := by decide +kernel
theorem d_JA_fill_10 : decode m_JA_fill.2.1 10 = .ok (.aload_n 0, 1) := by decide +kernel
theorem d_JA_fill_11 : decode m_JA_fill.2.1 11 = .ok (.iload_n 2, 1) := by decide +kernel
theorem d_JA_fill_12 : decode m_JA_fill.2.1 12 = .ok (.iload_n 1, 1) := by decide +kernel
theorem d_JA_fill_13 : decode m_JA_fill.2.1 13 = .ok (.iastore, 1) := by decide +kernel
theorem d_JA_fill_14 : decode m_JA_fill.2.1 14 = .ok (.iinc 2 1, 3) := by decide +kernel
theorem d_JA_fill_17 : decode m_JA_fill.2.1 17 = .ok (.goto (-12), 3) := by decide +kernel
theorem d_JA_fill_20 : decode m_JA_fill.2.1 20 = .ok (.return_, 1) := by decide +kernel
theorem d_H_build_0 : decode m_H_build.2.1 0 = .ok (.aload_n 0, 1) := by decide +kernel
theorem d_H_build_1 : decode m_H_build.2.1 1 = .ok (.getfield 10, 3) := by decide +kernel
theorem d_H_build_4 : decode m_H_build.2.1 4 = .ok (.invokevirtual 68, 3) := by decide +kernel
theorem d_H_build_7 : decode m_H_build.2.1 7 = .ok (.aload_n 0, 1) := by decide +kernel
theorem d_H_build_8 : decode m_H_build.2.1 8 = .ok (.getfield 19, 3) := by decide +kernel
theorem d_H_build_11 : decode m_H_build.2.1 11 = .ok (.aload_n 0, 1) := by decide +kernel
theorem d_H_build_12 : decode m_H_build.2.1 12 = .ok (.getfield 10, 3) := by decide +kernel
theorem d_H_build_15 : decode m_H_build.2.1 15 = .ok (.aload_n 0, 1) := by decide +kernel
theorem d_H_build_16 : decode m_H_build.2.1 16 = .ok (.getfield 30, 3) := by decide +kernel
theorem d_H_build_19 : decode m_H_build.2.1 19 = .ok (.invokevirtual 71, 3) := by decide +kernel
theorem d_H_build_22 : decode m_H_build.2.1 22 = .ok (.aload_n 0, 1) := by decide +kernel
theorem d_H_build_23 : decode m_H_build.2.1 23 = .ok (.getfield 19, 3) := by decide +kernel
theorem d_H_build_26 : decode m_H_build.2.1 26 = .ok (.aload_n 0, 1) := by decide +kernel
theorem d_H_build_27 : decode m_H_build.2.1 27 = .ok (.getfield 19, 3) := by decide +kernel
theorem d_H_build_30 : decode m_H_build.2.1 30 = .ok (.invokevirtual 75, 3) := by decide +kernel
theorem d_H_build_33 : decode m_H_build.2.1 33 = .ok (.ifCond .eq 17, 3) := by decide +kernel
theorem d_H_build_36 : decode m_H_build.2.1 36 = .ok (.aload_n 0, 1) := by decide +kernel
theorem d_H_build_37 : decode m_H_build.2.1 37 = .ok (.getfield 19, 3) := by decide +kernel
theorem d_H_build_40 : decode m_H_build.2.1 40 = .ok (.invokevirtual 79, 3) := by decide +kernel
theorem d_H_build_43 : decode m_H_build.2.1 43 = .ok (.ifCond .eq 7, 3) := by decide +kernel
theorem d_H_build_46 : decode m_H_build.2.1 46 = .ok (.iconst 1, 1) := by decide +kernel
theorem d_H_build_47 : decode m_H_build.2.1 47 = .ok (.goto 4, 3) := by decide +kernel
theorem d_H_build_51 : decode m_H_build.2.1 51 = .ok (.invokevirtual 82, 3) := by decide +kernel
theorem d_H_build_54 : decode m_H_build.2.1 54 = .ok (.aload_n 0, 1) := by decide +kernel
theorem d_H_build_55 : decode m_H_build.2.1 55 = .ok (.getfield 10, 3) := by decide +kernel
theorem d_H_build_58 : decode m_H_build.2.1 58 = .ok (.iconst 0, 1) := by decide +kernel
theorem d_H_build_59 : decode m_H_build.2.1 59 = .ok (.putfield 55, 3) := by decide +kernel
theorem d_H_build_62 : decode m_H_build.2.1 62 = .ok (.aload_n 0, 1) := by decide +kernel
theorem d_H_build_63 : decode m_H_build.2.1 63 = .ok (.getfield 30, 3) := by decide +kernel
theorem d_H_build_66 : decode m_H_build.2.1 66 = .ok (.getfield 86, 3) := by decide +kernel
theorem d_H_build_69 : decode m_H_build.2.1 69 = .ok (.ifCond .eq 33, 3) := by decide +kernel
theorem d_H_build_102 : decode m_H_build.2.1 102 = .ok (.aload_n 0, 1) := by decide +kernel
theorem d_H_build_103 : decode m_H_build.2.1 103 = .ok (.getfield 26, 3) := by decide +kernel
theorem d_H_build_106 : decode m_H_build.2.1 106 = .ok (.astore_n 1, 1) := by decide +kernel
theorem d_H_build_107 : decode m_H_build.2.1 107 = .ok (.aload_n 0, 1) := by decide +kernel
theorem d_H_build_108 : decode m_H_build.2.1 108 = .ok (.aload_n 0, 1) := by decide +kernel
theorem d_H_build_109 : decode m_H_build.2.1 109 = .ok (.getfield 30, 3) := by decide +kernel
theorem d_H_build_112 : decode m_H_build.2.1 112 = .ok (.putfield 26, 3) := by decide +kernel
theorem d_H_build_115 : decode m_H_build.2.1 115 = .ok (.aload_n 0, 1) := by decide +kernel
theorem d_H_build_116 : decode m_H_build.2.1 116 = .ok (.aload_n 1, 1) := by decide +kernel
theorem d_H_build_117 : decode m_H_build.2.1 117 = .ok (.putfield 30, 3) := by decide +kernel
theorem d_H_build_120 : decode m_H_build.2.1 120 = .ok (.aload_n 0, 1) := by decide +kernel
theorem d_H_build_121 : decode m_H_build.2.1 121 = .ok (.iconst 1, 1) := by decide +kernel
theorem d_H_build_122 : decode m_H_build.2.1 122 = .ok (.putfield 94, 3) := by decide +kernel
theorem d_H_build_125 : decode m_H_build.2.1 125 = .ok (.aload_n 0, 1) := by decide +kernel
theorem d_H_build_126 : decode m_H_build.2.1 126 = .ok (.getfield 37, 3) := by decide +kernel
theorem d_H_build_129 : decode m_H_build.2.1 129 = .ok (.iconst 0, 1) := by decide +kernel
theorem d_H_build_130 : decode m_H_build.2.1 130 = .ok (.invokestatic 98, 3) := by decide +kernel
theorem d_H_build_133 : decode m_H_build.2.1 133 = .ok (.aload_n 0, 1) := by decide +kernel
theorem d_H_build_134 : decode m_H_build.2.1 134 = .ok (.getfield 44, 3) := by decide +kernel
theorem d_H_build_137 : decode m_H_build.2.1 137 = .ok (.invokevirtual 104, 3) := by decide +kernel
theorem d_H_build_140 : decode m_H_build.2.1 140 = .ok (.aload_n 0, 1) := by decide +kernel
theorem d_H_build_141 : decode m_H_build.2.1 141 = .ok (.getfield 51, 3) := by decide +kernel
theorem d_H_build_144 : decode m_H_build.2.1 144 = .ok (.aload_n 0, 1) := by decide +kernel
theorem d_H_build_145 : decode m_H_build.2.1 145 = .ok (.getfield 26, 3) := by decide +kernel
theorem d_H_build_148 : decode m_H_build.2.1 148 = .ok (.invokevirtual 107, 3) := by decide +kernel
theorem d_H_build_151 : decode m_H_build.2.1 151 = .ok (.aload_n 0, 1) := by decide +kernel
theorem d_H_build_152 : decode m_H_build.2.1 152 = .ok (.getfield 51, 3) := by decide +kernel
theorem d_H_build_155 : decode m_H_build.2.1 155 = .ok (.getfield 111, 3) := by decide +kernel
theorem d_H_build_158 : decode m_H_build.2.1 158 = .ok (.aload_n 0, 1) := by decide +kernel
theorem d_H_build_159 : decode m_H_build.2.1 159 = .ok (.getfield 26, 3) := by decide +kernel
theorem d_H_build_162 : decode m_H_build.2.1 162 = .ok (.invokevirtual 115, 3) := by decide +kernel
theorem d_H_build_165 : decode m_H_build.2.1 165 = .ok (.aload_n 0, 1) := by decide +kernel
theorem d_H_build_166 : decode m_H_build.2.1 166 = .ok (.getfield 26, 3) := by decide +kernel
theorem d_H_build_169 : decode m_H_build.2.1 169 = .ok (.getfield 120, 3) := by decide +kernel
theorem d_H_build_172 : decode m_H_build.2.1 172 = .ok (.ireturn, 1) := by decide +kernel
theorem d_Sc_cut_0 : decode m_Sc_cut.2.1 0 = .ok (.aload_n 0, 1) := by decide +kernel
theorem d_Sc_cut_1 : decode m_Sc_cut.2.1 1 = .ok (.iconst 0, 1) := by decide +kernel
theorem d_Sc_cut_2 : decode m_Sc_cut.2.1 2 = .ok (.putfield 68, 3) := by decide +kernel
theorem d_Sc_cut_5 : decode m_Sc_cut.2.1 5 = .ok (.aload_n 0, 1) := by decide +kernel
theorem d_Sc_cut_6 : decode m_Sc_cut.2.1 6 = .ok (.iconst 0, 1) := by decide +kernel
theorem d_Sc_cut_7 : decode m_Sc_cut.2.1 7 = .ok (.putfield 65, 3) := by decide +kernel
theorem d_Sc_cut_10 : decode m_Sc_cut.2.1 10 = .ok (.aload_n 0, 1) := by decide +kernel
theorem d_Sc_cut_11 : decode m_Sc_cut.2.1 11 = .ok (.iconst 0, 1) := by decide +kernel
theorem d_Sc_cut_12 : decode m_Sc_cut.2.1 12 = .ok (.putfield 62, 3) := by decide +kernel
theorem d_Sc_cut_15 : decode m_Sc_cut.2.1 15 = .ok (.iconst 0, 1) := by decide +kernel
theorem d_Sc_cut_16 : decode m_Sc_cut.2.1 16 = .ok (.istore_n 1, 1) := by decide +kernel
theorem d_Sc_cut_17 : decode m_Sc_cut.2.1 17 = .ok (.iload_n 1, 1) := by decide +kernel
theorem d_Sc_cut_18 : decode m_Sc_cut.2.1 18 = .ok (.sipush 4097, 3) := by decide +kernel
theorem d_Sc_cut_21 : decode m_Sc_cut.2.1 21 = .ok (.if_icmp .ge 184, 3) := by decide +kernel
theorem d_Sc_cut_24 : decode m_Sc_cut.2.1 24 = .ok (.aload_n 0, 1) := by decide +kernel
theorem d_Sc_cut_25 : decode m_Sc_cut.2.1 25 = .ok (.getfield 68, 3) := by decide +kernel
theorem d_Sc_cut_28 : decode m_Sc_cut.2.1 28 = .ok (.aload_n 0, 1) := by decide +kernel
theorem d_Sc_cut_29 : decode m_Sc_cut.2.1 29 = .ok (.getfield 59, 3) := by decide +kernel
theorem d_Sc_cut_32 : decode m_Sc_cut.2.1 32 = .ok (.if_icmp .ge 44, 3) := by decide +kernel
theorem d_Sc_cut_76 : decode m_Sc_cut.2.1 76 = .ok (.aload_n 0, 1) := by decide +kernel
theorem d_Sc_cut_77 : decode m_Sc_cut.2.1 77 = .ok (.getfield 19, 3) := by decide +kernel
theorem d_Sc_cut_80 : decode m_Sc_cut.2.1 80 = .ok (.aload_n 0, 1) := by decide +kernel
theorem d_Sc_cut_81 : decode m_Sc_cut.2.1 81 = .ok (.getfield 65, 3) := by decide +kernel
theorem d_Sc_cut_84 : decode m_Sc_cut.2.1 84 = .ok (.aload_n 0, 1) := by decide +kernel
theorem d_Sc_cut_85 : decode m_Sc_cut.2.1 85 = .ok (.getfield 68, 3) := by decide +kernel
theorem d_Sc_cut_88 : decode m_Sc_cut.2.1 88 = .ok (.iastore, 1) := by decide +kernel
theorem d_Sc_cut_89 : decode m_Sc_cut.2.1 89 = .ok (.aload_n 0, 1) := by decide +kernel
theorem d_Sc_cut_90 : decode m_Sc_cut.2.1 90 = .ok (.getfield 22, 3) := by decide +kernel
theorem d_Sc_cut_93 : decode m_Sc_cut.2.1 93 = .ok (.aload_n 0, 1) := by decide +kernel
theorem d_Sc_cut_94 : decode m_Sc_cut.2.1 94 = .ok (.getfield 65, 3) := by decide +kernel
theorem d_Sc_cut_97 : decode m_Sc_cut.2.1 97 = .ok (.lconst 0, 1) := by decide +kernel
theorem d_Sc_cut_98 : decode m_Sc_cut.2.1 98 = .ok (.lastore, 1) := by decide +kernel
theorem d_Sc_cut_99 : decode m_Sc_cut.2.1 99 = .ok (.aload_n 0, 1) := by decide +kernel
theorem d_Sc_cut_100 : decode m_Sc_cut.2.1 100 = .ok (.getfield 15, 3) := by decide +kernel
theorem d_Sc_cut_103 : decode m_Sc_cut.2.1 103 = .ok (.aload_n 0, 1) := by decide +kernel
theorem d_Sc_cut_104 : decode m_Sc_cut.2.1 104 = .ok (.getfield 65, 3) := by decide +kernel
theorem d_Sc_cut_107 : decode m_Sc_cut.2.1 107 = .ok (.aload_n 0, 1) := by decide +kernel
theorem d_Sc_cut_108 : decode m_Sc_cut.2.1 108 = .ok (.getfield 68, 3) := by decide +kernel
theorem d_Sc_cut_111 : decode m_Sc_cut.2.1 111 = .ok (.aload_n 0, 1) := by decide +kernel
theorem d_Sc_cut_112 : decode m_Sc_cut.2.1 112 = .ok (.getfield 59, 3) := by decide +kernel
theorem d_Sc_cut_115 : decode m_Sc_cut.2.1 115 = .ok (.if_icmp .lt 8, 3) := by decide +kernel
theorem d_Sc_cut_118 : decode m_Sc_cut.2.1 118 = .ok (.bipush 46, 2) := by decide +kernel
theorem d_Sc_cut_120 : decode m_Sc_cut.2.1 120 = .ok (.goto 51, 3) := by decide +kernel
theorem d_Sc_cut_171 : decode m_Sc_cut.2.1 171 = .ok (.iastore, 1) := by decide +kernel
theorem d_Sc_cut_172 : decode m_Sc_cut.2.1 172 = .ok (.aload_n 0, 1) := by decide +kernel
theorem d_Sc_cut_173 : decode m_Sc_cut.2.1 173 = .ok (.dup, 1) := by decide +kernel
theorem d_Sc_cut_174 : decode m_Sc_cut.2.1 174 = .ok (.getfield 65, 3) := by decide +kernel
theorem d_Sc_cut_177 : decode m_Sc_cut.2.1 177 = .ok (.iconst 1, 1) := by decide +kernel
theorem d_Sc_cut_178 : decode m_Sc_cut.2.1 178 = .ok (.iadd, 1) := by decide +kernel
theorem d_Sc_cut_179 : decode m_Sc_cut.2.1 179 = .ok (.putfield 65, 3) := by decide +kernel
theorem d_Sc_cut_182 : decode m_Sc_cut.2.1 182 = .ok (.aload_n 0, 1) := by decide +kernel
theorem d_Sc_cut_183 : decode m_Sc_cut.2.1 183 = .ok (.getfield 15, 3) := by decide +kernel
theorem d_Sc_cut_186 : decode m_Sc_cut.2.1 186 = .ok (.aload_n 0, 1) := by decide +kernel
theorem d_Sc_cut_187 : decode m_Sc_cut.2.1 187 = .ok (.getfield 65, 3) := by decide +kernel
theorem d_Sc_cut_190 : decode m_Sc_cut.2.1 190 = .ok (.iconst 1, 1) := by decide +kernel
theorem d_Sc_cut_191 : decode m_Sc_cut.2.1 191 = .ok (.isub, 1) := by decide +kernel
theorem d_Sc_cut_192 : decode m_Sc_cut.2.1 192 = .ok (.iaload, 1) := by decide +kernel
theorem d_Sc_cut_193 : decode m_Sc_cut.2.1 193 = .ok (.bipush 46, 2) := by decide +kernel
theorem d_Sc_cut_195 : decode m_Sc_cut.2.1 195 = .ok (.if_icmp .ne 4, 3) := by decide +kernel
theorem d_Sc_cut_198 : decode m_Sc_cut.2.1 198 = .ok (.return_, 1) := by decide +kernel
theorem d_Pa_begin_0 : decode m_Pa_begin.2.1 0 = .ok (.aload_n 0, 1) := by decide +kernel
theorem d_Pa_begin_1 : decode m_Pa_begin.2.1 1 = .ok (.aload_n 1, 1) := by decide +kernel
theorem d_Pa_begin_2 : decode m_Pa_begin.2.1 2 = .ok (.putfield 33, 3) := by decide +kernel
theorem d_Pa_begin_5 : decode m_Pa_begin.2.1 5 = .ok (.aload_n 0, 1) := by decide +kernel
theorem d_Pa_begin_6 : decode m_Pa_begin.2.1 6 = .ok (.aload_n 2, 1) := by decide +kernel
theorem d_Pa_begin_7 : decode m_Pa_begin.2.1 7 = .ok (.putfield 37, 3) := by decide +kernel
theorem d_Pa_begin_10 : decode m_Pa_begin.2.1 10 = .ok (.aload_n 0, 1) := by decide +kernel
theorem d_Pa_begin_11 : decode m_Pa_begin.2.1 11 = .ok (.getfield 37, 3) := by decide +kernel
theorem d_Pa_begin_14 : decode m_Pa_begin.2.1 14 = .ok (.invokevirtual 41, 3) := by decide +kernel
theorem d_Pa_begin_17 : decode m_Pa_begin.2.1 17 = .ok (.aload_n 0, 1) := by decide +kernel
theorem d_Pa_begin_18 : decode m_Pa_begin.2.1 18 = .ok (.iconst 0, 1) := by decide +kernel
theorem d_Pa_begin_19 : decode m_Pa_begin.2.1 19 = .ok (.putfield 46, 3) := by decide +kernel
theorem d_Pa_begin_22 : decode m_Pa_begin.2.1 22 = .ok (.aload_n 0, 1) := by decide +kernel
theorem d_Pa_begin_23 : decode m_Pa_begin.2.1 23 = .ok (.iconst 0, 1) := by decide +kernel
theorem d_Pa_begin_24 : decode m_Pa_begin.2.1 24 = .ok (.putfield 50, 3) := by decide +kernel
theorem d_Pa_begin_27 : decode m_Pa_begin.2.1 27 = .ok (.return_, 1) := by decide +kernel
theorem d_Pr_clear_0 : decode m_Pr_clear.2.1 0 = .ok (.aload_n 0, 1) := by decide +kernel
theorem d_Pr_clear_1 : decode m_Pr_clear.2.1 1 = .ok (.iconst 0, 1) := by decide +kernel
theorem d_Pr_clear_2 : decode m_Pr_clear.2.1 2 = .ok (.putfield 49, 3) := by decide +kernel
theorem d_Pr_clear_5 : decode m_Pr_clear.2.1 5 = .ok (.aload_n 0, 1) := by decide +kernel
theorem d_Pr_clear_6 : decode m_Pr_clear.2.1 6 = .ok (.iconst 0, 1) := by decide +kernel
theorem d_Pr_clear_7 : decode m_Pr_clear.2.1 7 = .ok (.putfield 53, 3) := by decide +kernel
theorem d_Pr_clear_10 : decode m_Pr_clear.2.1 10 = .ok (.aload_n 0, 1) := by decide +kernel
theorem d_Pr_clear_11 : decode m_Pr_clear.2.1 11 = .ok (.iconst 0, 1) := by decide +kernel
theorem d_Pr_clear_12 : decode m_Pr_clear.2.1 12 = .ok (.putfield 56, 3) := by decide +kernel
theorem d_Pr_clear_15 : decode m_Pr_clear.2.1 15 = .ok (.aload_n 0, 1) := by decide +kernel
theorem d_Pr_clear_16 : decode m_Pr_clear.2.1 16 = .ok (.iconst 0, 1) := by decide +kernel
theorem d_Pr_clear_17 : decode m_Pr_clear.2.1 17 = .ok (.putfield 59, 3) := by decide +kernel
theorem d_Pr_clear_20 : decode m_Pr_clear.2.1 20 = .ok (.aload_n 0, 1) := by decide +kernel
theorem d_Pr_clear_21 : decode m_Pr_clear.2.1 21 = .ok (.iconst 0, 1) := by decide +kernel
theorem d_Pr_clear_22 : decode m_Pr_clear.2.1 22 = .ok (.putfield 62, 3) := by decide +kernel
theorem d_Pr_clear_25 : decode m_Pr_clear.2.1 25 = .ok (.aload_n 0, 1) := by decide +kernel
theorem d_Pr_clear_26 : decode m_Pr_clear.2.1 26 = .ok (.iconst 0, 1) := by decide +kernel
theorem d_Pr_clear_27 : decode m_Pr_clear.2.1 27 = .ok (.putfield 65, 3) := by decide +kernel
theorem d_Pr_clear_30 : decode m_Pr_clear.2.1 30 = .ok (.aload_n 0, 1) := by decide +kernel
theorem d_Pr_clear_31 : decode m_Pr_clear.2.1 31 = .ok (.iconst (-1), 1) := by decide +kernel
theorem d_Pr_clear_32 : decode m_Pr_clear.2.1 32 = .ok (.putfield 68, 3) := by decide +kernel
theorem d_Pr_clear_35 : decode m_Pr_clear.2.1 35 = .ok (.aload_n 0, 1) := by decide +kernel
theorem d_Pr_clear_36 : decode m_Pr_clear.2.1 36 = .ok (.iconst 0, 1) := by decide +kernel
theorem d_Pr_clear_37 : decode m_Pr_clear.2.1 37 = .ok (.putfield 71, 3) := by decide +kernel
theorem d_Pr_clear_40 : decode m_Pr_clear.2.1 40 = .ok (.aload_n 0, 1) := by decide +kernel
theorem d_Pr_clear_41 : decode m_Pr_clear.2.1 41 = .ok (.iconst 0, 1) := by decide +kernel
theorem d_Pr_clear_42 : decode m_Pr_clear.2.1 42 = .ok (.putfield 74, 3) := by decide +kernel
theorem d_Pr_clear_45 : decode m_Pr_clear.2.1 45 = .ok (.return_, 1) := by decide +kernel
theorem d_Pa_declarations_0 : decode m_Pa_declarations.2.1 0 = .ok (.iconst 1, 1) := by decide +kernel
theorem d_Pa_declarations_1 : decode m_Pa_declarations.2.1 1 = .ok (.istore_n 1, 1) := by decide +kernel
theorem d_Pa_declarations_2 : decode m_Pa_declarations.2.1 2 = .ok (.iconst 0, 1) := by decide +kernel
theorem d_Pa_declarations_3 : decode m_Pa_declarations.2.1 3 = .ok (.istore_n 2, 1) := by decide +kernel
theorem d_Pa_declarations_4 : decode m_Pa_declarations.2.1 4 = .ok (.iload_n 2, 1) := by decide +kernel
theorem d_Pa_declarations_5 : decode m_Pa_declarations.2.1 5 = .ok (.sipush 4096, 3) := by decide +kernel
theorem d_Pa_declarations_8 : decode m_Pa_declarations.2.1 8 = .ok (.if_icmp .ge 44, 3) := by decide +kernel
theorem d_Pa_declarations_11 : decode m_Pa_declarations.2.1 11 = .ok (.iload_n 1, 1) := by decide +kernel
theorem d_Pa_declarations_12 : decode m_Pa_declarations.2.1 12 = .ok (.ifCond .eq 40, 3) := by decide +kernel
theorem d_Pa_declarations_15 : decode m_Pa_declarations.2.1 15 = .ok (.aload_n 0, 1) := by decide +kernel
theorem d_Pa_declarations_16 : decode m_Pa_declarations.2.1 16 = .ok (.getfield 33, 3) := by decide +kernel
theorem d_Pa_declarations_19 : decode m_Pa_declarations.2.1 19 = .ok (.invokevirtual 75, 3) := by decide +kernel
theorem d_Pa_declarations_22 : decode m_Pa_declarations.2.1 22 = .ok (.bipush 39, 2) := by decide +kernel
theorem d_Pa_declarations_24 : decode m_Pa_declarations.2.1 24 = .ok (.if_icmp .eq 17, 3) := by decide +kernel
theorem d_Pa_declarations_27 : decode m_Pa_declarations.2.1 27 = .ok (.aload_n 0, 1) := by decide +kernel
theorem d_Pa_declarations_28 : decode m_Pa_declarations.2.1 28 = .ok (.getfield 33, 3) := by decide +kernel
theorem d_Pa_declarations_31 : decode m_Pa_declarations.2.1 31 = .ok (.invokevirtual 75, 3) := by decide +kernel
theorem d_Pa_declarations_34 : decode m_Pa_declarations.2.1 34 = .ok (.bipush 40, 2) := by decide +kernel
theorem d_Pa_declarations_36 : decode m_Pa_declarations.2.1 36 = .ok (.if_icmp .eq 5, 3) := by decide +kernel
theorem d_Pa_declarations_39 : decode m_Pa_declarations.2.1 39 = .ok (.iconst 1, 1) := by decide +kernel
theorem d_Pa_declarations_40 : decode m_Pa_declarations.2.1 40 = .ok (.ireturn, 1) := by decide +kernel
theorem d_Sc_kind_0 : decode m_Sc_kind.2.1 0 = .ok (.aload_n 0, 1) := by decide +kernel
theorem d_Sc_kind_1 : decode m_Sc_kind.2.1 1 = .ok (.getfield 15, 3) := by decide +kernel
theorem d_Sc_kind_4 : decode m_Sc_kind.2.1 4 = .ok (.aload_n 0, 1) := by decide +kernel
theorem d_Sc_kind_5 : decode m_Sc_kind.2.1 5 = .ok (.getfield 62, 3) := by decide +kernel
theorem d_Sc_kind_8 : decode m_Sc_kind.2.1 8 = .ok (.iaload, 1) := by decide +kernel
theorem d_Sc_kind_9 : decode m_Sc_kind.2.1 9 = .ok (.ireturn, 1) := by decide +kernel
theorem d_Pa_statements_0 : decode m_Pa_statements.2.1 0 = .ok (.iconst 1, 1) := by decide +kernel
theorem d_Pa_statements_1 : decode m_Pa_statements.2.1 1 = .ok (.istore_n 1, 1) := by decide +kernel
theorem d_Pa_statements_2 : decode m_Pa_statements.2.1 2 = .ok (.iconst 0, 1) := by decide +kernel
theorem d_Pa_statements_3 : decode m_Pa_statements.2.1 3 = .ok (.istore_n 2, 1) := by decide +kernel
theorem d_Pa_statements_4 : decode m_Pa_statements.2.1 4 = .ok (.iload_n 2, 1) := by decide +kernel
theorem d_Pa_statements_5 : decode m_Pa_statements.2.1 5 = .ok (.sipush 4096, 3) := by decide +kernel
theorem d_Pa_statements_8 : decode m_Pa_statements.2.1 8 = .ok (.if_icmp .gt 189, 3) := by decide +kernel
theorem d_Pa_statements_11 : decode m_Pa_statements.2.1 11 = .ok (.iload_n 1, 1) := by decide +kernel
theorem d_Pa_statements_12 : decode m_Pa_statements.2.1 12 = .ok (.ifCond .eq 185, 3) := by decide +kernel
theorem d_Pa_statements_15 : decode m_Pa_statements.2.1 15 = .ok (.aload_n 0, 1) := by decide +kernel
theorem d_Pa_statements_16 : decode m_Pa_statements.2.1 16 = .ok (.getfield 46, 3) := by decide +kernel
theorem d_Pa_statements_19 : decode m_Pa_statements.2.1 19 = .ok (.bipush 30, 2) := by decide +kernel
theorem d_Pa_statements_21 : decode m_Pa_statements.2.1 21 = .ok (.if_icmp .le 17, 3) := by decide +kernel
theorem d_Pa_statements_38 : decode m_Pa_statements.2.1 38 = .ok (.aload_n 0, 1) := by decide +kernel
theorem d_Pa_statements_39 : decode m_Pa_statements.2.1 39 = .ok (.getfield 33, 3) := by decide +kernel
theorem d_Pa_statements_42 : decode m_Pa_statements.2.1 42 = .ok (.invokevirtual 75, 3) := by decide +kernel
theorem d_Pa_statements_45 : decode m_Pa_statements.2.1 45 = .ok (.tableswitch 121 30 45 #[79, 121, 121, 121, 121, 121, 121, 95, 113, 121, 121, 87, 121, 87, 79, 79], 79) := by decide +kernel
theorem d_Pa_statements_166 : decode m_Pa_statements.2.1 166 = .ok (.aload_n 0, 1) := by decide +kernel
theorem d_Pa_statements_167 : decode m_Pa_statements.2.1 167 = .ok (.getfield 33, 3) := by decide +kernel
theorem d_Pa_statements_170 : decode m_Pa_statements.2.1 170 = .ok (.invokevirtual 75, 3) := by decide +kernel
theorem d_Pa_statements_173 : decode m_Pa_statements.2.1 173 = .ok (.bipush 46, 2) := by decide +kernel
theorem d_Pa_statements_175 : decode m_Pa_statements.2.1 175 = .ok (.if_icmp .ne 14, 3) := by decide +kernel
theorem d_Pa_statements_178 : decode m_Pa_statements.2.1 178 = .ok (.aload_n 0, 1) := by decide +kernel
theorem d_Pa_statements_179 : decode m_Pa_statements.2.1 179 = .ok (.getfield 46, 3) := by decide +kernel
theorem d_Pa_statements_182 : decode m_Pa_statements.2.1 182 = .ok (.ifCond .ne 7, 3) := by decide +kernel
theorem d_Pa_statements_185 : decode m_Pa_statements.2.1 185 = .ok (.iconst 1, 1) := by decide +kernel
theorem d_Pa_statements_186 : decode m_Pa_statements.2.1 186 = .ok (.goto 4, 3) := by decide +kernel
theorem d_Pa_statements_190 : decode m_Pa_statements.2.1 190 = .ok (.ireturn, 1) := by decide +kernel
theorem d_Pa_conclude_0 : decode m_Pa_conclude.2.1 0 = .ok (.iload_n 1, 1) := by decide +kernel
theorem d_Pa_conclude_1 : decode m_Pa_conclude.2.1 1 = .ok (.ifCond .ne 28, 3) := by decide +kernel
theorem d_Pa_conclude_29 : decode m_Pa_conclude.2.1 29 = .ok (.aload_n 0, 1) := by decide +kernel
theorem d_Pa_conclude_30 : decode m_Pa_conclude.2.1 30 = .ok (.getfield 37, 3) := by decide +kernel
theorem d_Pa_conclude_33 : decode m_Pa_conclude.2.1 33 = .ok (.getfield 65, 3) := by decide +kernel
theorem d_Pa_conclude_36 : decode m_Pa_conclude.2.1 36 = .ok (.sipush 1500, 3) := by decide +kernel
theorem d_Pa_conclude_39 : decode m_Pa_conclude.2.1 39 = .ok (.if_icmp .le 19, 3) := by decide +kernel
theorem d_Pa_conclude_58 : decode m_Pa_conclude.2.1 58 = .ok (.return_, 1) := by decide +kernel
theorem d_Ma_forget_0 : decode m_Ma_forget.2.1 0 = .ok (.aload_n 0, 1) := by decide +kernel
theorem d_Ma_forget_1 : decode m_Ma_forget.2.1 1 = .ok (.getfield 15, 3) := by decide +kernel
theorem d_Ma_forget_4 : decode m_Ma_forget.2.1 4 = .ok (.iconst 0, 1) := by decide +kernel
theorem d_Ma_forget_5 : decode m_Ma_forget.2.1 5 = .ok (.invokestatic 25, 3) := by decide +kernel
theorem d_Ma_forget_8 : decode m_Ma_forget.2.1 8 = .ok (.aload_n 0, 1) := by decide +kernel
theorem d_Ma_forget_9 : decode m_Ma_forget.2.1 9 = .ok (.iconst 0, 1) := by decide +kernel
theorem d_Ma_forget_10 : decode m_Ma_forget.2.1 10 = .ok (.putfield 31, 3) := by decide +kernel
theorem d_Ma_forget_13 : decode m_Ma_forget.2.1 13 = .ok (.aload_n 0, 1) := by decide +kernel
theorem d_Ma_forget_14 : decode m_Ma_forget.2.1 14 = .ok (.iconst (-1), 1) := by decide +kernel
theorem d_Ma_forget_15 : decode m_Ma_forget.2.1 15 = .ok (.putfield 9, 3) := by decide +kernel
theorem d_Ma_forget_18 : decode m_Ma_forget.2.1 18 = .ok (.return_, 1) := by decide +kernel
theorem d_In_study_0 : decode m_In_study.2.1 0 = .ok (.aload_n 0, 1) := by decide +kernel
theorem d_In_study_1 : decode m_In_study.2.1 1 = .ok (.aload_n 1, 1) := by decide +kernel
theorem d_In_study_2 : decode m_In_study.2.1 2 = .ok (.putfield 42, 3) := by decide +kernel
theorem d_In_study_5 : decode m_In_study.2.1 5 = .ok (.aload_n 0, 1) := by decide +kernel
theorem d_In_study_6 : decode m_In_study.2.1 6 = .ok (.iconst 0, 1) := by decide +kernel
theorem d_In_study_7 : decode m_In_study.2.1 7 = .ok (.putfield 46, 3) := by decide +kernel
theorem d_In_study_10 : decode m_In_study.2.1 10 = .ok (.return_, 1) := by decide +kernel
theorem d_En_encode_0 : decode m_En_encode.2.1 0 = .ok (.aload_n 0, 1) := by decide +kernel
theorem d_En_encode_1 : decode m_En_encode.2.1 1 = .ok (.aload_n 1, 1) := by decide +kernel
theorem d_En_encode_2 : decode m_En_encode.2.1 2 = .ok (.putfield 50, 3) := by decide +kernel
theorem d_En_encode_5 : decode m_En_encode.2.1 5 = .ok (.aload_n 0, 1) := by decide +kernel
theorem d_En_encode_6 : decode m_En_encode.2.1 6 = .ok (.getfield 12, 3) := by decide +kernel
theorem d_En_encode_9 : decode m_En_encode.2.1 9 = .ok (.getfield 46, 3) := by decide +kernel
theorem d_En_encode_12 : decode m_En_encode.2.1 12 = .ok (.invokevirtual 54, 3) := by decide +kernel
theorem d_En_encode_15 : decode m_En_encode.2.1 15 = .ok (.aload_n 0, 1) := by decide +kernel
theorem d_En_encode_16 : decode m_En_encode.2.1 16 = .ok (.invokevirtual 59, 3) := by decide +kernel
theorem d_En_encode_19 : decode m_En_encode.2.1 19 = .ok (.aload_n 0, 1) := by decide +kernel
theorem d_En_encode_20 : decode m_En_encode.2.1 20 = .ok (.getfield 22, 3) := by decide +kernel
theorem d_En_encode_23 : decode m_En_encode.2.1 23 = .ok (.iconst 1, 1) := by decide +kernel
theorem d_En_encode_24 : decode m_En_encode.2.1 24 = .ok (.invokestatic 62, 3) := by decide +kernel
theorem d_En_encode_27 : decode m_En_encode.2.1 27 = .ok (.aload_n 0, 1) := by decide +kernel
theorem d_En_encode_28 : decode m_En_encode.2.1 28 = .ok (.getfield 25, 3) := by decide +kernel
theorem d_En_encode_31 : decode m_En_encode.2.1 31 = .ok (.iconst 1, 1) := by decide +kernel
theorem d_En_encode_32 : decode m_En_encode.2.1 32 = .ok (.invokestatic 62, 3) := by decide +kernel
theorem d_En_encode_35 : decode m_En_encode.2.1 35 = .ok (.aload_n 0, 1) := by decide +kernel
theorem d_En_encode_36 : decode m_En_encode.2.1 36 = .ok (.iconst 0, 1) := by decide +kernel
theorem d_En_encode_37 : decode m_En_encode.2.1 37 = .ok (.putfield 68, 3) := by decide +kernel
theorem d_En_encode_40 : decode m_En_encode.2.1 40 = .ok (.aload_n 0, 1) := by decide +kernel
theorem d_En_encode_41 : decode m_En_encode.2.1 41 = .ok (.iconst 0, 1) := by decide +kernel
theorem d_En_encode_42 : decode m_En_encode.2.1 42 = .ok (.putfield 72, 3) := by decide +kernel
theorem d_En_encode_45 : decode m_En_encode.2.1 45 = .ok (.aload_n 0, 1) := by decide +kernel
theorem d_En_encode_46 : decode m_En_encode.2.1 46 = .ok (.iconst 0, 1) := by decide +kernel
theorem d_En_encode_47 : decode m_En_encode.2.1 47 = .ok (.putfield 75, 3) := by decide +kernel
theorem d_En_encode_50 : decode m_En_encode.2.1 50 = .ok (.iconst 0, 1) := by decide +kernel
theorem d_En_encode_51 : decode m_En_encode.2.1 51 = .ok (.istore_n 2, 1) := by decide +kernel
theorem d_En_encode_52 : decode m_En_encode.2.1 52 = .ok (.iconst 0, 1) := by decide +kernel
theorem d_En_encode_53 : decode m_En_encode.2.1 53 = .ok (.istore_n 3, 1) := by decide +kernel
theorem d_En_encode_54 : decode m_En_encode.2.1 54 = .ok (.iload_n 3, 1) := by decide +kernel
theorem d_En_encode_55 : decode m_En_encode.2.1 55 = .ok (.ldc 78, 2) := by decide +kernel
theorem d_En_encode_57 : decode m_En_encode.2.1 57 = .ok (.if_icmp .ge 57, 3) := by decide +kernel
theorem d_En_encode_60 : decode m_En_encode.2.1 60 = .ok (.iload_n 2, 1) := by decide +kernel
theorem d_En_encode_61 : decode m_En_encode.2.1 61 = .ok (.aload_n 0, 1) := by decide +kernel
theorem d_En_encode_62 : decode m_En_encode.2.1 62 = .ok (.getfield 50, 3) := by decide +kernel
theorem d_En_encode_65 : decode m_En_encode.2.1 65 = .ok (.getfield 79, 3) := by decide +kernel
theorem d_En_encode_68 : decode m_En_encode.2.1 68 = .ok (.if_icmp .ge 46, 3) := by decide +kernel
theorem d_En_encode_114 : decode m_En_encode.2.1 114 = .ok (.aload_n 0, 1) := by decide +kernel
theorem d_En_encode_115 : decode m_En_encode.2.1 115 = .ok (.iconst 1, 1) := by decide +kernel
theorem d_En_encode_116 : decode m_En_encode.2.1 116 = .ok (.putfield 101, 3) := by decide +kernel
theorem d_En_encode_119 : decode m_En_encode.2.1 119 = .ok (.iconst 0, 1) := by decide +kernel
theorem d_En_encode_120 : decode m_En_encode.2.1 120 = .ok (.istore_n 3, 1) := by decide +kernel
theorem d_En_encode_121 : decode m_En_encode.2.1 121 = .ok (.iload_n 3, 1) := by decide +kernel
theorem d_En_encode_122 : decode m_En_encode.2.1 122 = .ok (.aload_n 0, 1) := by decide +kernel
theorem d_En_encode_123 : decode m_En_encode.2.1 123 = .ok (.getfield 50, 3) := by decide +kernel
theorem d_En_encode_126 : decode m_En_encode.2.1 126 = .ok (.getfield 104, 3) := by decide +kernel
theorem d_En_encode_129 : decode m_En_encode.2.1 129 = .ok (.if_icmp .ge 33, 3) := by decide +kernel
theorem d_En_encode_162 : decode m_En_encode.2.1 162 = .ok (.aload_n 0, 1) := by decide +kernel
theorem d_En_encode_163 : decode m_En_encode.2.1 163 = .ok (.aload_n 0, 1) := by decide +kernel
theorem d_En_encode_164 : decode m_En_encode.2.1 164 = .ok (.getfield 12, 3) := by decide +kernel
theorem d_En_encode_167 : decode m_En_encode.2.1 167 = .ok (.getfield 46, 3) := by decide +kernel
theorem d_En_encode_170 : decode m_En_encode.2.1 170 = .ok (.getfield 110, 3) := by decide +kernel
theorem d_En_encode_173 : decode m_En_encode.2.1 173 = .ok (.putfield 113, 3) := by decide +kernel
theorem d_En_encode_176 : decode m_En_encode.2.1 176 = .ok (.return_, 1) := by decide +kernel
theorem d_Ci_clear_0 : decode m_Ci_clear.2.1 0 = .ok (.aload_n 0, 1) := by decide +kernel
theorem d_Ci_clear_1 : decode m_Ci_clear.2.1 1 = .ok (.getfield 30, 3) := by decide +kernel
theorem d_Ci_clear_4 : decode m_Ci_clear.2.1 4 = .ok (.iconst 0, 1) := by decide +kernel
theorem d_Ci_clear_5 : decode m_Ci_clear.2.1 5 = .ok (.invokestatic 37, 3) := by decide +kernel
theorem d_Ci_clear_8 : decode m_Ci_clear.2.1 8 = .ok (.aload_n 0, 1) := by decide +kernel
theorem d_Ci_clear_9 : decode m_Ci_clear.2.1 9 = .ok (.iconst 1, 1) := by decide +kernel
theorem d_Ci_clear_10 : decode m_Ci_clear.2.1 10 = .ok (.putfield 33, 3) := by decide +kernel
theorem d_Ci_clear_13 : decode m_Ci_clear.2.1 13 = .ok (.return_, 1) := by decide +kernel
theorem d_En_makeInputs_0 : decode m_En_makeInputs.2.1 0 = .ok (.aload_n 0, 1) := by decide +kernel
theorem d_En_makeInputs_1 : decode m_En_makeInputs.2.1 1 = .ok (.getfield 18, 3) := by decide +kernel
theorem d_En_makeInputs_4 : decode m_En_makeInputs.2.1 4 = .ok (.iconst 1, 1) := by decide +kernel
theorem d_En_makeInputs_5 : decode m_En_makeInputs.2.1 5 = .ok (.invokestatic 62, 3) := by decide +kernel
theorem d_En_makeInputs_8 : decode m_En_makeInputs.2.1 8 = .ok (.iconst 0, 1) := by decide +kernel
theorem d_En_makeInputs_9 : decode m_En_makeInputs.2.1 9 = .ok (.istore_n 1, 1) := by decide +kernel
theorem d_En_makeInputs_10 : decode m_En_makeInputs.2.1 10 = .ok (.iload_n 1, 1) := by decide +kernel
theorem d_En_makeInputs_11 : decode m_En_makeInputs.2.1 11 = .ok (.aload_n 0, 1) := by decide +kernel
theorem d_En_makeInputs_12 : decode m_En_makeInputs.2.1 12 = .ok (.getfield 50, 3) := by decide +kernel
theorem d_En_makeInputs_15 : decode m_En_makeInputs.2.1 15 = .ok (.getfield 114, 3) := by decide +kernel
theorem d_En_makeInputs_18 : decode m_En_makeInputs.2.1 18 = .ok (.if_icmp .ge 51, 3) := by decide +kernel
theorem d_En_makeInputs_69 : decode m_En_makeInputs.2.1 69 = .ok (.return_, 1) := by decide +kernel
theorem d_M_build_0 : decode m_M_build.2.1 0 = .ok (.aload_n 0, 1) := by decide +kernel
theorem d_M_build_1 : decode m_M_build.2.1 1 = .ok (.invokevirtual 336, 3) := by decide +kernel
theorem d_M_build_4 : decode m_M_build.2.1 4 = .ok (.aload_n 0, 1) := by decide +kernel
theorem d_M_build_5 : decode m_M_build.2.1 5 = .ok (.invokevirtual 333, 3) := by decide +kernel
theorem d_M_build_8 : decode m_M_build.2.1 8 = .ok (.aload_n 0, 1) := by decide +kernel
theorem d_M_build_9 : decode m_M_build.2.1 9 = .ok (.invokevirtual 339, 3) := by decide +kernel
theorem d_M_build_12 : decode m_M_build.2.1 12 = .ok (.istore_n 1, 1) := by decide +kernel
theorem d_M_build_13 : decode m_M_build.2.1 13 = .ok (.goto 14, 3) := by decide +kernel
theorem d_M_build_27 : decode m_M_build.2.1 27 = .ok (.aload_n 0, 1) := by decide +kernel
theorem d_M_build_28 : decode m_M_build.2.1 28 = .ok (.getfield 237, 3) := by decide +kernel
theorem d_M_build_31 : decode m_M_build.2.1 31 = .ok (.ifCond .eq 16, 3) := by decide +kernel
theorem d_M_build_47 : decode m_M_build.2.1 47 = .ok (.aload_n 0, 1) := by decide +kernel
theorem d_M_build_48 : decode m_M_build.2.1 48 = .ok (.iload_n 1, 1) := by decide +kernel
theorem d_M_build_49 : decode m_M_build.2.1 49 = .ok (.invokevirtual 322, 3) := by decide +kernel
theorem d_M_build_52 : decode m_M_build.2.1 52 = .ok (.lstore_n 2, 1) := by decide +kernel
theorem d_M_build_53 : decode m_M_build.2.1 53 = .ok (.lload_n 2, 1) := by decide +kernel
theorem d_M_build_54 : decode m_M_build.2.1 54 = .ok (.ldc2_w 345, 3) := by decide +kernel
theorem d_M_build_57 : decode m_M_build.2.1 57 = .ok (.lcmp, 1) := by decide +kernel
theorem d_M_build_58 : decode m_M_build.2.1 58 = .ok (.ifCond .le 14, 3) := by decide +kernel
theorem d_M_build_72 : decode m_M_build.2.1 72 = .ok (.aload_n 0, 1) := by decide +kernel
theorem d_M_build_73 : decode m_M_build.2.1 73 = .ok (.iconst 0, 1) := by decide +kernel
theorem d_M_build_74 : decode m_M_build.2.1 74 = .ok (.putfield 141, 3) := by decide +kernel
theorem d_M_build_77 : decode m_M_build.2.1 77 = .ok (.aload_n 0, 1) := by decide +kernel
theorem d_M_build_78 : decode m_M_build.2.1 78 = .ok (.iconst 0, 1) := by decide +kernel
theorem d_M_build_79 : decode m_M_build.2.1 79 = .ok (.putfield 144, 3) := by decide +kernel
theorem d_M_build_82 : decode m_M_build.2.1 82 = .ok (.aload_n 0, 1) := by decide +kernel
theorem d_M_build_83 : decode m_M_build.2.1 83 = .ok (.iconst 1, 1) := by decide +kernel
theorem d_M_build_84 : decode m_M_build.2.1 84 = .ok (.putfield 347, 3) := by decide +kernel
theorem d_M_build_87 : decode m_M_build.2.1 87 = .ok (.aload_n 0, 1) := by decide +kernel
theorem d_M_build_88 : decode m_M_build.2.1 88 = .ok (.iload_n 1, 1) := by decide +kernel
theorem d_M_build_89 : decode m_M_build.2.1 89 = .ok (.putfield 351, 3) := by decide +kernel
theorem d_M_build_92 : decode m_M_build.2.1 92 = .ok (.aload_n 0, 1) := by decide +kernel
theorem d_M_build_93 : decode m_M_build.2.1 93 = .ok (.lload_n 2, 1) := by decide +kernel
theorem d_M_build_94 : decode m_M_build.2.1 94 = .ok (.l2i, 1) := by decide +kernel
theorem d_M_build_95 : decode m_M_build.2.1 95 = .ok (.putfield 354, 3) := by decide +kernel
theorem d_M_build_98 : decode m_M_build.2.1 98 = .ok (.aload_n 0, 1) := by decide +kernel
theorem d_M_build_99 : decode m_M_build.2.1 99 = .ok (.aload_n 0, 1) := by decide +kernel
theorem d_M_build_100 : decode m_M_build.2.1 100 = .ok (.getfield 264, 3) := by decide +kernel
theorem d_M_build_103 : decode m_M_build.2.1 103 = .ok (.putfield 357, 3) := by decide +kernel
theorem d_M_build_106 : decode m_M_build.2.1 106 = .ok (.aload_n 0, 1) := by decide +kernel
theorem d_M_build_107 : decode m_M_build.2.1 107 = .ok (.aload_n 0, 1) := by decide +kernel
theorem d_M_build_108 : decode m_M_build.2.1 108 = .ok (.getfield 261, 3) := by decide +kernel
theorem d_M_build_111 : decode m_M_build.2.1 111 = .ok (.putfield 360, 3) := by decide +kernel
theorem d_M_build_114 : decode m_M_build.2.1 114 = .ok (.aload_n 0, 1) := by decide +kernel
theorem d_M_build_115 : decode m_M_build.2.1 115 = .ok (.aload_n 0, 1) := by decide +kernel
theorem d_M_build_116 : decode m_M_build.2.1 116 = .ok (.getfield 280, 3) := by decide +kernel
theorem d_M_build_119 : decode m_M_build.2.1 119 = .ok (.putfield 363, 3) := by decide +kernel
theorem d_M_build_122 : decode m_M_build.2.1 122 = .ok (.aload_n 0, 1) := by decide +kernel
theorem d_M_build_123 : decode m_M_build.2.1 123 = .ok (.aload_n 0, 1) := by decide +kernel
theorem d_M_build_124 : decode m_M_build.2.1 124 = .ok (.getfield 258, 3) := by decide +kernel
theorem d_M_build_127 : decode m_M_build.2.1 127 = .ok (.putfield 366, 3) := by decide +kernel
theorem d_M_build_130 : decode m_M_build.2.1 130 = .ok (.iconst 0, 1) := by decide +kernel
theorem d_M_build_131 : decode m_M_build.2.1 131 = .ok (.istore 4, 2) := by decide +kernel
theorem d_M_build_133 : decode m_M_build.2.1 133 = .ok (.iload 4, 2) := by decide +kernel
theorem d_M_build_135 : decode m_M_build.2.1 135 = .ok (.bipush 16, 2) := by decide +kernel
theorem d_M_build_137 : decode m_M_build.2.1 137 = .ok (.if_icmp .ge 53, 3) := by decide +kernel
theorem d_M_build_140 : decode m_M_build.2.1 140 = .ok (.aload_n 0, 1) := by decide +kernel
theorem d_M_build_141 : decode m_M_build.2.1 141 = .ok (.getfield 49, 3) := by decide +kernel
theorem d_M_build_144 : decode m_M_build.2.1 144 = .ok (.iload 4, 2) := by decide +kernel
theorem d_M_build_146 : decode m_M_build.2.1 146 = .ok (.aload_n 0, 1) := by decide +kernel
theorem d_M_build_147 : decode m_M_build.2.1 147 = .ok (.getfield 55, 3) := by decide +kernel
theorem d_M_build_150 : decode m_M_build.2.1 150 = .ok (.iload 4, 2) := by decide +kernel
theorem d_M_build_152 : decode m_M_build.2.1 152 = .ok (.iaload, 1) := by decide +kernel
theorem d_M_build_153 : decode m_M_build.2.1 153 = .ok (.iastore, 1) := by decide +kernel
theorem d_M_build_154 : decode m_M_build.2.1 154 = .ok (.aload_n 0, 1) := by decide +kernel
theorem d_M_build_155 : decode m_M_build.2.1 155 = .ok (.getfield 52, 3) := by decide +kernel
theorem d_M_build_158 : decode m_M_build.2.1 158 = .ok (.iload 4, 2) := by decide +kernel
theorem d_M_build_160 : decode m_M_build.2.1 160 = .ok (.aload_n 0, 1) := by decide +kernel
theorem d_M_build_161 : decode m_M_build.2.1 161 = .ok (.getfield 58, 3) := by decide +kernel
theorem d_M_build_164 : decode m_M_build.2.1 164 = .ok (.iload 4, 2) := by decide +kernel
theorem d_M_build_166 : decode m_M_build.2.1 166 = .ok (.iaload, 1) := by decide +kernel
theorem d_M_build_167 : decode m_M_build.2.1 167 = .ok (.iastore, 1) := by decide +kernel
theorem d_M_build_168 : decode m_M_build.2.1 168 = .ok (.aload_n 0, 1) := by decide +kernel
theorem d_M_build_169 : decode m_M_build.2.1 169 = .ok (.getfield 117, 3) := by decide +kernel
theorem d_M_build_172 : decode m_M_build.2.1 172 = .ok (.iload 4, 2) := by decide +kernel
theorem d_M_build_174 : decode m_M_build.2.1 174 = .ok (.iconst 0, 1) := by decide +kernel
theorem d_M_build_175 : decode m_M_build.2.1 175 = .ok (.iastore, 1) := by decide +kernel
theorem d_M_build_176 : decode m_M_build.2.1 176 = .ok (.aload_n 0, 1) := by decide +kernel
theorem d_M_build_177 : decode m_M_build.2.1 177 = .ok (.getfield 126, 3) := by decide +kernel
theorem d_M_build_180 : decode m_M_build.2.1 180 = .ok (.iload 4, 2) := by decide +kernel
theorem d_M_build_182 : decode m_M_build.2.1 182 = .ok (.iconst 0, 1) := by decide +kernel
theorem d_M_build_183 : decode m_M_build.2.1 183 = .ok (.iastore, 1) := by decide +kernel
theorem d_M_build_184 : decode m_M_build.2.1 184 = .ok (.iinc 4 1, 3) := by decide +kernel
theorem d_M_build_187 : decode m_M_build.2.1 187 = .ok (.goto (-54), 3) := by decide +kernel
theorem d_M_build_190 : decode m_M_build.2.1 190 = .ok (.aload_n 0, 1) := by decide +kernel
theorem d_M_build_191 : decode m_M_build.2.1 191 = .ok (.iconst (-1), 1) := by decide +kernel
theorem d_M_build_192 : decode m_M_build.2.1 192 = .ok (.putfield 129, 3) := by decide +kernel
theorem d_M_build_195 : decode m_M_build.2.1 195 = .ok (.aload_n 0, 1) := by decide +kernel
theorem d_M_build_196 : decode m_M_build.2.1 196 = .ok (.iconst (-1), 1) := by decide +kernel
theorem d_M_build_197 : decode m_M_build.2.1 197 = .ok (.putfield 132, 3) := by decide +kernel
theorem d_M_build_200 : decode m_M_build.2.1 200 = .ok (.aload_n 0, 1) := by decide +kernel
theorem d_M_build_201 : decode m_M_build.2.1 201 = .ok (.iconst 0, 1) := by decide +kernel
theorem d_M_build_202 : decode m_M_build.2.1 202 = .ok (.putfield 369, 3) := by decide +kernel
theorem d_M_build_205 : decode m_M_build.2.1 205 = .ok (.aload_n 0, 1) := by decide +kernel
theorem d_M_build_206 : decode m_M_build.2.1 206 = .ok (.getfield 363, 3) := by decide +kernel
theorem d_M_build_209 : decode m_M_build.2.1 209 = .ok (.ireturn, 1) := by decide +kernel
theorem d_M_cut_0 : decode m_M_cut.2.1 0 = .ok (.aload_n 0, 1) := by decide +kernel
theorem d_M_cut_1 : decode m_M_cut.2.1 1 = .ok (.iconst 0, 1) := by decide +kernel
theorem d_M_cut_2 : decode m_M_cut.2.1 2 = .ok (.putfield 155, 3) := by decide +kernel
theorem d_M_cut_5 : decode m_M_cut.2.1 5 = .ok (.iconst 0, 1) := by decide +kernel
theorem d_M_cut_6 : decode m_M_cut.2.1 6 = .ok (.istore_n 1, 1) := by decide +kernel
theorem d_M_cut_7 : decode m_M_cut.2.1 7 = .ok (.iload_n 1, 1) := by decide +kernel
theorem d_M_cut_8 : decode m_M_cut.2.1 8 = .ok (.aload_n 0, 1) := by decide +kernel
theorem d_M_cut_9 : decode m_M_cut.2.1 9 = .ok (.getfield 144, 3) := by decide +kernel
theorem d_M_cut_12 : decode m_M_cut.2.1 12 = .ok (.if_icmp .ge 297, 3) := by decide +kernel
theorem d_M_cut_309 : decode m_M_cut.2.1 309 = .ok (.aload_n 0, 1) := by decide +kernel
theorem d_M_cut_310 : decode m_M_cut.2.1 310 = .ok (.sipush 273, 3) := by decide +kernel
theorem d_M_cut_313 : decode m_M_cut.2.1 313 = .ok (.aload_n 0, 1) := by decide +kernel
theorem d_M_cut_314 : decode m_M_cut.2.1 314 = .ok (.getfield 144, 3) := by decide +kernel
theorem d_M_cut_317 : decode m_M_cut.2.1 317 = .ok (.invokevirtual 193, 3) := by decide +kernel
theorem d_M_cut_320 : decode m_M_cut.2.1 320 = .ok (.return_, 1) := by decide +kernel
theorem d_M_token_0 : decode m_M_token.2.1 0 = .ok (.aload_n 0, 1) := by decide +kernel
theorem d_M_token_1 : decode m_M_token.2.1 1 = .ok (.getfield 13, 3) := by decide +kernel
theorem d_M_token_4 : decode m_M_token.2.1 4 = .ok (.aload_n 0, 1) := by decide +kernel
theorem d_M_token_5 : decode m_M_token.2.1 5 = .ok (.getfield 155, 3) := by decide +kernel
theorem d_M_token_8 : decode m_M_token.2.1 8 = .ok (.iload_n 1, 1) := by decide +kernel
theorem d_M_token_9 : decode m_M_token.2.1 9 = .ok (.iastore, 1) := by decide +kernel
theorem d_M_token_10 : decode m_M_token.2.1 10 = .ok (.aload_n 0, 1) := by decide +kernel
theorem d_M_token_11 : decode m_M_token.2.1 11 = .ok (.getfield 17, 3) := by decide +kernel
theorem d_M_token_14 : decode m_M_token.2.1 14 = .ok (.aload_n 0, 1) := by decide +kernel
theorem d_M_token_15 : decode m_M_token.2.1 15 = .ok (.getfield 155, 3) := by decide +kernel
theorem d_M_token_18 : decode m_M_token.2.1 18 = .ok (.iload_n 2, 1) := by decide +kernel
theorem d_M_token_19 : decode m_M_token.2.1 19 = .ok (.iastore, 1) := by decide +kernel
theorem d_M_token_20 : decode m_M_token.2.1 20 = .ok (.aload_n 0, 1) := by decide +kernel
theorem d_M_token_21 : decode m_M_token.2.1 21 = .ok (.dup, 1) := by decide +kernel
theorem d_M_token_22 : decode m_M_token.2.1 22 = .ok (.getfield 155, 3) := by decide +kernel
theorem d_M_token_25 : decode m_M_token.2.1 25 = .ok (.iconst 1, 1) := by decide +kernel
theorem d_M_token_26 : decode m_M_token.2.1 26 = .ok (.iadd, 1) := by decide +kernel
theorem d_M_token_27 : decode m_M_token.2.1 27 = .ok (.putfield 155, 3) := by decide +kernel
theorem d_M_token_30 : decode m_M_token.2.1 30 = .ok (.return_, 1) := by decide +kernel
theorem d_M_swap_0 : decode m_M_swap.2.1 0 = .ok (.aload_n 0, 1) := by decide +kernel
theorem d_M_swap_1 : decode m_M_swap.2.1 1 = .ok (.getfield 61, 3) := by decide +kernel
theorem d_M_swap_4 : decode m_M_swap.2.1 4 = .ok (.astore_n 1, 1) := by decide +kernel
theorem d_M_swap_5 : decode m_M_swap.2.1 5 = .ok (.aload_n 0, 1) := by decide +kernel
theorem d_M_swap_6 : decode m_M_swap.2.1 6 = .ok (.aload_n 0, 1) := by decide +kernel
theorem d_M_swap_7 : decode m_M_swap.2.1 7 = .ok (.getfield 79, 3) := by decide +kernel
theorem d_M_swap_10 : decode m_M_swap.2.1 10 = .ok (.putfield 61, 3) := by decide +kernel
theorem d_M_swap_13 : decode m_M_swap.2.1 13 = .ok (.aload_n 0, 1) := by decide +kernel
theorem d_M_swap_14 : decode m_M_swap.2.1 14 = .ok (.aload_n 1, 1) := by decide +kernel
theorem d_M_swap_15 : decode m_M_swap.2.1 15 = .ok (.putfield 79, 3) := by decide +kernel
theorem d_M_swap_18 : decode m_M_swap.2.1 18 = .ok (.aload_n 0, 1) := by decide +kernel
theorem d_M_swap_19 : decode m_M_swap.2.1 19 = .ok (.getfield 64, 3) := by decide +kernel
theorem d_M_swap_22 : decode m_M_swap.2.1 22 = .ok (.astore_n 1, 1) := by decide +kernel
theorem d_M_swap_23 : decode m_M_swap.2.1 23 = .ok (.aload_n 0, 1) := by decide +kernel
theorem d_M_swap_24 : decode m_M_swap.2.1 24 = .ok (.aload_n 0, 1) := by decide +kernel
theorem d_M_swap_25 : decode m_M_swap.2.1 25 = .ok (.getfield 82, 3) := by decide +kernel
theorem d_M_swap_28 : decode m_M_swap.2.1 28 = .ok (.putfield 64, 3) := by decide +kernel
theorem d_M_swap_31 : decode m_M_swap.2.1 31 = .ok (.aload_n 0, 1) := by decide +kernel
theorem d_M_swap_32 : decode m_M_swap.2.1 32 = .ok (.aload_n 1, 1) := by decide +kernel
theorem d_M_swap_33 : decode m_M_swap.2.1 33 = .ok (.putfield 82, 3) := by decide +kernel
theorem d_M_swap_36 : decode m_M_swap.2.1 36 = .ok (.aload_n 0, 1) := by decide +kernel
theorem d_M_swap_37 : decode m_M_swap.2.1 37 = .ok (.getfield 67, 3) := by decide +kernel
theorem d_M_swap_40 : decode m_M_swap.2.1 40 = .ok (.astore_n 1, 1) := by decide +kernel
theorem d_M_swap_41 : decode m_M_swap.2.1 41 = .ok (.aload_n 0, 1) := by decide +kernel
theorem d_M_swap_42 : decode m_M_swap.2.1 42 = .ok (.aload_n 0, 1) := by decide +kernel
theorem d_M_swap_43 : decode m_M_swap.2.1 43 = .ok (.getfield 85, 3) := by decide +kernel
theorem d_M_swap_46 : decode m_M_swap.2.1 46 = .ok (.putfield 67, 3) := by decide +kernel
theorem d_M_swap_49 : decode m_M_swap.2.1 49 = .ok (.aload_n 0, 1) := by decide +kernel
theorem d_M_swap_50 : decode m_M_swap.2.1 50 = .ok (.aload_n 1, 1) := by decide +kernel
theorem d_M_swap_51 : decode m_M_swap.2.1 51 = .ok (.putfield 85, 3) := by decide +kernel
theorem d_M_swap_54 : decode m_M_swap.2.1 54 = .ok (.aload_n 0, 1) := by decide +kernel
theorem d_M_swap_55 : decode m_M_swap.2.1 55 = .ok (.getfield 70, 3) := by decide +kernel
theorem d_M_swap_58 : decode m_M_swap.2.1 58 = .ok (.astore_n 1, 1) := by decide +kernel
theorem d_M_swap_59 : decode m_M_swap.2.1 59 = .ok (.aload_n 0, 1) := by decide +kernel
theorem d_M_swap_60 : decode m_M_swap.2.1 60 = .ok (.aload_n 0, 1) := by decide +kernel
theorem d_M_swap_61 : decode m_M_swap.2.1 61 = .ok (.getfield 88, 3) := by decide +kernel
theorem d_M_swap_64 : decode m_M_swap.2.1 64 = .ok (.putfield 70, 3) := by decide +kernel
theorem d_M_swap_67 : decode m_M_swap.2.1 67 = .ok (.aload_n 0, 1) := by decide +kernel
theorem d_M_swap_68 : decode m_M_swap.2.1 68 = .ok (.aload_n 1, 1) := by decide +kernel
theorem d_M_swap_69 : decode m_M_swap.2.1 69 = .ok (.putfield 88, 3) := by decide +kernel
theorem d_M_swap_72 : decode m_M_swap.2.1 72 = .ok (.aload_n 0, 1) := by decide +kernel
theorem d_M_swap_73 : decode m_M_swap.2.1 73 = .ok (.getfield 73, 3) := by decide +kernel
theorem d_M_swap_76 : decode m_M_swap.2.1 76 = .ok (.astore_n 1, 1) := by decide +kernel
theorem d_M_swap_77 : decode m_M_swap.2.1 77 = .ok (.aload_n 0, 1) := by decide +kernel
theorem d_M_swap_78 : decode m_M_swap.2.1 78 = .ok (.aload_n 0, 1) := by decide +kernel
theorem d_M_swap_79 : decode m_M_swap.2.1 79 = .ok (.getfield 91, 3) := by decide +kernel
theorem d_M_swap_82 : decode m_M_swap.2.1 82 = .ok (.putfield 73, 3) := by decide +kernel
theorem d_M_swap_85 : decode m_M_swap.2.1 85 = .ok (.aload_n 0, 1) := by decide +kernel
theorem d_M_swap_86 : decode m_M_swap.2.1 86 = .ok (.aload_n 1, 1) := by decide +kernel
theorem d_M_swap_87 : decode m_M_swap.2.1 87 = .ok (.putfield 91, 3) := by decide +kernel
theorem d_M_swap_90 : decode m_M_swap.2.1 90 = .ok (.aload_n 0, 1) := by decide +kernel
theorem d_M_swap_91 : decode m_M_swap.2.1 91 = .ok (.getfield 76, 3) := by decide +kernel
theorem d_M_swap_94 : decode m_M_swap.2.1 94 = .ok (.astore_n 1, 1) := by decide +kernel
theorem d_M_swap_95 : decode m_M_swap.2.1 95 = .ok (.aload_n 0, 1) := by decide +kernel
theorem d_M_swap_96 : decode m_M_swap.2.1 96 = .ok (.aload_n 0, 1) := by decide +kernel
theorem d_M_swap_97 : decode m_M_swap.2.1 97 = .ok (.getfield 94, 3) := by decide +kernel
theorem d_M_swap_100 : decode m_M_swap.2.1 100 = .ok (.putfield 76, 3) := by decide +kernel
theorem d_M_swap_103 : decode m_M_swap.2.1 103 = .ok (.aload_n 0, 1) := by decide +kernel
theorem d_M_swap_104 : decode m_M_swap.2.1 104 = .ok (.aload_n 1, 1) := by decide +kernel
theorem d_M_swap_105 : decode m_M_swap.2.1 105 = .ok (.putfield 94, 3) := by decide +kernel
theorem d_M_swap_108 : decode m_M_swap.2.1 108 = .ok (.return_, 1) := by decide +kernel
theorem d_M_wholeProgram_0 : decode m_M_wholeProgram.2.1 0 = .ok (.aload_n 0, 1) := by decide +kernel
theorem d_M_wholeProgram_1 : decode m_M_wholeProgram.2.1 1 = .ok (.iconst 0, 1) := by decide +kernel
theorem d_M_wholeProgram_2 : decode m_M_wholeProgram.2.1 2 = .ok (.putfield 218, 3) := by decide +kernel
theorem d_M_wholeProgram_5 : decode m_M_wholeProgram.2.1 5 = .ok (.aload_n 0, 1) := by decide +kernel
theorem d_M_wholeProgram_6 : decode m_M_wholeProgram.2.1 6 = .ok (.iconst 0, 1) := by decide +kernel
theorem d_M_wholeProgram_7 : decode m_M_wholeProgram.2.1 7 = .ok (.putfield 224, 3) := by decide +kernel
theorem d_M_wholeProgram_10 : decode m_M_wholeProgram.2.1 10 = .ok (.aload_n 0, 1) := by decide +kernel
theorem d_M_wholeProgram_11 : decode m_M_wholeProgram.2.1 11 = .ok (.iconst 0, 1) := by decide +kernel
theorem d_M_wholeProgram_12 : decode m_M_wholeProgram.2.1 12 = .ok (.putfield 246, 3) := by decide +kernel
theorem d_M_wholeProgram_15 : decode m_M_wholeProgram.2.1 15 = .ok (.aload_n 0, 1) := by decide +kernel
theorem d_M_wholeProgram_16 : decode m_M_wholeProgram.2.1 16 = .ok (.iconst 0, 1) := by decide +kernel
theorem d_M_wholeProgram_17 : decode m_M_wholeProgram.2.1 17 = .ok (.putfield 264, 3) := by decide +kernel
theorem d_M_wholeProgram_20 : decode m_M_wholeProgram.2.1 20 = .ok (.aload_n 0, 1) := by decide +kernel
theorem d_M_wholeProgram_21 : decode m_M_wholeProgram.2.1 21 = .ok (.iconst 0, 1) := by decide +kernel
theorem d_M_wholeProgram_22 : decode m_M_wholeProgram.2.1 22 = .ok (.putfield 261, 3) := by decide +kernel
theorem d_M_wholeProgram_25 : decode m_M_wholeProgram.2.1 25 = .ok (.aload_n 0, 1) := by decide +kernel
theorem d_M_wholeProgram_26 : decode m_M_wholeProgram.2.1 26 = .ok (.iconst 0, 1) := by decide +kernel
theorem d_M_wholeProgram_27 : decode m_M_wholeProgram.2.1 27 = .ok (.putfield 258, 3) := by decide +kernel
theorem d_M_wholeProgram_30 : decode m_M_wholeProgram.2.1 30 = .ok (.aload_n 0, 1) := by decide +kernel
theorem d_M_wholeProgram_31 : decode m_M_wholeProgram.2.1 31 = .ok (.iconst 0, 1) := by decide +kernel
theorem d_M_wholeProgram_32 : decode m_M_wholeProgram.2.1 32 = .ok (.putfield 280, 3) := by decide +kernel
theorem d_M_wholeProgram_35 : decode m_M_wholeProgram.2.1 35 = .ok (.aload_n 0, 1) := by decide +kernel
theorem d_M_wholeProgram_36 : decode m_M_wholeProgram.2.1 36 = .ok (.iconst 0, 1) := by decide +kernel
theorem d_M_wholeProgram_37 : decode m_M_wholeProgram.2.1 37 = .ok (.putfield 243, 3) := by decide +kernel
theorem d_M_wholeProgram_40 : decode m_M_wholeProgram.2.1 40 = .ok (.aload_n 0, 1) := by decide +kernel
theorem d_M_wholeProgram_41 : decode m_M_wholeProgram.2.1 41 = .ok (.iconst 0, 1) := by decide +kernel
theorem d_M_wholeProgram_42 : decode m_M_wholeProgram.2.1 42 = .ok (.putfield 237, 3) := by decide +kernel
theorem d_M_wholeProgram_45 : decode m_M_wholeProgram.2.1 45 = .ok (.aload_n 0, 1) := by decide +kernel
theorem d_M_wholeProgram_46 : decode m_M_wholeProgram.2.1 46 = .ok (.invokevirtual 227, 3) := by decide +kernel
theorem d_M_wholeProgram_49 : decode m_M_wholeProgram.2.1 49 = .ok (.sipush 256, 3) := by decide +kernel
theorem d_M_wholeProgram_52 : decode m_M_wholeProgram.2.1 52 = .ok (.if_icmp .eq 13, 3) := by decide +kernel
theorem d_M_wholeProgram_55 : decode m_M_wholeProgram.2.1 55 = .ok (.aload_n 0, 1) := by decide +kernel
theorem d_M_wholeProgram_56 : decode m_M_wholeProgram.2.1 56 = .ok (.invokevirtual 227, 3) := by decide +kernel
theorem d_M_wholeProgram_59 : decode m_M_wholeProgram.2.1 59 = .ok (.sipush 257, 3) := by decide +kernel
theorem d_M_wholeProgram_62 : decode m_M_wholeProgram.2.1 62 = .ok (.if_icmp .ne 10, 3) := by decide +kernel
theorem d_M_wholeProgram_72 : decode m_M_wholeProgram.2.1 72 = .ok (.iconst (-1), 1) := by decide +kernel
theorem d_M_wholeProgram_73 : decode m_M_wholeProgram.2.1 73 = .ok (.istore_n 1, 1) := by decide +kernel
theorem d_M_wholeProgram_74 : decode m_M_wholeProgram.2.1 74 = .ok (.iconst (-1), 1) := by decide +kernel
theorem d_M_wholeProgram_75 : decode m_M_wholeProgram.2.1 75 = .ok (.istore_n 2, 1) := by decide +kernel
theorem d_M_wholeProgram_76 : decode m_M_wholeProgram.2.1 76 = .ok (.aload_n 0, 1) := by decide +kernel
theorem d_M_wholeProgram_77 : decode m_M_wholeProgram.2.1 77 = .ok (.invokevirtual 227, 3) := by decide +kernel
theorem d_M_wholeProgram_80 : decode m_M_wholeProgram.2.1 80 = .ok (.sipush 273, 3) := by decide +kernel
theorem d_M_wholeProgram_83 : decode m_M_wholeProgram.2.1 83 = .ok (.if_icmp .eq 29, 3) := by decide +kernel
theorem d_M_wholeProgram_112 : decode m_M_wholeProgram.2.1 112 = .ok (.iload_n 1, 1) := by decide +kernel
theorem d_M_wholeProgram_113 : decode m_M_wholeProgram.2.1 113 = .ok (.ireturn, 1) := by decide +kernel
theorem d_M_kind_0 : decode m_M_kind.2.1 0 = .ok (.aload_n 0, 1) := by decide +kernel
theorem d_M_kind_1 : decode m_M_kind.2.1 1 = .ok (.getfield 13, 3) := by decide +kernel
theorem d_M_kind_4 : decode m_M_kind.2.1 4 = .ok (.aload_n 0, 1) := by decide +kernel
theorem d_M_kind_5 : decode m_M_kind.2.1 5 = .ok (.getfield 218, 3) := by decide +kernel
theorem d_M_kind_8 : decode m_M_kind.2.1 8 = .ok (.iaload, 1) := by decide +kernel
theorem d_M_kind_9 : decode m_M_kind.2.1 9 = .ok (.ireturn, 1) := by decide +kernel
theorem d_M_workOfAll_0 : decode m_M_workOfAll.2.1 0 = .ok (.lconst 0, 1) := by decide +kernel
theorem d_M_workOfAll_1 : decode m_M_workOfAll.2.1 1 = .ok (.lstore_n 2, 1) := by decide +kernel
theorem d_M_workOfAll_2 : decode m_M_workOfAll.2.1 2 = .ok (.iload_n 1, 1) := by decide +kernel
theorem d_M_workOfAll_3 : decode m_M_workOfAll.2.1 3 = .ok (.istore 4, 2) := by decide +kernel
theorem d_M_workOfAll_5 : decode m_M_workOfAll.2.1 5 = .ok (.iload 4, 2) := by decide +kernel
theorem d_M_workOfAll_7 : decode m_M_workOfAll.2.1 7 = .ok (.ifCond .lt 27, 3) := by decide +kernel
theorem d_M_workOfAll_34 : decode m_M_workOfAll.2.1 34 = .ok (.lload_n 2, 1) := by decide +kernel
theorem d_M_workOfAll_35 : decode m_M_workOfAll.2.1 35 = .ok (.lreturn, 1) := by decide +kernel
theorem g_Sc_68 (nm : String) : q_G "ProofHall$Scanner" 68 1 3 "I" nm := ⟨_, _, _, rfl, by decide, rfl, List.mem_of_getElem? (i := 109) (by decide +kernel), Or.inl rfl⟩
theorem g_Sc_65 (nm : String) : q_G "ProofHall$Scanner" 65 1 4 "I" nm := ⟨_, _, _, rfl, by decide, rfl, List.mem_of_getElem? (i := 110) (by decide +kernel), Or.inl rfl⟩
theorem g_Sc_62 (nm : String) : q_G "ProofHall$Scanner" 62 1 8 "I" nm := ⟨_, _, _, rfl, by decide, rfl, List.mem_of_getElem? (i := 114) (by decide +kernel), Or.inl rfl⟩
theorem f_Sc_68 : q_F "ProofHall$Scanner" 68 1 3 "I" := ⟨_, _, _, rfl, by decide, rfl, Or.inl (List.mem_of_getElem? (i := 109) (by decide +kernel))⟩
theorem f_Sc_19 : q_FR "ProofHall$Scanner" 19 1 6 := ⟨"[I", by decide, ⟨_, _, _, rfl, by decide, rfl, Or.inl (List.mem_of_getElem? (i := 112) (by decide +kernel))⟩⟩
theorem f_Sc_65 : q_F "ProofHall$Scanner" 65 1 4 "I" := ⟨_, _, _, rfl, by decide, rfl, Or.inl (List.mem_of_getElem? (i := 110) (by decide +kernel))⟩
theorem f_Sc_22 : q_FR "ProofHall$Scanner" 22 1 7 := ⟨"[J", by decide, ⟨_, _, _, rfl, by decide, rfl, Or.inl (List.mem_of_getElem? (i := 113) (by decide +kernel))⟩⟩
theorem f_Sc_15 : q_FR "ProofHall$Scanner" 15 1 5 := ⟨"[I", by decide, ⟨_, _, _, rfl, by decide, rfl, Or.inl (List.mem_of_getElem? (i := 111) (by decide +kernel))⟩⟩
theorem cd_Sc_cut : q_cd m_Sc_cut := ⟨by decide +kernel, List.mem_of_getElem? (i := 2) (by decide +kernel), Or.inl ⟨rfl, List.mem_of_getElem? (i := 777) (by decide +kernel)⟩⟩
theorem cV_H_68 : q_CV "ProofHall" 68 1 m_Sc_cut 0 := ⟨⟨cd_Sc_cut, by decide, by decide, by decide, by decide +kernel⟩, Or.inl (List.mem_of_getElem? (i := 774) (by decide +kernel)), List.mem_of_getElem? (i := 775) (by decide +kernel), _, _, _, rfl, List.mem_append_right _ (List.mem_of_getElem? (i := 776) (by decide +kernel))⟩
theorem f_H_19 : q_FR "ProofHall" 19 0 1 := ⟨"LProofHall$Parser;", by decide, ⟨_, _, _, rfl, by decide, rfl, Or.inl (List.mem_of_getElem? (i := 620) (by decide +kernel))⟩⟩
theorem f_H_30 : q_FR "ProofHall" 30 0 3 := ⟨"LProofHall$Program;", by decide, ⟨_, _, _, rfl, by decide, rfl, Or.inl (List.mem_of_getElem? (i := 622) (by decide +kernel))⟩⟩
theorem g_Pa_33 (nm : String) : q_GR "ProofHall$Parser" 33 3 0 nm := ⟨"LProofHall$Scanner;", by decide, ⟨_, _, _, rfl, by decide, rfl, List.mem_of_getElem? (i := 143) (by decide +kernel), Or.inl rfl⟩⟩
theorem g_Pa_37 (nm : String) : q_GR "ProofHall$Parser" 37 3 1 nm := ⟨"LProofHall$Program;", by decide, ⟨_, _, _, rfl, by decide, rfl, List.mem_of_getElem? (i := 144) (by decide +kernel), Or.inl rfl⟩⟩
theorem f_Pa_37 : q_FR "ProofHall$Parser" 37 3 1 := ⟨"LProofHall$Program;", by decide, ⟨_, _, _, rfl, by decide, rfl, Or.inl (List.mem_of_getElem? (i := 144) (by decide +kernel))⟩⟩
theorem g_Pr_49 (nm : String) : q_G "ProofHall$Program" 49 2 0 "I" nm := ⟨_, _, _, rfl, by decide, rfl, List.mem_of_getElem? (i := 195) (by decide +kernel), Or.inl rfl⟩
theorem g_Pr_53 (nm : String) : q_G "ProofHall$Program" 53 2 1 "I" nm := ⟨_, _, _, rfl, by decide, rfl, List.mem_of_getElem? (i := 199) (by decide +kernel), Or.inl rfl⟩
theorem g_Pr_56 (nm : String) : q_G "ProofHall$Program" 56 2 4 "I" nm := ⟨_, _, _, rfl, by decide, rfl, List.mem_of_getElem? (i := 206) (by decide +kernel), Or.inl rfl⟩
theorem g_Pr_59 (nm : String) : q_G "ProofHall$Program" 59 2 7 "I" nm := ⟨_, _, _, rfl, by decide, rfl, List.mem_of_getElem? (i := 216) (by decide +kernel), Or.inl rfl⟩
theorem g_Pr_62 (nm : String) : q_G "ProofHall$Program" 62 2 8 "I" nm := ⟨_, _, _, rfl, by decide, rfl, List.mem_of_getElem? (i := 220) (by decide +kernel), Or.inl rfl⟩
theorem g_Pr_65 (nm : String) : q_G "ProofHall$Program" 65 2 9 "I" nm := ⟨_, _, _, rfl, by decide, rfl, List.mem_of_getElem? (i := 223) (by decide +kernel), Or.inl rfl⟩
theorem g_Pr_68 (nm : String) : q_G "ProofHall$Program" 68 2 10 "I" nm := ⟨_, _, _, rfl, by decide, rfl, List.mem_of_getElem? (i := 226) (by decide +kernel), Or.inl rfl⟩
theorem g_Pr_71 (nm : String) : q_G "ProofHall$Program" 71 2 11 "I" nm := ⟨_, _, _, rfl, by decide, rfl, List.mem_of_getElem? (i := 229) (by decide +kernel), Or.inl rfl⟩
theorem g_Pr_74 (nm : String) : q_G "ProofHall$Program" 74 2 17 "I" nm := ⟨_, _, _, rfl, by decide, rfl, List.mem_of_getElem? (i := 249) (by decide +kernel), Or.inl rfl⟩
theorem cd_Pr_clear : q_cd m_Pr_clear := ⟨by decide +kernel, List.mem_of_getElem? (i := 8) (by decide +kernel), Or.inl ⟨rfl, List.mem_of_getElem? (i := 815) (by decide +kernel)⟩⟩
theorem cV_Pa_41 : q_CV "ProofHall$Parser" 41 2 m_Pr_clear 0 := ⟨⟨cd_Pr_clear, by decide, by decide, by decide, by decide +kernel⟩, Or.inl (List.mem_of_getElem? (i := 812) (by decide +kernel)), List.mem_of_getElem? (i := 813) (by decide +kernel), _, _, _, rfl, List.mem_append_right _ (List.mem_of_getElem? (i := 814) (by decide +kernel))⟩
theorem g_Pa_46 (nm : String) : q_G "ProofHall$Parser" 46 3 7 "I" nm := ⟨_, _, _, rfl, by decide, rfl, List.mem_of_getElem? (i := 150) (by decide +kernel), Or.inl rfl⟩
theorem g_Pa_50 (nm : String) : q_G "ProofHall$Parser" 50 3 8 "I" nm := ⟨_, _, _, rfl, by decide, rfl, List.mem_of_getElem? (i := 151) (by decide +kernel), Or.inl rfl⟩
theorem cd_Pa_begin : q_cd m_Pa_begin := ⟨by decide +kernel, List.mem_of_getElem? (i := 7) (by decide +kernel), Or.inl ⟨rfl, List.mem_of_getElem? (i := 811) (by decide +kernel)⟩⟩
theorem cV_H_71 : q_CV "ProofHall" 71 3 m_Pa_begin 2 := ⟨⟨cd_Pa_begin, by decide, by decide, by decide, by decide +kernel⟩, Or.inl (List.mem_of_getElem? (i := 808) (by decide +kernel)), List.mem_of_getElem? (i := 809) (by decide +kernel), _, _, _, rfl, List.mem_append_right _ (List.mem_of_getElem? (i := 810) (by decide +kernel))⟩
theorem f_Pa_33 : q_FR "ProofHall$Parser" 33 3 0 := ⟨"LProofHall$Scanner;", by decide, ⟨_, _, _, rfl, by decide, rfl, Or.inl (List.mem_of_getElem? (i := 143) (by decide +kernel))⟩⟩
theorem f_Sc_62 : q_F "ProofHall$Scanner" 62 1 8 "I" := ⟨_, _, _, rfl, by decide, rfl, Or.inl (List.mem_of_getElem? (i := 114) (by decide +kernel))⟩
theorem cd_Sc_kind : q_cd m_Sc_kind := ⟨by decide +kernel, List.mem_of_getElem? (i := 2) (by decide +kernel), Or.inl ⟨rfl, List.mem_of_getElem? (i := 823) (by decide +kernel)⟩⟩
theorem cV_Pa_75 : q_CV "ProofHall$Parser" 75 1 m_Sc_kind 0 := ⟨⟨cd_Sc_kind, by decide, by decide, by decide, by decide +kernel⟩, Or.inl (List.mem_of_getElem? (i := 820) (by decide +kernel)), List.mem_of_getElem? (i := 821) (by decide +kernel), _, _, _, rfl, List.mem_append_right _ (List.mem_of_getElem? (i := 822) (by decide +kernel))⟩
theorem cd_Pa_declarations : q_cd m_Pa_declarations := ⟨by decide +kernel, List.mem_of_getElem? (i := 7) (by decide +kernel), Or.inl ⟨rfl, List.mem_of_getElem? (i := 819) (by decide +kernel)⟩⟩
theorem cV_H_75 : q_CV "ProofHall" 75 3 m_Pa_declarations 0 := ⟨⟨cd_Pa_declarations, by decide, by decide, by decide, by decide +kernel⟩, Or.inl (List.mem_of_getElem? (i := 816) (by decide +kernel)), List.mem_of_getElem? (i := 817) (by decide +kernel), _, _, _, rfl, List.mem_append_right _ (List.mem_of_getElem? (i := 818) (by decide +kernel))⟩
theorem f_Pa_46 : q_F "ProofHall$Parser" 46 3 7 "I" := ⟨_, _, _, rfl, by decide, rfl, Or.inl (List.mem_of_getElem? (i := 150) (by decide +kernel))⟩
theorem cd_Pa_statements : q_cd m_Pa_statements := ⟨by decide +kernel, List.mem_of_getElem? (i := 7) (by decide +kernel), Or.inl ⟨rfl, List.mem_of_getElem? (i := 867) (by decide +kernel)⟩⟩
theorem cV_H_79 : q_CV "ProofHall" 79 3 m_Pa_statements 0 := ⟨⟨cd_Pa_statements, by decide, by decide, by decide, by decide +kernel⟩, Or.inl (List.mem_of_getElem? (i := 864) (by decide +kernel)), List.mem_of_getElem? (i := 865) (by decide +kernel), _, _, _, rfl, List.mem_append_right _ (List.mem_of_getElem? (i := 866) (by decide +kernel))⟩
theorem f_Pa_65 : q_F "ProofHall$Parser" 65 2 8 "I" := ⟨_, _, _, rfl, by decide, rfl, Or.inl (List.mem_of_getElem? (i := 221) (by decide +kernel))⟩
theorem cd_Pa_conclude : q_cd m_Pa_conclude := ⟨by decide +kernel, List.mem_of_getElem? (i := 7) (by decide +kernel), Or.inl ⟨rfl, List.mem_of_getElem? (i := 975) (by decide +kernel)⟩⟩
theorem cV_H_82 : q_CV "ProofHall" 82 3 m_Pa_conclude 1 := ⟨⟨cd_Pa_conclude, by decide, by decide, by decide, by decide +kernel⟩, Or.inl (List.mem_of_getElem? (i := 972) (by decide +kernel)), List.mem_of_getElem? (i := 973) (by decide +kernel), _, _, _, rfl, List.mem_append_right _ (List.mem_of_getElem? (i := 974) (by decide +kernel))⟩
theorem f_H_86 : q_F "ProofHall" 86 2 9 "I" := ⟨_, _, _, rfl, by decide, rfl, Or.inl (List.mem_of_getElem? (i := 225) (by decide +kernel))⟩
theorem g_H_26 (nm : String) : q_GR "ProofHall" 26 0 2 nm := ⟨"LProofHall$Program;", by decide, ⟨_, _, _, rfl, by decide, rfl, List.mem_of_getElem? (i := 621) (by decide +kernel), Or.inl rfl⟩⟩
theorem g_H_30 (nm : String) : q_GR "ProofHall" 30 0 3 nm := ⟨"LProofHall$Program;", by decide, ⟨_, _, _, rfl, by decide, rfl, List.mem_of_getElem? (i := 622) (by decide +kernel), Or.inl rfl⟩⟩
theorem g_H_94 (nm : String) : q_G "ProofHall" 94 0 4 "Z" nm := ⟨_, _, _, rfl, by decide, rfl, List.mem_of_getElem? (i := 623) (by decide +kernel), Or.inl rfl⟩
theorem f_H_37 : q_FR "ProofHall" 37 0 7 := ⟨"[I", by decide, ⟨_, _, _, rfl, by decide, rfl, Or.inl (List.mem_of_getElem? (i := 626) (by decide +kernel))⟩⟩
theorem cd_JA_fill : q_cd m_JA_fill := ⟨by decide +kernel, List.mem_of_getElem? (i := 26) (by decide +kernel), Or.inl ⟨rfl, List.mem_of_getElem? (i := 993) (by decide +kernel)⟩⟩
theorem cS_H_98 : q_CS "ProofHall" 98 m_JA_fill 2 := ⟨⟨cd_JA_fill, by decide, by decide, by decide, by decide +kernel⟩, Or.inl (List.mem_of_getElem? (i := 991) (by decide +kernel)), List.mem_of_getElem? (i := 992) (by decide +kernel)⟩
theorem f_Ma_15 : q_FR "ProofHall$Machine" 15 4 2 := ⟨"[I", by decide, ⟨_, _, _, rfl, by decide, rfl, Or.inl (List.mem_of_getElem? (i := 317) (by decide +kernel))⟩⟩
theorem cS_Ma_25 : q_CS "ProofHall$Machine" 25 m_JA_fill 2 := ⟨⟨cd_JA_fill, by decide, by decide, by decide, by decide +kernel⟩, Or.inl (List.mem_of_getElem? (i := 998) (by decide +kernel)), List.mem_of_getElem? (i := 992) (by decide +kernel)⟩
theorem g_Ma_31 (nm : String) : q_G "ProofHall$Machine" 31 4 0 "I" nm := ⟨_, _, _, rfl, by decide, rfl, List.mem_of_getElem? (i := 312) (by decide +kernel), Or.inl rfl⟩
theorem g_Ma_9 (nm : String) : q_G "ProofHall$Machine" 9 4 1 "I" nm := ⟨_, _, _, rfl, by decide, rfl, List.mem_of_getElem? (i := 315) (by decide +kernel), Or.inl rfl⟩
theorem cd_Ma_forget : q_cd m_Ma_forget := ⟨by decide +kernel, List.mem_of_getElem? (i := 9) (by decide +kernel), Or.inl ⟨rfl, List.mem_of_getElem? (i := 997) (by decide +kernel)⟩⟩
theorem cV_H_104 : q_CV "ProofHall" 104 4 m_Ma_forget 0 := ⟨⟨cd_Ma_forget, by decide, by decide, by decide, by decide +kernel⟩, Or.inl (List.mem_of_getElem? (i := 994) (by decide +kernel)), List.mem_of_getElem? (i := 995) (by decide +kernel), _, _, _, rfl, List.mem_append_right _ (List.mem_of_getElem? (i := 996) (by decide +kernel))⟩
theorem g_In_42 (nm : String) : q_GR "ProofHall$Inquiry" 42 8 2 nm := ⟨"LProofHall$Program;", by decide, ⟨_, _, _, rfl, by decide, rfl, List.mem_of_getElem? (i := 584) (by decide +kernel), Or.inl rfl⟩⟩
theorem g_In_46 (nm : String) : q_G "ProofHall$Inquiry" 46 8 5 "Z" nm := ⟨_, _, _, rfl, by decide, rfl, List.mem_of_getElem? (i := 589) (by decide +kernel), Or.inl rfl⟩
theorem cd_In_study : q_cd m_In_study := ⟨by decide +kernel, List.mem_of_getElem? (i := 10) (by decide +kernel), Or.inl ⟨rfl, List.mem_of_getElem? (i := 1002) (by decide +kernel)⟩⟩
theorem cV_H_107 : q_CV "ProofHall" 107 8 m_In_study 1 := ⟨⟨cd_In_study, by decide, by decide, by decide, by decide +kernel⟩, Or.inl (List.mem_of_getElem? (i := 999) (by decide +kernel)), List.mem_of_getElem? (i := 1000) (by decide +kernel), _, _, _, rfl, List.mem_append_right _ (List.mem_of_getElem? (i := 1001) (by decide +kernel))⟩
theorem f_H_111 : q_FR "ProofHall" 111 8 0 := ⟨"LProofHall$Encoder;", by decide, ⟨_, _, _, rfl, by decide, rfl, Or.inl (List.mem_of_getElem? (i := 582) (by decide +kernel))⟩⟩
theorem g_En_50 (nm : String) : q_GR "ProofHall$Encoder" 50 7 1 nm := ⟨"LProofHall$Program;", by decide, ⟨_, _, _, rfl, by decide, rfl, List.mem_of_getElem? (i := 415) (by decide +kernel), Or.inl rfl⟩⟩
theorem f_Ci_30 : q_FR "ProofHall$Circuit" 30 5 6 := ⟨"[I", by decide, ⟨_, _, _, rfl, by decide, rfl, Or.inl (List.mem_of_getElem? (i := 373) (by decide +kernel))⟩⟩
theorem cS_Ci_37 : q_CS "ProofHall$Circuit" 37 m_JA_fill 2 := ⟨⟨cd_JA_fill, by decide, by decide, by decide, by decide +kernel⟩, Or.inl (List.mem_of_getElem? (i := 1011) (by decide +kernel)), List.mem_of_getElem? (i := 992) (by decide +kernel)⟩
theorem g_Ci_33 (nm : String) : q_G "ProofHall$Circuit" 33 5 7 "I" nm := ⟨_, _, _, rfl, by decide, rfl, List.mem_of_getElem? (i := 374) (by decide +kernel), Or.inl rfl⟩
theorem cd_Ci_clear : q_cd m_Ci_clear := ⟨by decide +kernel, List.mem_of_getElem? (i := 13) (by decide +kernel), Or.inl ⟨rfl, List.mem_of_getElem? (i := 1010) (by decide +kernel)⟩⟩
theorem cV_En_54 : q_CV "ProofHall$Encoder" 54 5 m_Ci_clear 0 := ⟨⟨cd_Ci_clear, by decide, by decide, by decide, by decide +kernel⟩, Or.inl (List.mem_of_getElem? (i := 1007) (by decide +kernel)), List.mem_of_getElem? (i := 1008) (by decide +kernel), _, _, _, rfl, List.mem_append_right _ (List.mem_of_getElem? (i := 1009) (by decide +kernel))⟩
theorem f_En_18 : q_FR "ProofHall$Encoder" 18 7 2 := ⟨"[I", by decide, ⟨_, _, _, rfl, by decide, rfl, Or.inl (List.mem_of_getElem? (i := 416) (by decide +kernel))⟩⟩
theorem cS_En_62 : q_CS "ProofHall$Encoder" 62 m_JA_fill 2 := ⟨⟨cd_JA_fill, by decide, by decide, by decide, by decide +kernel⟩, Or.inl (List.mem_of_getElem? (i := 1016) (by decide +kernel)), List.mem_of_getElem? (i := 992) (by decide +kernel)⟩
theorem f_En_50 : q_FR "ProofHall$Encoder" 50 7 1 := ⟨"LProofHall$Program;", by decide, ⟨_, _, _, rfl, by decide, rfl, Or.inl (List.mem_of_getElem? (i := 415) (by decide +kernel))⟩⟩
theorem f_En_114 : q_F "ProofHall$Encoder" 114 2 0 "I" := ⟨_, _, _, rfl, by decide, rfl, Or.inl (List.mem_of_getElem? (i := 196) (by decide +kernel))⟩
theorem cd_En_makeInputs : q_cd m_En_makeInputs := ⟨by decide +kernel, List.mem_of_getElem? (i := 11) (by decide +kernel), Or.inl ⟨rfl, List.mem_of_getElem? (i := 1015) (by decide +kernel)⟩⟩
theorem cV_En_59 : q_CV "ProofHall$Encoder" 59 7 m_En_makeInputs 0 := ⟨⟨cd_En_makeInputs, by decide, by decide, by decide, by decide +kernel⟩, Or.inl (List.mem_of_getElem? (i := 1012) (by decide +kernel)), List.mem_of_getElem? (i := 1014) (by decide +kernel), _, _, _, rfl, by decide +kernel⟩
theorem f_En_22 : q_FR "ProofHall$Encoder" 22 7 3 := ⟨"[I", by decide, ⟨_, _, _, rfl, by decide, rfl, Or.inl (List.mem_of_getElem? (i := 418) (by decide +kernel))⟩⟩
theorem f_En_25 : q_FR "ProofHall$Encoder" 25 7 5 := ⟨"[I", by decide, ⟨_, _, _, rfl, by decide, rfl, Or.inl (List.mem_of_getElem? (i := 423) (by decide +kernel))⟩⟩
theorem g_En_68 (nm : String) : q_G "ProofHall$Encoder" 68 7 4 "I" nm := ⟨_, _, _, rfl, by decide, rfl, List.mem_of_getElem? (i := 420) (by decide +kernel), Or.inl rfl⟩
theorem g_En_72 (nm : String) : q_G "ProofHall$Encoder" 72 7 12 "I" nm := ⟨_, _, _, rfl, by decide, rfl, List.mem_of_getElem? (i := 432) (by decide +kernel), Or.inl rfl⟩
theorem g_En_75 (nm : String) : q_G "ProofHall$Encoder" 75 7 15 "I" nm := ⟨_, _, _, rfl, by decide, rfl, List.mem_of_getElem? (i := 435) (by decide +kernel), Or.inl rfl⟩
theorem k_En_78 : Cond.constant "ProofHall$Encoder" 78 1000000 ∈ tables_1 := List.mem_of_getElem? (i := 1021) (by decide +kernel)
theorem f_En_79 : q_F "ProofHall$Encoder" 79 2 11 "I" := ⟨_, _, _, rfl, by decide, rfl, Or.inl (List.mem_of_getElem? (i := 231) (by decide +kernel))⟩
theorem g_En_101 (nm : String) : q_G "ProofHall$Encoder" 101 7 6 "I" nm := ⟨_, _, _, rfl, by decide, rfl, List.mem_of_getElem? (i := 425) (by decide +kernel), Or.inl rfl⟩
theorem f_En_104 : q_F "ProofHall$Encoder" 104 2 7 "I" := ⟨_, _, _, rfl, by decide, rfl, Or.inl (List.mem_of_getElem? (i := 217) (by decide +kernel))⟩
theorem f_En_110 : q_F "ProofHall$Encoder" 110 5 7 "I" := ⟨_, _, _, rfl, by decide, rfl, Or.inl (List.mem_of_getElem? (i := 375) (by decide +kernel))⟩
theorem g_En_113 (nm : String) : q_G "ProofHall$Encoder" 113 7 7 "I" nm := ⟨_, _, _, rfl, by decide, rfl, List.mem_of_getElem? (i := 427) (by decide +kernel), Or.inl rfl⟩
theorem cd_En_encode : q_cd m_En_encode := ⟨by decide +kernel, List.mem_of_getElem? (i := 11) (by decide +kernel), Or.inl ⟨rfl, List.mem_of_getElem? (i := 1006) (by decide +kernel)⟩⟩
theorem cV_H_115 : q_CV "ProofHall" 115 7 m_En_encode 1 := ⟨⟨cd_En_encode, by decide, by decide, by decide, by decide +kernel⟩, Or.inl (List.mem_of_getElem? (i := 1003) (by decide +kernel)), List.mem_of_getElem? (i := 1004) (by decide +kernel), _, _, _, rfl, List.mem_append_right _ (List.mem_of_getElem? (i := 1005) (by decide +kernel))⟩
theorem g_M_155 (nm : String) : q_G "ProofHallModel" 155 12 7 "I" nm := ⟨_, _, _, rfl, by decide, rfl, List.mem_of_getElem? (i := 1539) (by decide +kernel), Or.inl rfl⟩
theorem f_M_13 : q_FR "ProofHallModel" 13 12 3 := ⟨"[I", by decide, ⟨_, _, _, rfl, by decide, rfl, Or.inl (List.mem_of_getElem? (i := 1535) (by decide +kernel))⟩⟩
theorem f_M_155 : q_F "ProofHallModel" 155 12 7 "I" := ⟨_, _, _, rfl, by decide, rfl, Or.inl (List.mem_of_getElem? (i := 1539) (by decide +kernel))⟩
theorem f_M_17 : q_FR "ProofHallModel" 17 12 4 := ⟨"[I", by decide, ⟨_, _, _, rfl, by decide, rfl, Or.inl (List.mem_of_getElem? (i := 1536) (by decide +kernel))⟩⟩
theorem cd_M_token : q_cd m_M_token := ⟨by decide +kernel, List.mem_of_getElem? (i := 17) (by decide +kernel), Or.inl ⟨rfl, List.mem_of_getElem? (i := 1771) (by decide +kernel)⟩⟩
theorem cV_M_193 : q_CV "ProofHallModel" 193 12 m_M_token 2 := ⟨⟨cd_M_token, by decide, by decide, by decide, by decide +kernel⟩, Or.inl (List.mem_of_getElem? (i := 1768) (by decide +kernel)), List.mem_of_getElem? (i := 1770) (by decide +kernel), _, _, _, rfl, by decide +kernel⟩
theorem cd_M_cut : q_cd m_M_cut := ⟨by decide +kernel, List.mem_of_getElem? (i := 17) (by decide +kernel), Or.inl ⟨rfl, List.mem_of_getElem? (i := 1760) (by decide +kernel)⟩⟩
theorem cV_M_336 : q_CV "ProofHallModel" 336 12 m_M_cut 0 := ⟨⟨cd_M_cut, by decide, by decide, by decide, by decide +kernel⟩, Or.inl (List.mem_of_getElem? (i := 1757) (by decide +kernel)), List.mem_of_getElem? (i := 1759) (by decide +kernel), _, _, _, rfl, by decide +kernel⟩
theorem f_M_61 : q_FR "ProofHallModel" 61 12 32 := ⟨"[I", by decide, ⟨_, _, _, rfl, by decide, rfl, Or.inl (List.mem_of_getElem? (i := 1564) (by decide +kernel))⟩⟩
theorem f_M_79 : q_FR "ProofHallModel" 79 12 38 := ⟨"[I", by decide, ⟨_, _, _, rfl, by decide, rfl, Or.inl (List.mem_of_getElem? (i := 1570) (by decide +kernel))⟩⟩
theorem g_M_61 (nm : String) : q_GR "ProofHallModel" 61 12 32 nm := ⟨"[I", by decide, ⟨_, _, _, rfl, by decide, rfl, List.mem_of_getElem? (i := 1564) (by decide +kernel), Or.inl rfl⟩⟩
theorem g_M_79 (nm : String) : q_GR "ProofHallModel" 79 12 38 nm := ⟨"[I", by decide, ⟨_, _, _, rfl, by decide, rfl, List.mem_of_getElem? (i := 1570) (by decide +kernel), Or.inl rfl⟩⟩
theorem f_M_64 : q_FR "ProofHallModel" 64 12 33 := ⟨"[I", by decide, ⟨_, _, _, rfl, by decide, rfl, Or.inl (List.mem_of_getElem? (i := 1565) (by decide +kernel))⟩⟩
theorem f_M_82 : q_FR "ProofHallModel" 82 12 39 := ⟨"[I", by decide, ⟨_, _, _, rfl, by decide, rfl, Or.inl (List.mem_of_getElem? (i := 1571) (by decide +kernel))⟩⟩
theorem g_M_64 (nm : String) : q_GR "ProofHallModel" 64 12 33 nm := ⟨"[I", by decide, ⟨_, _, _, rfl, by decide, rfl, List.mem_of_getElem? (i := 1565) (by decide +kernel), Or.inl rfl⟩⟩
theorem g_M_82 (nm : String) : q_GR "ProofHallModel" 82 12 39 nm := ⟨"[I", by decide, ⟨_, _, _, rfl, by decide, rfl, List.mem_of_getElem? (i := 1571) (by decide +kernel), Or.inl rfl⟩⟩
theorem f_M_67 : q_FR "ProofHallModel" 67 12 34 := ⟨"[I", by decide, ⟨_, _, _, rfl, by decide, rfl, Or.inl (List.mem_of_getElem? (i := 1566) (by decide +kernel))⟩⟩
theorem f_M_85 : q_FR "ProofHallModel" 85 12 40 := ⟨"[I", by decide, ⟨_, _, _, rfl, by decide, rfl, Or.inl (List.mem_of_getElem? (i := 1572) (by decide +kernel))⟩⟩
theorem g_M_67 (nm : String) : q_GR "ProofHallModel" 67 12 34 nm := ⟨"[I", by decide, ⟨_, _, _, rfl, by decide, rfl, List.mem_of_getElem? (i := 1566) (by decide +kernel), Or.inl rfl⟩⟩
theorem g_M_85 (nm : String) : q_GR "ProofHallModel" 85 12 40 nm := ⟨"[I", by decide, ⟨_, _, _, rfl, by decide, rfl, List.mem_of_getElem? (i := 1572) (by decide +kernel), Or.inl rfl⟩⟩
theorem f_M_70 : q_FR "ProofHallModel" 70 12 35 := ⟨"[I", by decide, ⟨_, _, _, rfl, by decide, rfl, Or.inl (List.mem_of_getElem? (i := 1567) (by decide +kernel))⟩⟩
theorem f_M_88 : q_FR "ProofHallModel" 88 12 41 := ⟨"[I", by decide, ⟨_, _, _, rfl, by decide, rfl, Or.inl (List.mem_of_getElem? (i := 1573) (by decide +kernel))⟩⟩
theorem g_M_70 (nm : String) : q_GR "ProofHallModel" 70 12 35 nm := ⟨"[I", by decide, ⟨_, _, _, rfl, by decide, rfl, List.mem_of_getElem? (i := 1567) (by decide +kernel), Or.inl rfl⟩⟩
theorem g_M_88 (nm : String) : q_GR "ProofHallModel" 88 12 41 nm := ⟨"[I", by decide, ⟨_, _, _, rfl, by decide, rfl, List.mem_of_getElem? (i := 1573) (by decide +kernel), Or.inl rfl⟩⟩
theorem f_M_73 : q_FR "ProofHallModel" 73 12 36 := ⟨"[I", by decide, ⟨_, _, _, rfl, by decide, rfl, Or.inl (List.mem_of_getElem? (i := 1568) (by decide +kernel))⟩⟩
theorem f_M_91 : q_FR "ProofHallModel" 91 12 42 := ⟨"[I", by decide, ⟨_, _, _, rfl, by decide, rfl, Or.inl (List.mem_of_getElem? (i := 1574) (by decide +kernel))⟩⟩
theorem g_M_73 (nm : String) : q_GR "ProofHallModel" 73 12 36 nm := ⟨"[I", by decide, ⟨_, _, _, rfl, by decide, rfl, List.mem_of_getElem? (i := 1568) (by decide +kernel), Or.inl rfl⟩⟩
theorem g_M_91 (nm : String) : q_GR "ProofHallModel" 91 12 42 nm := ⟨"[I", by decide, ⟨_, _, _, rfl, by decide, rfl, List.mem_of_getElem? (i := 1574) (by decide +kernel), Or.inl rfl⟩⟩
theorem f_M_76 : q_FR "ProofHallModel" 76 12 37 := ⟨"[I", by decide, ⟨_, _, _, rfl, by decide, rfl, Or.inl (List.mem_of_getElem? (i := 1569) (by decide +kernel))⟩⟩
theorem f_M_94 : q_FR "ProofHallModel" 94 12 43 := ⟨"[I", by decide, ⟨_, _, _, rfl, by decide, rfl, Or.inl (List.mem_of_getElem? (i := 1575) (by decide +kernel))⟩⟩
theorem g_M_76 (nm : String) : q_GR "ProofHallModel" 76 12 37 nm := ⟨"[I", by decide, ⟨_, _, _, rfl, by decide, rfl, List.mem_of_getElem? (i := 1569) (by decide +kernel), Or.inl rfl⟩⟩
theorem g_M_94 (nm : String) : q_GR "ProofHallModel" 94 12 43 nm := ⟨"[I", by decide, ⟨_, _, _, rfl, by decide, rfl, List.mem_of_getElem? (i := 1575) (by decide +kernel), Or.inl rfl⟩⟩
theorem cd_M_swap : q_cd m_M_swap := ⟨by decide +kernel, List.mem_of_getElem? (i := 17) (by decide +kernel), Or.inl ⟨rfl, List.mem_of_getElem? (i := 1854) (by decide +kernel)⟩⟩
theorem cV_M_333 : q_CV "ProofHallModel" 333 12 m_M_swap 0 := ⟨⟨cd_M_swap, by decide, by decide, by decide, by decide +kernel⟩, Or.inl (List.mem_of_getElem? (i := 1851) (by decide +kernel)), List.mem_of_getElem? (i := 1853) (by decide +kernel), _, _, _, rfl, by decide +kernel⟩
theorem g_M_218 (nm : String) : q_G "ProofHallModel" 218 12 8 "I" nm := ⟨_, _, _, rfl, by decide, rfl, List.mem_of_getElem? (i := 1540) (by decide +kernel), Or.inl rfl⟩
theorem g_M_224 (nm : String) : q_G "ProofHallModel" 224 12 9 "I" nm := ⟨_, _, _, rfl, by decide, rfl, List.mem_of_getElem? (i := 1541) (by decide +kernel), Or.inl rfl⟩
theorem g_M_246 (nm : String) : q_G "ProofHallModel" 246 12 17 "I" nm := ⟨_, _, _, rfl, by decide, rfl, List.mem_of_getElem? (i := 1549) (by decide +kernel), Or.inl rfl⟩
theorem g_M_264 (nm : String) : q_G "ProofHallModel" 264 12 18 "I" nm := ⟨_, _, _, rfl, by decide, rfl, List.mem_of_getElem? (i := 1550) (by decide +kernel), Or.inl rfl⟩
theorem g_M_261 (nm : String) : q_G "ProofHallModel" 261 12 19 "I" nm := ⟨_, _, _, rfl, by decide, rfl, List.mem_of_getElem? (i := 1551) (by decide +kernel), Or.inl rfl⟩
theorem g_M_258 (nm : String) : q_G "ProofHallModel" 258 12 20 "I" nm := ⟨_, _, _, rfl, by decide, rfl, List.mem_of_getElem? (i := 1552) (by decide +kernel), Or.inl rfl⟩
theorem g_M_280 (nm : String) : q_G "ProofHallModel" 280 12 21 "I" nm := ⟨_, _, _, rfl, by decide, rfl, List.mem_of_getElem? (i := 1553) (by decide +kernel), Or.inl rfl⟩
theorem g_M_243 (nm : String) : q_G "ProofHallModel" 243 12 44 "I" nm := ⟨_, _, _, rfl, by decide, rfl, List.mem_of_getElem? (i := 1576) (by decide +kernel), Or.inl rfl⟩
theorem g_M_237 (nm : String) : q_G "ProofHallModel" 237 12 48 "I" nm := ⟨_, _, _, rfl, by decide, rfl, List.mem_of_getElem? (i := 1579) (by decide +kernel), Or.inl rfl⟩
theorem f_M_218 : q_F "ProofHallModel" 218 12 8 "I" := ⟨_, _, _, rfl, by decide, rfl, Or.inl (List.mem_of_getElem? (i := 1540) (by decide +kernel))⟩
theorem cd_M_kind : q_cd m_M_kind := ⟨by decide +kernel, List.mem_of_getElem? (i := 17) (by decide +kernel), Or.inl ⟨rfl, List.mem_of_getElem? (i := 1862) (by decide +kernel)⟩⟩
theorem cV_M_227 : q_CV "ProofHallModel" 227 12 m_M_kind 0 := ⟨⟨cd_M_kind, by decide, by decide, by decide, by decide +kernel⟩, Or.inl (List.mem_of_getElem? (i := 1859) (by decide +kernel)), List.mem_of_getElem? (i := 1861) (by decide +kernel), _, _, _, rfl, by decide +kernel⟩
theorem cd_M_wholeProgram : q_cd m_M_wholeProgram := ⟨by decide +kernel, List.mem_of_getElem? (i := 17) (by decide +kernel), Or.inl ⟨rfl, List.mem_of_getElem? (i := 1858) (by decide +kernel)⟩⟩
theorem cV_M_339 : q_CV "ProofHallModel" 339 12 m_M_wholeProgram 0 := ⟨⟨cd_M_wholeProgram, by decide, by decide, by decide, by decide +kernel⟩, Or.inl (List.mem_of_getElem? (i := 1855) (by decide +kernel)), List.mem_of_getElem? (i := 1857) (by decide +kernel), _, _, _, rfl, by decide +kernel⟩
theorem f_M_237 : q_F "ProofHallModel" 237 12 48 "I" := ⟨_, _, _, rfl, by decide, rfl, Or.inl (List.mem_of_getElem? (i := 1579) (by decide +kernel))⟩
theorem cd_M_workOfAll : q_cd m_M_workOfAll := ⟨by decide +kernel, List.mem_of_getElem? (i := 17) (by decide +kernel), Or.inl ⟨rfl, List.mem_of_getElem? (i := 1926) (by decide +kernel)⟩⟩
theorem cV_M_322 : q_CV "ProofHallModel" 322 12 m_M_workOfAll 1 := ⟨⟨cd_M_workOfAll, by decide, by decide, by decide, by decide +kernel⟩, Or.inl (List.mem_of_getElem? (i := 1923) (by decide +kernel)), List.mem_of_getElem? (i := 1925) (by decide +kernel), _, _, _, rfl, by decide +kernel⟩
theorem g_M_347 (nm : String) : q_G "ProofHallModel" 347 12 31 "Z" nm := ⟨_, _, _, rfl, by decide, rfl, List.mem_of_getElem? (i := 1563) (by decide +kernel), Or.inl rfl⟩
theorem g_M_351 (nm : String) : q_G "ProofHallModel" 351 12 45 "I" nm := ⟨_, _, _, rfl, by decide, rfl, List.mem_of_getElem? (i := 1577) (by decide +kernel), Or.inl rfl⟩
theorem g_M_354 (nm : String) : q_G "ProofHallModel" 354 12 30 "I" nm := ⟨_, _, _, rfl, by decide, rfl, List.mem_of_getElem? (i := 1562) (by decide +kernel), Or.inl rfl⟩
theorem f_M_264 : q_F "ProofHallModel" 264 12 18 "I" := ⟨_, _, _, rfl, by decide, rfl, Or.inl (List.mem_of_getElem? (i := 1550) (by decide +kernel))⟩
theorem g_M_357 (nm : String) : q_G "ProofHallModel" 357 12 26 "I" nm := ⟨_, _, _, rfl, by decide, rfl, List.mem_of_getElem? (i := 1558) (by decide +kernel), Or.inl rfl⟩
theorem f_M_261 : q_F "ProofHallModel" 261 12 19 "I" := ⟨_, _, _, rfl, by decide, rfl, Or.inl (List.mem_of_getElem? (i := 1551) (by decide +kernel))⟩
theorem g_M_360 (nm : String) : q_G "ProofHallModel" 360 12 27 "I" nm := ⟨_, _, _, rfl, by decide, rfl, List.mem_of_getElem? (i := 1559) (by decide +kernel), Or.inl rfl⟩
theorem f_M_280 : q_F "ProofHallModel" 280 12 21 "I" := ⟨_, _, _, rfl, by decide, rfl, Or.inl (List.mem_of_getElem? (i := 1553) (by decide +kernel))⟩
theorem g_M_363 (nm : String) : q_G "ProofHallModel" 363 12 28 "I" nm := ⟨_, _, _, rfl, by decide, rfl, List.mem_of_getElem? (i := 1560) (by decide +kernel), Or.inl rfl⟩
theorem f_M_258 : q_F "ProofHallModel" 258 12 20 "I" := ⟨_, _, _, rfl, by decide, rfl, Or.inl (List.mem_of_getElem? (i := 1552) (by decide +kernel))⟩
theorem g_M_366 (nm : String) : q_G "ProofHallModel" 366 12 29 "I" nm := ⟨_, _, _, rfl, by decide, rfl, List.mem_of_getElem? (i := 1561) (by decide +kernel), Or.inl rfl⟩
theorem f_M_49 : q_FR "ProofHallModel" 49 12 22 := ⟨"[I", by decide, ⟨_, _, _, rfl, by decide, rfl, Or.inl (List.mem_of_getElem? (i := 1554) (by decide +kernel))⟩⟩
theorem f_M_55 : q_FR "ProofHallModel" 55 12 24 := ⟨"[I", by decide, ⟨_, _, _, rfl, by decide, rfl, Or.inl (List.mem_of_getElem? (i := 1556) (by decide +kernel))⟩⟩
theorem f_M_52 : q_FR "ProofHallModel" 52 12 23 := ⟨"[I", by decide, ⟨_, _, _, rfl, by decide, rfl, Or.inl (List.mem_of_getElem? (i := 1555) (by decide +kernel))⟩⟩
theorem f_M_58 : q_FR "ProofHallModel" 58 12 25 := ⟨"[I", by decide, ⟨_, _, _, rfl, by decide, rfl, Or.inl (List.mem_of_getElem? (i := 1557) (by decide +kernel))⟩⟩
theorem f_M_117 : q_FR "ProofHallModel" 117 12 57 := ⟨"[I", by decide, ⟨_, _, _, rfl, by decide, rfl, Or.inl (List.mem_of_getElem? (i := 1588) (by decide +kernel))⟩⟩
theorem f_M_126 : q_FR "ProofHallModel" 126 12 60 := ⟨"[I", by decide, ⟨_, _, _, rfl, by decide, rfl, Or.inl (List.mem_of_getElem? (i := 1591) (by decide +kernel))⟩⟩
theorem g_M_129 (nm : String) : q_G "ProofHallModel" 129 12 62 "I" nm := ⟨_, _, _, rfl, by decide, rfl, List.mem_of_getElem? (i := 1593) (by decide +kernel), Or.inl rfl⟩
theorem g_M_132 (nm : String) : q_G "ProofHallModel" 132 12 63 "I" nm := ⟨_, _, _, rfl, by decide, rfl, List.mem_of_getElem? (i := 1594) (by decide +kernel), Or.inl rfl⟩
theorem g_M_369 (nm : String) : q_G "ProofHallModel" 369 12 55 "Z" nm := ⟨_, _, _, rfl, by decide, rfl, List.mem_of_getElem? (i := 1586) (by decide +kernel), Or.inl rfl⟩
section KaldJ
variable {ω : q_W} {μ : q_M} {d mc ms cs sl pc : Nat} {L : List (Nat × Value)} {st : List Value} {σ : q_H} {Q : q_R → q_H → Prop}
theorem k_iald {a n : Nat} {i : Int32} (v : Int32) (j : Nat) (hd : decode μ.2.1 pc = .ok (.iaload, 1)) (ht : q_t σ a = (2, n)) (ha : 0 < a ∧ a ≤ q_n σ) (hi : i = nI j) (hj : j < n) (hn : n < 2147483648) (hv : q_i σ a j = v)
    (kk : J ω μ d mc ms cs sl (pc + 1) L (.int v :: st) σ Q) : J ω μ d mc ms cs sl pc L (.int i :: .ref a :: st) σ Q := j_iald j hd ht ha hi hj hn (by rw [hv]; exact kk)
theorem j_st (kk : ∀ τ, τ = σ → J ω μ d mc ms cs sl pc L st τ Q) : J ω μ d mc ms cs sl pc L st σ Q := kk σ rfl
end KaldJ
/-- Arrays.fill -/
def q_fill (σ : q_H) (a n : Nat) (x : Int32) : q_H := (q_n σ, q_t σ, q_row (q_i σ) a (fun j => if j < n then x else q_i σ a j), q_r σ, q_l σ)
theorem q_E_fill {σ : q_H} {a n : Nat} {x : Int32} (h : q_E σ) : q_E (q_fill σ a n x) := h
theorem q_fill0 (σ : q_H) (a : Nat) (x : Int32) : q_fill σ a 0 x = σ := by
  unfold q_fill
  have : q_row (q_i σ) a (fun j => if j < 0 then x else q_i σ a j) = q_i σ := by
    funext b
    unfold q_row
    split
    · next h => subst h; funext j; simp
    · rfl
  rw [this]
theorem q_fillS (σ : q_H) (a k : Nat) (x : Int32) : q_seti (q_fill σ a k x) a k x = q_fill σ a (k + 1) x := by
  unfold q_fill q_seti
  have : q_row (q_row (q_i σ) a (fun j => if j < k then x else q_i σ a j)) a (q_row (q_row (q_i σ) a (fun j => if j < k then x else q_i σ a j) a) k x) = q_row (q_i σ) a (fun j => if j < k + 1 then x else q_i σ a j) := by
    funext b
    by_cases hb : b = a
    · subst hb
      rw [q_row_s, q_row_s, q_row_s]
      funext j
      unfold q_row
      by_cases h1 : j = k
      · subst h1; simp
      · by_cases h2 : j < k
        · simp [h1, h2, Nat.lt_succ_of_lt h2]
        · simp [h1, h2, show ¬ j < k + 1 by omega]
    · rw [q_row_n _ _ hb, q_row_n _ _ hb, q_row_n _ _ hb]
  show (q_n σ, q_t σ, q_row (q_row (q_i σ) a (fun j => if j < k then x else q_i σ a j)) a (q_row (q_row (q_i σ) a (fun j => if j < k then x else q_i σ a j) a) k x), q_r σ, q_l σ) = _
  rw [this]
theorem l_JA_fill {ω : q_W} {σ : q_H} {a n : Nat} (ht : q_t σ a = (2, n)) (ha : 0 < a ∧ a ≤ q_n σ) (hn : n < 2147483648) (x : Int32) : ∀ m k, k + m = n → J ω m_JA_fill 0 0 0 0 0 5 [(2, .int (nI k)), (3, .int (nI n)), (0, .ref a), (1, .int x)] [] (q_fill σ a k x) (fun r τ => r = .inl none ∧ τ = q_fill σ a n x) := by
  intro m
  induction m with
  | zero =>
    intro k hk
    refine j_iload_n d_JA_fill_5 0 rfl ?_
    refine j_iload_n d_JA_fill_6 1 rfl ?_
    refine j_icmp_ge 20 d_JA_fill_7 (by decide) (fun _ => ?_) (fun h => absurd (nI_le (by omega) (by omega)) h)
    exact j_vret d_JA_fill_20 rfl (by decide) (by decide) ⟨rfl, by rw [show k = n by omega]⟩
  | succ m ih =>
    intro k hk
    refine j_iload_n d_JA_fill_5 0 rfl ?_
    refine j_iload_n d_JA_fill_6 1 rfl ?_
    refine j_icmp_ge 20 d_JA_fill_7 (by decide) (fun h => absurd h (nI_ge (by omega) (by omega))) (fun _ => ?_)
    refine j_aload_n d_JA_fill_10 2 rfl ?_
    refine j_iload_n d_JA_fill_11 0 rfl ?_
    refine j_iload_n d_JA_fill_12 3 rfl ?_
    refine j_iast k d_JA_fill_13 ht ha rfl (by omega) (by omega) ?_
    rw [q_fillS]
    refine j_iinc (v := nI (k + 1)) (L' := [(2, .int (nI (k + 1))), (3, .int (nI n)), (0, .ref a), (1, .int x)]) d_JA_fill_14 0 rfl (nI_succ k).symm (by decide) rfl ?_
    exact j_goto 5 d_JA_fill_17 (by decide) (ih (k + 1) (by omega))
theorem c_JA_fill {ω : q_W} {σ : q_H} {a n : Nat} (ht : q_t σ a = (2, n)) (ha : 0 < a ∧ a ≤ q_n σ) (hn : n < 2147483648) (_ : 0 < n) (x : Int32) : J ω m_JA_fill 0 0 0 0 0 0 [(0, .ref a), (1, .int x)] [] σ (fun r τ => r = .inl none ∧ τ = q_fill σ a n x) := by
  refine j_iconst (v := nI 0) d_JA_fill_0 (by decide) ?_
  refine j_istore_n (L' := [(2, .int (nI 0)), (0, .ref a), (1, .int x)]) d_JA_fill_1 (by decide) rfl ?_
  refine j_aload_n d_JA_fill_2 1 rfl ?_
  refine j_alen d_JA_fill_3 ht (Or.inl rfl) ha ?_
  refine j_istore_n (L' := [(3, .int (nI n)), (2, .int (nI 0)), (0, .ref a), (1, .int x)]) d_JA_fill_4 (by decide) rfl ?_
  refine j_pick [1, 0, 2, 3] rfl ?_
  have k := l_JA_fill (ω := ω) ht ha hn x n 0 (by omega)
  rw [q_fill0] at k
  exact k
def s_Sc_cut_1 (σ : q_H) : q_H := (q_seti (q_seti (q_setl (q_seti (q_seti (q_seti (q_seti σ 2 3 0) 2 4 0) 2 8 0) 5 0 0) 6 0 0) 4 0 46) 2 4 1)
theorem e_Sc_cut_1 {σ : q_H} (hE : q_E σ) : q_E (s_Sc_cut_1 σ) := (q_E_i (q_E_i (q_E_l (q_E_i (q_E_i (q_E_i (q_E_i hE)))))))
set_option maxHeartbeats 1000000 in
theorem p_Sc_cut_1 {ω : q_W} {σ : q_H} (hE : q_E σ) (f_2_2 : q_i σ 2 2 = 0)  : J ω m_Sc_cut 0 0 0 0 0 0 [(0, .ref 2)] [] σ (fun r τ => r = .inl (none) ∧ τ = s_Sc_cut_1 σ) := by
  refine j_aload_n d_Sc_cut_0 0 rfl ?_
  refine j_iconst (v := 0) d_Sc_cut_1 (by decide) ?_
  refine j_putI (g_Sc_68 _) d_Sc_cut_2 (tg_2 hE) (q_okE hE (by decide)) ?_
  refine j_aload_n d_Sc_cut_5 0 rfl ?_
  refine j_iconst (v := 0) d_Sc_cut_6 (by decide) ?_
  refine j_putI (g_Sc_65 _) d_Sc_cut_7 (tg_2 (q_E_i hE)) (q_okE (q_E_i hE) (by decide)) ?_
  refine j_aload_n d_Sc_cut_10 0 rfl ?_
  refine j_iconst (v := 0) d_Sc_cut_11 (by decide) ?_
  refine j_putI (g_Sc_62 _) d_Sc_cut_12 (tg_2 (q_E_i (q_E_i hE))) (q_okE (q_E_i (q_E_i hE)) (by decide)) ?_
  refine j_iconst (v := 0) d_Sc_cut_15 (by decide) ?_
  refine j_istore_n (L' := [(1, .int 0), (0, .ref 2)]) d_Sc_cut_16 (by decide) rfl ?_
  refine j_iload_n d_Sc_cut_17 0 rfl ?_
  refine j_sipush (v := 4097) d_Sc_cut_18 (by decide) ?_
  refine j_icmp_ge 205 d_Sc_cut_21 (by decide) (fun h => absurd h (by decide)) (fun _ => ?_)
  refine j_aload_n d_Sc_cut_24 1 rfl ?_
  refine k_getI (0) f_Sc_68 d_Sc_cut_25 (tg_2 (q_E_i (q_E_i (q_E_i hE)))) (q_okE (q_E_i (q_E_i (q_E_i hE))) (by decide)) (rfl) ?_
  refine j_aload_n d_Sc_cut_28 1 rfl ?_
  refine k_getI (0) f_Sc_59 d_Sc_cut_29 (tg_2 (q_E_i (q_E_i (q_E_i hE)))) (q_okE (q_E_i (q_E_i (q_E_i hE))) (by decide)) (f_2_2) ?_
  refine j_icmp_ge 76 d_Sc_cut_32 (by decide) (fun _ => ?_) (fun h => absurd h (by decide))
  refine j_aload_n d_Sc_cut_76 1 rfl ?_
  refine j_getR 5 f_Sc_19 d_Sc_cut_77 (tg_2 (q_E_i (q_E_i (q_E_i hE)))) (q_okE (q_E_i (q_E_i (q_E_i hE))) (by decide)) (rf_2_6 (q_E_i (q_E_i (q_E_i hE)))) (by decide) ?_
  refine j_aload_n d_Sc_cut_80 1 rfl ?_
  refine k_getI (0) f_Sc_65 d_Sc_cut_81 (tg_2 (q_E_i (q_E_i (q_E_i hE)))) (q_okE (q_E_i (q_E_i (q_E_i hE))) (by decide)) (rfl) ?_
  refine j_aload_n d_Sc_cut_84 1 rfl ?_
  refine k_getI (0) f_Sc_68 d_Sc_cut_85 (tg_2 (q_E_i (q_E_i (q_E_i hE)))) (q_okE (q_E_i (q_E_i (q_E_i hE))) (by decide)) (rfl) ?_
  refine j_iast 0 d_Sc_cut_88 (tg_5 (q_E_i (q_E_i (q_E_i hE)))) (q_okE (q_E_i (q_E_i (q_E_i hE))) (by decide)) rfl (by decide) (by decide) ?_
  refine j_aload_n d_Sc_cut_89 1 rfl ?_
  refine j_getR 6 f_Sc_22 d_Sc_cut_90 (tg_2 (q_E_i (q_E_i (q_E_i (q_E_i hE))))) (q_okE (q_E_i (q_E_i (q_E_i (q_E_i hE)))) (by decide)) (rf_2_7 (q_E_i (q_E_i (q_E_i (q_E_i hE))))) (by decide) ?_
  refine j_aload_n d_Sc_cut_93 1 rfl ?_
  refine k_getI (0) f_Sc_65 d_Sc_cut_94 (tg_2 (q_E_i (q_E_i (q_E_i (q_E_i hE))))) (q_okE (q_E_i (q_E_i (q_E_i (q_E_i hE)))) (by decide)) (rfl) ?_
  refine j_lconst (v := 0) d_Sc_cut_97 (by decide) ?_
  refine j_last 0 d_Sc_cut_98 (tg_6 (q_E_i (q_E_i (q_E_i (q_E_i hE))))) (q_okE (q_E_i (q_E_i (q_E_i (q_E_i hE)))) (by decide)) rfl (by decide) (by decide) ?_
  refine j_aload_n d_Sc_cut_99 1 rfl ?_
  refine j_getR 4 f_Sc_15 d_Sc_cut_100 (tg_2 (q_E_l (q_E_i (q_E_i (q_E_i (q_E_i hE)))))) (q_okE (q_E_l (q_E_i (q_E_i (q_E_i (q_E_i hE))))) (by decide)) (rf_2_5 (q_E_l (q_E_i (q_E_i (q_E_i (q_E_i hE)))))) (by decide) ?_
  refine j_aload_n d_Sc_cut_103 1 rfl ?_
  refine k_getI (0) f_Sc_65 d_Sc_cut_104 (tg_2 (q_E_l (q_E_i (q_E_i (q_E_i (q_E_i hE)))))) (q_okE (q_E_l (q_E_i (q_E_i (q_E_i (q_E_i hE))))) (by decide)) (rfl) ?_
  refine j_aload_n d_Sc_cut_107 1 rfl ?_
  refine k_getI (0) f_Sc_68 d_Sc_cut_108 (tg_2 (q_E_l (q_E_i (q_E_i (q_E_i (q_E_i hE)))))) (q_okE (q_E_l (q_E_i (q_E_i (q_E_i (q_E_i hE))))) (by decide)) (rfl) ?_
  refine j_aload_n d_Sc_cut_111 1 rfl ?_
  refine k_getI (0) f_Sc_59 d_Sc_cut_112 (tg_2 (q_E_l (q_E_i (q_E_i (q_E_i (q_E_i hE)))))) (q_okE (q_E_l (q_E_i (q_E_i (q_E_i (q_E_i hE))))) (by decide)) (f_2_2) ?_
  refine j_icmp_lt 123 d_Sc_cut_115 (by decide) (fun h => absurd h (by decide)) (fun _ => ?_)
  refine j_bipush (v := 46) d_Sc_cut_118 (by decide) ?_
  refine j_goto 171 d_Sc_cut_120 (by decide) ?_
  refine j_iast 0 d_Sc_cut_171 (tg_4 (q_E_l (q_E_i (q_E_i (q_E_i (q_E_i hE)))))) (q_okE (q_E_l (q_E_i (q_E_i (q_E_i (q_E_i hE))))) (by decide)) rfl (by decide) (by decide) ?_
  refine j_aload_n d_Sc_cut_172 1 rfl ?_
  refine j_dup d_Sc_cut_173 rfl ?_
  refine k_getI (0) f_Sc_65 d_Sc_cut_174 (tg_2 (q_E_i (q_E_l (q_E_i (q_E_i (q_E_i (q_E_i hE))))))) (q_okE (q_E_i (q_E_l (q_E_i (q_E_i (q_E_i (q_E_i hE)))))) (by decide)) (rfl) ?_
  refine j_iconst (v := 1) d_Sc_cut_177 (by decide) ?_
  refine j_iadd d_Sc_cut_178 ?_
  refine j_topE (v := 1) (by decide) ?_
  refine j_putI (g_Sc_65 _) d_Sc_cut_179 (tg_2 (q_E_i (q_E_l (q_E_i (q_E_i (q_E_i (q_E_i hE))))))) (q_okE (q_E_i (q_E_l (q_E_i (q_E_i (q_E_i (q_E_i hE)))))) (by decide)) ?_
  refine j_aload_n d_Sc_cut_182 1 rfl ?_
  refine j_getR 4 f_Sc_15 d_Sc_cut_183 (tg_2 (q_E_i (q_E_i (q_E_l (q_E_i (q_E_i (q_E_i (q_E_i hE)))))))) (q_okE (q_E_i (q_E_i (q_E_l (q_E_i (q_E_i (q_E_i (q_E_i hE))))))) (by decide)) (rf_2_5 (q_E_i (q_E_i (q_E_l (q_E_i (q_E_i (q_E_i (q_E_i hE)))))))) (by decide) ?_
  refine j_aload_n d_Sc_cut_186 1 rfl ?_
  refine k_getI (1) f_Sc_65 d_Sc_cut_187 (tg_2 (q_E_i (q_E_i (q_E_l (q_E_i (q_E_i (q_E_i (q_E_i hE)))))))) (q_okE (q_E_i (q_E_i (q_E_l (q_E_i (q_E_i (q_E_i (q_E_i hE))))))) (by decide)) (rfl) ?_
  refine j_iconst (v := 1) d_Sc_cut_190 (by decide) ?_
  refine j_isub d_Sc_cut_191 ?_
  refine j_topE (v := 0) (by decide) ?_
  refine k_iald (46) 0 d_Sc_cut_192 (tg_4 (q_E_i (q_E_i (q_E_l (q_E_i (q_E_i (q_E_i (q_E_i hE)))))))) (q_okE (q_E_i (q_E_i (q_E_l (q_E_i (q_E_i (q_E_i (q_E_i hE))))))) (by decide)) rfl (by decide) (by decide) (rfl) ?_
  refine j_bipush (v := 46) d_Sc_cut_193 (by decide) ?_
  refine j_icmp_ne 199 d_Sc_cut_195 (by decide) (fun h => absurd h (by decide)) (fun _ => ?_)
  exact j_vret d_Sc_cut_198 rfl (by decide) (by decide) ⟨rfl, rfl⟩
def s_Pr_clear_1 (σ : q_H) : q_H := (q_seti (q_seti (q_seti (q_seti (q_seti (q_seti (q_seti (q_seti (q_seti σ 29 0 0) 29 1 0) 29 4 0) 29 7 0) 29 8 0) 29 9 0) 29 10 (-1)) 29 11 0) 29 17 0)
theorem e_Pr_clear_1 {σ : q_H} (hE : q_E σ) : q_E (s_Pr_clear_1 σ) := (q_E_i (q_E_i (q_E_i (q_E_i (q_E_i (q_E_i (q_E_i (q_E_i (q_E_i hE)))))))))
set_option maxHeartbeats 1000000 in
theorem p_Pr_clear_1 {ω : q_W} {σ : q_H} (hE : q_E σ)   : J ω m_Pr_clear 0 0 0 0 0 0 [(0, .ref 29)] [] σ (fun r τ => r = .inl (none) ∧ τ = s_Pr_clear_1 σ) := by
  refine j_aload_n d_Pr_clear_0 0 rfl ?_
  refine j_iconst (v := 0) d_Pr_clear_1 (by decide) ?_
  refine j_putI (g_Pr_49 _) d_Pr_clear_2 (tg_29 hE) (q_okE hE (by decide)) ?_
  refine j_aload_n d_Pr_clear_5 0 rfl ?_
  refine j_iconst (v := 0) d_Pr_clear_6 (by decide) ?_
  refine j_putI (g_Pr_53 _) d_Pr_clear_7 (tg_29 (q_E_i hE)) (q_okE (q_E_i hE) (by decide)) ?_
  refine j_aload_n d_Pr_clear_10 0 rfl ?_
  refine j_iconst (v := 0) d_Pr_clear_11 (by decide) ?_
  refine j_putI (g_Pr_56 _) d_Pr_clear_12 (tg_29 (q_E_i (q_E_i hE))) (q_okE (q_E_i (q_E_i hE)) (by decide)) ?_
  refine j_aload_n d_Pr_clear_15 0 rfl ?_
  refine j_iconst (v := 0) d_Pr_clear_16 (by decide) ?_
  refine j_putI (g_Pr_59 _) d_Pr_clear_17 (tg_29 (q_E_i (q_E_i (q_E_i hE)))) (q_okE (q_E_i (q_E_i (q_E_i hE))) (by decide)) ?_
  refine j_aload_n d_Pr_clear_20 0 rfl ?_
  refine j_iconst (v := 0) d_Pr_clear_21 (by decide) ?_
  refine j_putI (g_Pr_62 _) d_Pr_clear_22 (tg_29 (q_E_i (q_E_i (q_E_i (q_E_i hE))))) (q_okE (q_E_i (q_E_i (q_E_i (q_E_i hE)))) (by decide)) ?_
  refine j_aload_n d_Pr_clear_25 0 rfl ?_
  refine j_iconst (v := 0) d_Pr_clear_26 (by decide) ?_
  refine j_putI (g_Pr_65 _) d_Pr_clear_27 (tg_29 (q_E_i (q_E_i (q_E_i (q_E_i (q_E_i hE)))))) (q_okE (q_E_i (q_E_i (q_E_i (q_E_i (q_E_i hE))))) (by decide)) ?_
  refine j_aload_n d_Pr_clear_30 0 rfl ?_
  refine j_iconst (v := (-1)) d_Pr_clear_31 (by decide) ?_
  refine j_putI (g_Pr_68 _) d_Pr_clear_32 (tg_29 (q_E_i (q_E_i (q_E_i (q_E_i (q_E_i (q_E_i hE))))))) (q_okE (q_E_i (q_E_i (q_E_i (q_E_i (q_E_i (q_E_i hE)))))) (by decide)) ?_
  refine j_aload_n d_Pr_clear_35 0 rfl ?_
  refine j_iconst (v := 0) d_Pr_clear_36 (by decide) ?_
  refine j_putI (g_Pr_71 _) d_Pr_clear_37 (tg_29 (q_E_i (q_E_i (q_E_i (q_E_i (q_E_i (q_E_i (q_E_i hE)))))))) (q_okE (q_E_i (q_E_i (q_E_i (q_E_i (q_E_i (q_E_i (q_E_i hE))))))) (by decide)) ?_
  refine j_st (fun τ1 eτ1 => ?_)
  have hE1 : q_E τ1 := by rw [eτ1]; exact (q_E_i (q_E_i (q_E_i (q_E_i (q_E_i (q_E_i (q_E_i (q_E_i hE))))))))
  refine j_aload_n d_Pr_clear_40 0 rfl ?_
  refine j_iconst (v := 0) d_Pr_clear_41 (by decide) ?_
  refine j_putI (g_Pr_74 _) d_Pr_clear_42 (tg_29 hE1) (q_okE hE1 (by decide)) ?_
  exact j_vret d_Pr_clear_45 rfl (by decide) (by decide) ⟨rfl, by rw [eτ1]; rfl⟩
def s_Pa_begin_1 (σ : q_H) : q_H := (q_seti (q_seti (s_Pr_clear_1 (q_setr (q_setr σ 8 0 2) 8 1 29)) 8 7 0) 8 8 0)
theorem e_Pa_begin_1 {σ : q_H} (hE : q_E σ) : q_E (s_Pa_begin_1 σ) := (q_E_i (q_E_i (e_Pr_clear_1 (q_E_r (q_E_r hE (by decide)) (by decide)))))
set_option maxHeartbeats 1000000 in
theorem p_Pa_begin_1 {ω : q_W} {σ : q_H} (hE : q_E σ)   : J ω m_Pa_begin 1 0 0 0 0 0 [(0, .ref 8), (1, .ref 2), (2, .ref 29)] [] σ (fun r τ => r = .inl (none) ∧ τ = s_Pa_begin_1 σ) := by
  refine j_aload_n d_Pa_begin_0 0 rfl ?_
  refine j_aload_n d_Pa_begin_1 1 rfl ?_
  refine j_putR (g_Pa_33 _) d_Pa_begin_2 (tg_8 hE) (q_okE hE (by decide)) (by decide) ?_
  refine j_aload_n d_Pa_begin_5 0 rfl ?_
  refine j_aload_n d_Pa_begin_6 2 rfl ?_
  refine j_putR (g_Pa_37 _) d_Pa_begin_7 (tg_8 (q_E_r hE (by decide))) (q_okE (q_E_r hE (by decide)) (by decide)) (by decide) ?_
  refine j_aload_n d_Pa_begin_10 0 rfl ?_
  refine j_getR 29 f_Pa_37 d_Pa_begin_11 (tg_8 (q_E_r (q_E_r hE (by decide)) (by decide))) (q_okE (q_E_r (q_E_r hE (by decide)) (by decide)) (by decide)) (rfl) (by decide) ?_
  refine j_callV m_Pr_clear [] [] 0 0 0 cV_Pa_41 d_Pa_begin_14 rfl rfl (tg_29 (q_E_r (q_E_r hE (by decide)) (by decide))) (q_okE (q_E_r (q_E_r hE (by decide)) (by decide)) (by decide)) (Nat.le_of_ble_eq_true rfl) (Nat.le_of_ble_eq_true rfl) (Nat.le_of_ble_eq_true rfl) (Nat.le_of_ble_eq_true rfl) (Nat.le_of_ble_eq_true rfl) (p_Pr_clear_1 (q_E_r (q_E_r hE (by decide)) (by decide))) (fun v τ1 h => ?_) (fun x τ h => absurd h.1 (by simp))
  obtain ⟨h1, eτ1⟩ := h
  cases h1
  have hE1 : q_E τ1 := by rw [eτ1]; exact e_Pr_clear_1 (q_E_r (q_E_r hE (by decide)) (by decide))
  have r1_8_1 : q_r τ1 8 1 = 29 := by rw [eτ1]; exact rfl
  refine j_aload_n d_Pa_begin_17 0 rfl ?_
  refine j_iconst (v := 0) d_Pa_begin_18 (by decide) ?_
  refine j_putI (g_Pa_46 _) d_Pa_begin_19 (tg_8 hE1) (q_okE hE1 (by decide)) ?_
  refine j_aload_n d_Pa_begin_22 0 rfl ?_
  refine j_iconst (v := 0) d_Pa_begin_23 (by decide) ?_
  refine j_putI (g_Pa_50 _) d_Pa_begin_24 (tg_8 (q_E_i hE1)) (q_okE (q_E_i hE1) (by decide)) ?_
  exact j_vret d_Pa_begin_27 rfl (by decide) (by decide) ⟨rfl, by rw [eτ1]; rfl⟩
def s_Sc_kind_1 (σ : q_H) : q_H := σ
theorem e_Sc_kind_1 {σ : q_H} (hE : q_E σ) : q_E (s_Sc_kind_1 σ) := hE
set_option maxHeartbeats 1000000 in
theorem p_Sc_kind_1 {ω : q_W} {σ : q_H} (hE : q_E σ) (f_2_8 : q_i σ 2 8 = 0) (f_4_0 : q_i σ 4 0 = 46)  : J ω m_Sc_kind 0 0 0 0 0 0 [(0, .ref 2)] [] σ (fun r τ => r = .inl (some (.int 46)) ∧ τ = s_Sc_kind_1 σ) := by
  refine j_aload_n d_Sc_kind_0 0 rfl ?_
  refine j_getR 4 f_Sc_15 d_Sc_kind_1 (tg_2 hE) (q_okE hE (by decide)) (rf_2_5 hE) (by decide) ?_
  refine j_aload_n d_Sc_kind_4 0 rfl ?_
  refine k_getI (0) f_Sc_62 d_Sc_kind_5 (tg_2 hE) (q_okE hE (by decide)) (f_2_8) ?_
  refine k_iald (46) 0 d_Sc_kind_8 (tg_4 hE) (q_okE hE (by decide)) rfl (by decide) (by decide) (f_4_0) ?_
  exact j_nret d_Sc_kind_9 rfl (by decide) (by decide) (by decide) ⟨rfl, rfl⟩
def s_Pa_declarations_1 (σ : q_H) : q_H := (s_Sc_kind_1 (s_Sc_kind_1 σ))
theorem e_Pa_declarations_1 {σ : q_H} (hE : q_E σ) : q_E (s_Pa_declarations_1 σ) := (e_Sc_kind_1 (e_Sc_kind_1 hE))
set_option maxHeartbeats 1000000 in
theorem p_Pa_declarations_1 {ω : q_W} {σ : q_H} (hE : q_E σ) (f_2_8 : q_i σ 2 8 = 0) (f_4_0 : q_i σ 4 0 = 46) (r_8_0 : q_r σ 8 0 = 2) : J ω m_Pa_declarations 1 0 0 0 0 0 [(0, .ref 8)] [] σ (fun r τ => r = .inl (some (.int 1)) ∧ τ = s_Pa_declarations_1 σ) := by
  refine j_iconst (v := 1) d_Pa_declarations_0 (by decide) ?_
  refine j_istore_n (L' := [(1, .int 1), (0, .ref 8)]) d_Pa_declarations_1 (by decide) rfl ?_
  refine j_iconst (v := 0) d_Pa_declarations_2 (by decide) ?_
  refine j_istore_n (L' := [(2, .int 0), (1, .int 1), (0, .ref 8)]) d_Pa_declarations_3 (by decide) rfl ?_
  refine j_iload_n d_Pa_declarations_4 0 rfl ?_
  refine j_sipush (v := 4096) d_Pa_declarations_5 (by decide) ?_
  refine j_icmp_ge 52 d_Pa_declarations_8 (by decide) (fun h => absurd h (by decide)) (fun _ => ?_)
  refine j_iload_n d_Pa_declarations_11 1 rfl ?_
  refine j_if_eq 52 d_Pa_declarations_12 (by decide) (fun h => absurd h (by decide)) (fun _ => ?_)
  refine j_aload_n d_Pa_declarations_15 2 rfl ?_
  refine j_getR 2 f_Pa_33 d_Pa_declarations_16 (tg_8 hE) (q_okE hE (by decide)) (r_8_0) (by decide) ?_
  refine j_callV m_Sc_kind [] [] 0 0 0 cV_Pa_75 d_Pa_declarations_19 rfl rfl (tg_2 hE) (q_okE hE (by decide)) (Nat.le_of_ble_eq_true rfl) (Nat.le_of_ble_eq_true rfl) (Nat.le_of_ble_eq_true rfl) (Nat.le_of_ble_eq_true rfl) (Nat.le_of_ble_eq_true rfl) (p_Sc_kind_1 hE (f_2_8) (f_4_0)) (fun v τ1 h => ?_) (fun x τ h => absurd h.1 (by simp))
  obtain ⟨h1, eτ1⟩ := h
  cases h1
  have hE1 : q_E τ1 := by rw [eτ1]; exact e_Sc_kind_1 hE
  have h1_2_8 : q_i τ1 2 8 = 0 := by rw [eτ1]; exact f_2_8
  have h1_4_0 : q_i τ1 4 0 = 46 := by rw [eτ1]; exact f_4_0
  have r1_8_0 : q_r τ1 8 0 = 2 := by rw [eτ1]; exact r_8_0
  refine j_bipush (v := 39) d_Pa_declarations_22 (by decide) ?_
  refine j_icmp_eq 41 d_Pa_declarations_24 (by decide) (fun h => absurd h (by decide)) (fun _ => ?_)
  refine j_aload_n d_Pa_declarations_27 2 rfl ?_
  refine j_getR 2 f_Pa_33 d_Pa_declarations_28 (tg_8 hE1) (q_okE hE1 (by decide)) (r1_8_0) (by decide) ?_
  refine j_callV m_Sc_kind [] [] 0 0 0 cV_Pa_75 d_Pa_declarations_31 rfl rfl (tg_2 hE1) (q_okE hE1 (by decide)) (Nat.le_of_ble_eq_true rfl) (Nat.le_of_ble_eq_true rfl) (Nat.le_of_ble_eq_true rfl) (Nat.le_of_ble_eq_true rfl) (Nat.le_of_ble_eq_true rfl) (p_Sc_kind_1 hE1 (h1_2_8) (h1_4_0)) (fun v τ2 h => ?_) (fun x τ h => absurd h.1 (by simp))
  obtain ⟨h1, eτ2⟩ := h
  cases h1
  have hE2 : q_E τ2 := by rw [eτ2]; exact e_Sc_kind_1 hE1
  have h2_2_8 : q_i τ2 2 8 = 0 := by rw [eτ2]; exact h1_2_8
  have h2_4_0 : q_i τ2 4 0 = 46 := by rw [eτ2]; exact h1_4_0
  have r2_8_0 : q_r τ2 8 0 = 2 := by rw [eτ2]; exact r1_8_0
  refine j_bipush (v := 40) d_Pa_declarations_34 (by decide) ?_
  refine j_icmp_eq 41 d_Pa_declarations_36 (by decide) (fun h => absurd h (by decide)) (fun _ => ?_)
  refine j_iconst (v := 1) d_Pa_declarations_39 (by decide) ?_
  exact j_nret d_Pa_declarations_40 rfl (by decide) (by decide) (by decide) ⟨rfl, by rw [eτ2, eτ1]; rfl⟩
def s_Pa_statements_1 (σ : q_H) : q_H := (s_Sc_kind_1 (s_Sc_kind_1 σ))
theorem e_Pa_statements_1 {σ : q_H} (hE : q_E σ) : q_E (s_Pa_statements_1 σ) := (e_Sc_kind_1 (e_Sc_kind_1 hE))
set_option maxHeartbeats 1000000 in
theorem p_Pa_statements_1 {ω : q_W} {σ : q_H} (hE : q_E σ) (f_8_7 : q_i σ 8 7 = 0) (f_2_8 : q_i σ 2 8 = 0) (f_4_0 : q_i σ 4 0 = 46) (r_8_0 : q_r σ 8 0 = 2) : J ω m_Pa_statements 1 0 0 0 0 0 [(0, .ref 8)] [] σ (fun r τ => r = .inl (some (.int 1)) ∧ τ = s_Pa_statements_1 σ) := by
  refine j_iconst (v := 1) d_Pa_statements_0 (by decide) ?_
  refine j_istore_n (L' := [(1, .int 1), (0, .ref 8)]) d_Pa_statements_1 (by decide) rfl ?_
  refine j_iconst (v := 0) d_Pa_statements_2 (by decide) ?_
  refine j_istore_n (L' := [(2, .int 0), (1, .int 1), (0, .ref 8)]) d_Pa_statements_3 (by decide) rfl ?_
  refine j_iload_n d_Pa_statements_4 0 rfl ?_
  refine j_sipush (v := 4096) d_Pa_statements_5 (by decide) ?_
  refine j_icmp_gt 197 d_Pa_statements_8 (by decide) (fun h => absurd h (by decide)) (fun _ => ?_)
  refine j_iload_n d_Pa_statements_11 1 rfl ?_
  refine j_if_eq 197 d_Pa_statements_12 (by decide) (fun h => absurd h (by decide)) (fun _ => ?_)
  refine j_aload_n d_Pa_statements_15 2 rfl ?_
  refine k_getI (0) f_Pa_46 d_Pa_statements_16 (tg_8 hE) (q_okE hE (by decide)) (f_8_7) ?_
  refine j_bipush (v := 30) d_Pa_statements_19 (by decide) ?_
  refine j_icmp_le 38 d_Pa_statements_21 (by decide) (fun _ => ?_) (fun h => absurd h (by decide))
  refine j_aload_n d_Pa_statements_38 2 rfl ?_
  refine j_getR 2 f_Pa_33 d_Pa_statements_39 (tg_8 hE) (q_okE hE (by decide)) (r_8_0) (by decide) ?_
  refine j_callV m_Sc_kind [] [] 0 0 0 cV_Pa_75 d_Pa_statements_42 rfl rfl (tg_2 hE) (q_okE hE (by decide)) (Nat.le_of_ble_eq_true rfl) (Nat.le_of_ble_eq_true rfl) (Nat.le_of_ble_eq_true rfl) (Nat.le_of_ble_eq_true rfl) (Nat.le_of_ble_eq_true rfl) (p_Sc_kind_1 hE (f_2_8) (f_4_0)) (fun v τ1 h => ?_) (fun x τ h => absurd h.1 (by simp))
  obtain ⟨h1, eτ1⟩ := h
  cases h1
  have hE1 : q_E τ1 := by rw [eτ1]; exact e_Sc_kind_1 hE
  have h1_2_8 : q_i τ1 2 8 = 0 := by rw [eτ1]; exact f_2_8
  have h1_4_0 : q_i τ1 4 0 = 46 := by rw [eτ1]; exact f_4_0
  have h1_8_7 : q_i τ1 8 7 = 0 := by rw [eτ1]; exact f_8_7
  have r1_8_0 : q_r τ1 8 0 = 2 := by rw [eτ1]; exact r_8_0
  refine j_tabOut 166 d_Pa_statements_45 (by decide) (by decide) ?_
  refine j_aload_n d_Pa_statements_166 2 rfl ?_
  refine j_getR 2 f_Pa_33 d_Pa_statements_167 (tg_8 hE1) (q_okE hE1 (by decide)) (r1_8_0) (by decide) ?_
  refine j_callV m_Sc_kind [] [] 0 0 0 cV_Pa_75 d_Pa_statements_170 rfl rfl (tg_2 hE1) (q_okE hE1 (by decide)) (Nat.le_of_ble_eq_true rfl) (Nat.le_of_ble_eq_true rfl) (Nat.le_of_ble_eq_true rfl) (Nat.le_of_ble_eq_true rfl) (Nat.le_of_ble_eq_true rfl) (p_Sc_kind_1 hE1 (h1_2_8) (h1_4_0)) (fun v τ2 h => ?_) (fun x τ h => absurd h.1 (by simp))
  obtain ⟨h1, eτ2⟩ := h
  cases h1
  have hE2 : q_E τ2 := by rw [eτ2]; exact e_Sc_kind_1 hE1
  have h2_2_8 : q_i τ2 2 8 = 0 := by rw [eτ2]; exact h1_2_8
  have h2_4_0 : q_i τ2 4 0 = 46 := by rw [eτ2]; exact h1_4_0
  have h2_8_7 : q_i τ2 8 7 = 0 := by rw [eτ2]; exact h1_8_7
  have r2_8_0 : q_r τ2 8 0 = 2 := by rw [eτ2]; exact r1_8_0
  refine j_bipush (v := 46) d_Pa_statements_173 (by decide) ?_
  refine j_icmp_ne 189 d_Pa_statements_175 (by decide) (fun h => absurd h (by decide)) (fun _ => ?_)
  refine j_aload_n d_Pa_statements_178 2 rfl ?_
  refine k_getI (0) f_Pa_46 d_Pa_statements_179 (tg_8 hE2) (q_okE hE2 (by decide)) (h2_8_7) ?_
  refine j_if_ne 189 d_Pa_statements_182 (by decide) (fun h => absurd h (by decide)) (fun _ => ?_)
  refine j_iconst (v := 1) d_Pa_statements_185 (by decide) ?_
  refine j_goto 190 d_Pa_statements_186 (by decide) ?_
  exact j_nret d_Pa_statements_190 rfl (by decide) (by decide) (by decide) ⟨rfl, by rw [eτ2, eτ1]; rfl⟩
def s_Pa_conclude_1 (σ : q_H) : q_H := σ
theorem e_Pa_conclude_1 {σ : q_H} (hE : q_E σ) : q_E (s_Pa_conclude_1 σ) := hE
set_option maxHeartbeats 1000000 in
theorem p_Pa_conclude_1 {ω : q_W} {σ : q_H} (hE : q_E σ) (f_29_8 : q_i σ 29 8 = 0) (r_8_1 : q_r σ 8 1 = 29) : J ω m_Pa_conclude 0 0 0 0 0 0 [(0, .ref 8), (1, .int 1)] [] σ (fun r τ => r = .inl (none) ∧ τ = s_Pa_conclude_1 σ) := by
  refine j_iload_n d_Pa_conclude_0 1 rfl ?_
  refine j_if_ne 29 d_Pa_conclude_1 (by decide) (fun _ => ?_) (fun h => absurd h (by decide))
  refine j_aload_n d_Pa_conclude_29 0 rfl ?_
  refine j_getR 29 f_Pa_37 d_Pa_conclude_30 (tg_8 hE) (q_okE hE (by decide)) (r_8_1) (by decide) ?_
  refine k_getI (0) f_Pa_65 d_Pa_conclude_33 (tg_29 hE) (q_okE hE (by decide)) (f_29_8) ?_
  refine j_sipush (v := 1500) d_Pa_conclude_36 (by decide) ?_
  refine j_icmp_le 58 d_Pa_conclude_39 (by decide) (fun _ => ?_) (fun h => absurd h (by decide))
  exact j_vret d_Pa_conclude_58 rfl (by decide) (by decide) ⟨rfl, rfl⟩
def s_Ma_forget_1 (σ : q_H) : q_H := (q_seti (q_seti (q_fill σ 44 12 0) 43 0 0) 43 1 (-1))
theorem e_Ma_forget_1 {σ : q_H} (hE : q_E σ) : q_E (s_Ma_forget_1 σ) := (q_E_i (q_E_i (q_E_fill hE)))
set_option maxHeartbeats 1000000 in
theorem p_Ma_forget_1 {ω : q_W} {σ : q_H} (hE : q_E σ)   : J ω m_Ma_forget 1 0 0 0 0 0 [(0, .ref 43)] [] σ (fun r τ => r = .inl (none) ∧ τ = s_Ma_forget_1 σ) := by
  refine j_aload_n d_Ma_forget_0 0 rfl ?_
  refine j_getR 44 f_Ma_15 d_Ma_forget_1 (tg_43 hE) (q_okE hE (by decide)) (rf_43_2 hE) (by decide) ?_
  refine j_iconst (v := 0) d_Ma_forget_4 (by decide) ?_
  refine j_callS m_JA_fill [.ref 44, .int 0] [] 0 0 0 cS_Ma_25 d_Ma_forget_5 rfl rfl (Nat.le_of_ble_eq_true rfl) (Nat.le_of_ble_eq_true rfl) (Nat.le_of_ble_eq_true rfl) (Nat.le_of_ble_eq_true rfl) (Nat.le_of_ble_eq_true rfl) (c_JA_fill (a := 44) (n := 12) (tg_44 hE) (q_okE hE (by decide)) (by decide) (by decide) 0) (fun v τ1 h => ?_) (fun x τ h => absurd h.1 (by simp))
  obtain ⟨h1, eτ1⟩ := h
  cases h1
  have hE1 : q_E τ1 := by rw [eτ1]; exact q_E_fill hE
  refine j_aload_n d_Ma_forget_8 0 rfl ?_
  refine j_iconst (v := 0) d_Ma_forget_9 (by decide) ?_
  refine j_putI (g_Ma_31 _) d_Ma_forget_10 (tg_43 hE1) (q_okE hE1 (by decide)) ?_
  refine j_aload_n d_Ma_forget_13 0 rfl ?_
  refine j_iconst (v := (-1)) d_Ma_forget_14 (by decide) ?_
  refine j_putI (g_Ma_9 _) d_Ma_forget_15 (tg_43 (q_E_i hE1)) (q_okE (q_E_i hE1) (by decide)) ?_
  exact j_vret d_Ma_forget_18 rfl (by decide) (by decide) ⟨rfl, by rw [eτ1]; rfl⟩
def s_In_study_1 (σ : q_H) : q_H := (q_seti (q_setr σ 47 2 29) 47 5 0)
theorem e_In_study_1 {σ : q_H} (hE : q_E σ) : q_E (s_In_study_1 σ) := (q_E_i (q_E_r hE (by decide)))
set_option maxHeartbeats 1000000 in
theorem p_In_study_1 {ω : q_W} {σ : q_H} (hE : q_E σ)   : J ω m_In_study 0 0 0 0 0 0 [(0, .ref 47), (1, .ref 29)] [] σ (fun r τ => r = .inl (none) ∧ τ = s_In_study_1 σ) := by
  refine j_aload_n d_In_study_0 0 rfl ?_
  refine j_aload_n d_In_study_1 1 rfl ?_
  refine j_putR (g_In_42 _) d_In_study_2 (tg_47 hE) (q_okE hE (by decide)) (by decide) ?_
  refine j_aload_n d_In_study_5 0 rfl ?_
  refine j_iconst (v := 0) d_In_study_6 (by decide) ?_
  refine j_putZ (g_In_46 _) d_In_study_7 (tg_47 (q_E_r hE (by decide))) (q_okE (q_E_r hE (by decide)) (by decide)) (by decide) ?_
  exact j_vret d_In_study_10 rfl (by decide) (by decide) ⟨rfl, rfl⟩
def s_Ci_clear_1 (σ : q_H) : q_H := (q_seti (q_fill σ 57 8192 0) 50 7 1)
theorem e_Ci_clear_1 {σ : q_H} (hE : q_E σ) : q_E (s_Ci_clear_1 σ) := (q_E_i (q_E_fill hE))
set_option maxHeartbeats 1000000 in
theorem p_Ci_clear_1 {ω : q_W} {σ : q_H} (hE : q_E σ)   : J ω m_Ci_clear 1 0 0 0 0 0 [(0, .ref 50)] [] σ (fun r τ => r = .inl (none) ∧ τ = s_Ci_clear_1 σ) := by
  refine j_aload_n d_Ci_clear_0 0 rfl ?_
  refine j_getR 57 f_Ci_30 d_Ci_clear_1 (tg_50 hE) (q_okE hE (by decide)) (rf_50_6 hE) (by decide) ?_
  refine j_iconst (v := 0) d_Ci_clear_4 (by decide) ?_
  refine j_callS m_JA_fill [.ref 57, .int 0] [] 0 0 0 cS_Ci_37 d_Ci_clear_5 rfl rfl (Nat.le_of_ble_eq_true rfl) (Nat.le_of_ble_eq_true rfl) (Nat.le_of_ble_eq_true rfl) (Nat.le_of_ble_eq_true rfl) (Nat.le_of_ble_eq_true rfl) (c_JA_fill (a := 57) (n := 8192) (tg_57 hE) (q_okE hE (by decide)) (by decide) (by decide) 0) (fun v τ1 h => ?_) (fun x τ h => absurd h.1 (by simp))
  obtain ⟨h1, eτ1⟩ := h
  cases h1
  have hE1 : q_E τ1 := by rw [eτ1]; exact q_E_fill hE
  refine j_aload_n d_Ci_clear_8 0 rfl ?_
  refine j_iconst (v := 1) d_Ci_clear_9 (by decide) ?_
  refine j_putI (g_Ci_33 _) d_Ci_clear_10 (tg_50 hE1) (q_okE hE1 (by decide)) ?_
  exact j_vret d_Ci_clear_13 rfl (by decide) (by decide) ⟨rfl, by rw [eτ1]; rfl⟩
def s_En_makeInputs_1 (σ : q_H) : q_H := (q_fill σ 61 96 1)
theorem e_En_makeInputs_1 {σ : q_H} (hE : q_E σ) : q_E (s_En_makeInputs_1 σ) := (q_E_fill hE)
set_option maxHeartbeats 1000000 in
theorem p_En_makeInputs_1 {ω : q_W} {σ : q_H} (hE : q_E σ) (f_29_0 : q_i σ 29 0 = 0) (r_48_1 : q_r σ 48 1 = 29) : J ω m_En_makeInputs 1 0 0 0 0 0 [(0, .ref 48)] [] σ (fun r τ => r = .inl (none) ∧ τ = s_En_makeInputs_1 σ) := by
  refine j_aload_n d_En_makeInputs_0 0 rfl ?_
  refine j_getR 61 f_En_18 d_En_makeInputs_1 (tg_48 hE) (q_okE hE (by decide)) (rf_48_2 hE) (by decide) ?_
  refine j_iconst (v := 1) d_En_makeInputs_4 (by decide) ?_
  refine j_callS m_JA_fill [.ref 61, .int 1] [] 0 0 0 cS_En_62 d_En_makeInputs_5 rfl rfl (Nat.le_of_ble_eq_true rfl) (Nat.le_of_ble_eq_true rfl) (Nat.le_of_ble_eq_true rfl) (Nat.le_of_ble_eq_true rfl) (Nat.le_of_ble_eq_true rfl) (c_JA_fill (a := 61) (n := 96) (tg_61 hE) (q_okE hE (by decide)) (by decide) (by decide) 1) (fun v τ1 h => ?_) (fun x τ h => absurd h.1 (by simp))
  obtain ⟨h1, eτ1⟩ := h
  cases h1
  have hE1 : q_E τ1 := by rw [eτ1]; exact q_E_fill hE
  have h1_29_0 : q_i τ1 29 0 = 0 := by rw [eτ1]; exact f_29_0
  have r1_48_1 : q_r τ1 48 1 = 29 := by rw [eτ1]; exact r_48_1
  refine j_iconst (v := 0) d_En_makeInputs_8 (by decide) ?_
  refine j_istore_n (L' := [(1, .int 0), (0, .ref 48)]) d_En_makeInputs_9 (by decide) rfl ?_
  refine j_iload_n d_En_makeInputs_10 0 rfl ?_
  refine j_aload_n d_En_makeInputs_11 1 rfl ?_
  refine j_getR 29 f_En_50 d_En_makeInputs_12 (tg_48 hE1) (q_okE hE1 (by decide)) (r1_48_1) (by decide) ?_
  refine k_getI (0) f_En_114 d_En_makeInputs_15 (tg_29 hE1) (q_okE hE1 (by decide)) (h1_29_0) ?_
  refine j_icmp_ge 69 d_En_makeInputs_18 (by decide) (fun _ => ?_) (fun h => absurd h (by decide))
  exact j_vret d_En_makeInputs_69 rfl (by decide) (by decide) ⟨rfl, by rw [eτ1]; rfl⟩
def s_En_encode_1 (σ : q_H) : q_H := (q_seti (q_seti (q_seti (q_seti (q_seti (q_fill (q_fill (s_En_makeInputs_1 (s_Ci_clear_1 (q_setr σ 48 1 29))) 62 96 1) 63 512 1) 48 4 0) 48 12 0) 48 15 0) 48 6 1) 48 7 1)
theorem e_En_encode_1 {σ : q_H} (hE : q_E σ) : q_E (s_En_encode_1 σ) := (q_E_i (q_E_i (q_E_i (q_E_i (q_E_i (q_E_fill (q_E_fill (e_En_makeInputs_1 (e_Ci_clear_1 (q_E_r hE (by decide)))))))))))
set_option maxHeartbeats 1000000 in
theorem p_En_encode_1 {ω : q_W} {σ : q_H} (hE : q_E σ) (f_29_0 : q_i σ 29 0 = 0) (f_29_7 : q_i σ 29 7 = 0) (f_29_11 : q_i σ 29 11 = 0)  : J ω m_En_encode 2 0 0 0 0 0 [(0, .ref 48), (1, .ref 29)] [] σ (fun r τ => r = .inl (none) ∧ τ = s_En_encode_1 σ) := by
  refine j_aload_n d_En_encode_0 0 rfl ?_
  refine j_aload_n d_En_encode_1 1 rfl ?_
  refine j_putR (g_En_50 _) d_En_encode_2 (tg_48 hE) (q_okE hE (by decide)) (by decide) ?_
  refine j_aload_n d_En_encode_5 0 rfl ?_
  refine j_getR 49 f_En_12 d_En_encode_6 (tg_48 (q_E_r hE (by decide))) (q_okE (q_E_r hE (by decide)) (by decide)) (rf_48_0 (q_E_r hE (by decide))) (by decide) ?_
  refine j_getR 50 f_En_46 d_En_encode_9 (tg_49 (q_E_r hE (by decide))) (q_okE (q_E_r hE (by decide)) (by decide)) (rf_49_0 (q_E_r hE (by decide))) (by decide) ?_
  refine j_callV m_Ci_clear [] [] 1 0 0 cV_En_54 d_En_encode_12 rfl rfl (tg_50 (q_E_r hE (by decide))) (q_okE (q_E_r hE (by decide)) (by decide)) (Nat.le_of_ble_eq_true rfl) (Nat.le_of_ble_eq_true rfl) (Nat.le_of_ble_eq_true rfl) (Nat.le_of_ble_eq_true rfl) (Nat.le_of_ble_eq_true rfl) (p_Ci_clear_1 (q_E_r hE (by decide))) (fun v τ1 h => ?_) (fun x τ h => absurd h.1 (by simp))
  obtain ⟨h1, eτ1⟩ := h
  cases h1
  have hE1 : q_E τ1 := by rw [eτ1]; exact e_Ci_clear_1 (q_E_r hE (by decide))
  have h1_29_0 : q_i τ1 29 0 = 0 := by rw [eτ1]; exact f_29_0
  have h1_29_7 : q_i τ1 29 7 = 0 := by rw [eτ1]; exact f_29_7
  have h1_29_11 : q_i τ1 29 11 = 0 := by rw [eτ1]; exact f_29_11
  have h1_50_7 : q_i τ1 50 7 = 1 := by rw [eτ1]; rfl
  have r1_48_1 : q_r τ1 48 1 = 29 := by rw [eτ1]; exact rfl
  refine j_aload_n d_En_encode_15 0 rfl ?_
  refine j_callV m_En_makeInputs [] [] 1 0 0 cV_En_59 d_En_encode_16 rfl rfl (tg_48 hE1) (q_okE hE1 (by decide)) (Nat.le_of_ble_eq_true rfl) (Nat.le_of_ble_eq_true rfl) (Nat.le_of_ble_eq_true rfl) (Nat.le_of_ble_eq_true rfl) (Nat.le_of_ble_eq_true rfl) (p_En_makeInputs_1 hE1 (h1_29_0) (r1_48_1)) (fun v τ2 h => ?_) (fun x τ h => absurd h.1 (by simp))
  obtain ⟨h1, eτ2⟩ := h
  cases h1
  have hE2 : q_E τ2 := by rw [eτ2]; exact e_En_makeInputs_1 hE1
  have h2_29_0 : q_i τ2 29 0 = 0 := by rw [eτ2]; exact h1_29_0
  have h2_29_7 : q_i τ2 29 7 = 0 := by rw [eτ2]; exact h1_29_7
  have h2_29_11 : q_i τ2 29 11 = 0 := by rw [eτ2]; exact h1_29_11
  have h2_50_7 : q_i τ2 50 7 = 1 := by rw [eτ2]; exact h1_50_7
  have r2_48_1 : q_r τ2 48 1 = 29 := by rw [eτ2]; exact r1_48_1
  refine j_aload_n d_En_encode_19 0 rfl ?_
  refine j_getR 62 f_En_22 d_En_encode_20 (tg_48 hE2) (q_okE hE2 (by decide)) (rf_48_3 hE2) (by decide) ?_
  refine j_iconst (v := 1) d_En_encode_23 (by decide) ?_
  refine j_callS m_JA_fill [.ref 62, .int 1] [] 0 0 0 cS_En_62 d_En_encode_24 rfl rfl (Nat.le_of_ble_eq_true rfl) (Nat.le_of_ble_eq_true rfl) (Nat.le_of_ble_eq_true rfl) (Nat.le_of_ble_eq_true rfl) (Nat.le_of_ble_eq_true rfl) (c_JA_fill (a := 62) (n := 96) (tg_62 hE2) (q_okE hE2 (by decide)) (by decide) (by decide) 1) (fun v τ3 h => ?_) (fun x τ h => absurd h.1 (by simp))
  obtain ⟨h1, eτ3⟩ := h
  cases h1
  have hE3 : q_E τ3 := by rw [eτ3]; exact q_E_fill hE2
  have h3_29_0 : q_i τ3 29 0 = 0 := by rw [eτ3]; exact h2_29_0
  have h3_29_7 : q_i τ3 29 7 = 0 := by rw [eτ3]; exact h2_29_7
  have h3_29_11 : q_i τ3 29 11 = 0 := by rw [eτ3]; exact h2_29_11
  have h3_50_7 : q_i τ3 50 7 = 1 := by rw [eτ3]; exact h2_50_7
  have r3_48_1 : q_r τ3 48 1 = 29 := by rw [eτ3]; exact r2_48_1
  refine j_aload_n d_En_encode_27 0 rfl ?_
  refine j_getR 63 f_En_25 d_En_encode_28 (tg_48 hE3) (q_okE hE3 (by decide)) (rf_48_5 hE3) (by decide) ?_
  refine j_iconst (v := 1) d_En_encode_31 (by decide) ?_
  refine j_callS m_JA_fill [.ref 63, .int 1] [] 0 0 0 cS_En_62 d_En_encode_32 rfl rfl (Nat.le_of_ble_eq_true rfl) (Nat.le_of_ble_eq_true rfl) (Nat.le_of_ble_eq_true rfl) (Nat.le_of_ble_eq_true rfl) (Nat.le_of_ble_eq_true rfl) (c_JA_fill (a := 63) (n := 512) (tg_63 hE3) (q_okE hE3 (by decide)) (by decide) (by decide) 1) (fun v τ4 h => ?_) (fun x τ h => absurd h.1 (by simp))
  obtain ⟨h1, eτ4⟩ := h
  cases h1
  have hE4 : q_E τ4 := by rw [eτ4]; exact q_E_fill hE3
  have h4_29_0 : q_i τ4 29 0 = 0 := by rw [eτ4]; exact h3_29_0
  have h4_29_7 : q_i τ4 29 7 = 0 := by rw [eτ4]; exact h3_29_7
  have h4_29_11 : q_i τ4 29 11 = 0 := by rw [eτ4]; exact h3_29_11
  have h4_50_7 : q_i τ4 50 7 = 1 := by rw [eτ4]; exact h3_50_7
  have r4_48_1 : q_r τ4 48 1 = 29 := by rw [eτ4]; exact r3_48_1
  refine j_aload_n d_En_encode_35 0 rfl ?_
  refine j_iconst (v := 0) d_En_encode_36 (by decide) ?_
  refine j_putI (g_En_68 _) d_En_encode_37 (tg_48 hE4) (q_okE hE4 (by decide)) ?_
  refine j_aload_n d_En_encode_40 0 rfl ?_
  refine j_iconst (v := 0) d_En_encode_41 (by decide) ?_
  refine j_putI (g_En_72 _) d_En_encode_42 (tg_48 (q_E_i hE4)) (q_okE (q_E_i hE4) (by decide)) ?_
  refine j_aload_n d_En_encode_45 0 rfl ?_
  refine j_iconst (v := 0) d_En_encode_46 (by decide) ?_
  refine j_putI (g_En_75 _) d_En_encode_47 (tg_48 (q_E_i (q_E_i hE4))) (q_okE (q_E_i (q_E_i hE4)) (by decide)) ?_
  refine j_iconst (v := 0) d_En_encode_50 (by decide) ?_
  refine j_istore_n (L' := [(2, .int 0), (0, .ref 48), (1, .ref 29)]) d_En_encode_51 (by decide) rfl ?_
  refine j_iconst (v := 0) d_En_encode_52 (by decide) ?_
  refine j_istore_n (L' := [(3, .int 0), (2, .int 0), (0, .ref 48), (1, .ref 29)]) d_En_encode_53 (by decide) rfl ?_
  refine j_iload_n d_En_encode_54 0 rfl ?_
  refine j_ldc (v := 1000000) k_En_78 d_En_encode_55 ?_
  refine j_icmp_ge 114 d_En_encode_57 (by decide) (fun h => absurd h (by decide)) (fun _ => ?_)
  refine j_iload_n d_En_encode_60 1 rfl ?_
  refine j_aload_n d_En_encode_61 2 rfl ?_
  refine j_getR 29 f_En_50 d_En_encode_62 (tg_48 (q_E_i (q_E_i (q_E_i hE4)))) (q_okE (q_E_i (q_E_i (q_E_i hE4))) (by decide)) (r4_48_1) (by decide) ?_
  refine k_getI (0) f_En_79 d_En_encode_65 (tg_29 (q_E_i (q_E_i (q_E_i hE4)))) (q_okE (q_E_i (q_E_i (q_E_i hE4))) (by decide)) (h4_29_11) ?_
  refine j_icmp_ge 114 d_En_encode_68 (by decide) (fun _ => ?_) (fun h => absurd h (by decide))
  refine j_aload_n d_En_encode_114 2 rfl ?_
  refine j_iconst (v := 1) d_En_encode_115 (by decide) ?_
  refine j_putI (g_En_101 _) d_En_encode_116 (tg_48 (q_E_i (q_E_i (q_E_i hE4)))) (q_okE (q_E_i (q_E_i (q_E_i hE4))) (by decide)) ?_
  refine j_iconst (v := 0) d_En_encode_119 (by decide) ?_
  refine j_istore_n (L' := [(3, .int 0), (2, .int 0), (0, .ref 48), (1, .ref 29)]) d_En_encode_120 (by decide) rfl ?_
  refine j_iload_n d_En_encode_121 0 rfl ?_
  refine j_aload_n d_En_encode_122 2 rfl ?_
  refine j_getR 29 f_En_50 d_En_encode_123 (tg_48 (q_E_i (q_E_i (q_E_i (q_E_i hE4))))) (q_okE (q_E_i (q_E_i (q_E_i (q_E_i hE4)))) (by decide)) (r4_48_1) (by decide) ?_
  refine k_getI (0) f_En_104 d_En_encode_126 (tg_29 (q_E_i (q_E_i (q_E_i (q_E_i hE4))))) (q_okE (q_E_i (q_E_i (q_E_i (q_E_i hE4)))) (by decide)) (h4_29_7) ?_
  refine j_icmp_ge 162 d_En_encode_129 (by decide) (fun _ => ?_) (fun h => absurd h (by decide))
  refine j_aload_n d_En_encode_162 2 rfl ?_
  refine j_aload_n d_En_encode_163 2 rfl ?_
  refine j_getR 49 f_En_12 d_En_encode_164 (tg_48 (q_E_i (q_E_i (q_E_i (q_E_i hE4))))) (q_okE (q_E_i (q_E_i (q_E_i (q_E_i hE4)))) (by decide)) (rf_48_0 (q_E_i (q_E_i (q_E_i (q_E_i hE4))))) (by decide) ?_
  refine j_getR 50 f_En_46 d_En_encode_167 (tg_49 (q_E_i (q_E_i (q_E_i (q_E_i hE4))))) (q_okE (q_E_i (q_E_i (q_E_i (q_E_i hE4)))) (by decide)) (rf_49_0 (q_E_i (q_E_i (q_E_i (q_E_i hE4))))) (by decide) ?_
  refine k_getI (1) f_En_110 d_En_encode_170 (tg_50 (q_E_i (q_E_i (q_E_i (q_E_i hE4))))) (q_okE (q_E_i (q_E_i (q_E_i (q_E_i hE4)))) (by decide)) (h4_50_7) ?_
  refine j_putI (g_En_113 _) d_En_encode_173 (tg_48 (q_E_i (q_E_i (q_E_i (q_E_i hE4))))) (q_okE (q_E_i (q_E_i (q_E_i (q_E_i hE4)))) (by decide)) ?_
  exact j_vret d_En_encode_176 rfl (by decide) (by decide) ⟨rfl, by rw [eτ4, eτ3, eτ2, eτ1]; rfl⟩
def s_H_build_1 (σ : q_H) : q_H := (s_En_encode_1 (s_In_study_1 (s_Ma_forget_1 (q_fill (q_seti (q_setr (q_setr (q_seti (s_Pa_conclude_1 (s_Pa_statements_1 (s_Pa_declarations_1 (s_Pa_begin_1 (s_Sc_cut_1 σ))))) 2 2 0) 1 2 29) 1 3 16) 1 4 1) 42 12 0))))
theorem e_H_build_1 {σ : q_H} (hE : q_E σ) : q_E (s_H_build_1 σ) := (e_En_encode_1 (e_In_study_1 (e_Ma_forget_1 (q_E_fill (q_E_i (q_E_r (q_E_r (q_E_i (e_Pa_conclude_1 (e_Pa_statements_1 (e_Pa_declarations_1 (e_Pa_begin_1 (e_Sc_cut_1 hE)))))) (by decide)) (by decide)))))))
set_option maxHeartbeats 1000000 in
theorem p_H_build_1 {ω : q_W} {σ : q_H} (hE : q_E σ) (f_2_2 : q_i σ 2 2 = 0) (r_1_2 : q_r σ 1 2 = 16) (r_1_3 : q_r σ 1 3 = 29) : J ω m_H_build 3 0 0 0 0 0 [(0, .ref 1)] [] σ (fun r τ => r = .inl (some (.int 0)) ∧ τ = s_H_build_1 σ) := by
  refine j_aload_n d_H_build_0 0 rfl ?_
  refine j_getR 2 f_H_10 d_H_build_1 (tg_1 hE) (q_okE hE (by decide)) (rf_1_0 hE) (by decide) ?_
  refine j_callV m_Sc_cut [] [] 0 0 0 cV_H_68 d_H_build_4 rfl rfl (tg_2 hE) (q_okE hE (by decide)) (Nat.le_of_ble_eq_true rfl) (Nat.le_of_ble_eq_true rfl) (Nat.le_of_ble_eq_true rfl) (Nat.le_of_ble_eq_true rfl) (Nat.le_of_ble_eq_true rfl) (p_Sc_cut_1 hE (f_2_2)) (fun v τ1 h => ?_) (fun x τ h => absurd h.1 (by simp))
  obtain ⟨h1, eτ1⟩ := h
  cases h1
  have hE1 : q_E τ1 := by rw [eτ1]; exact e_Sc_cut_1 hE
  have h1_2_2 : q_i τ1 2 2 = 0 := by rw [eτ1]; exact f_2_2
  have h1_2_8 : q_i τ1 2 8 = 0 := by rw [eτ1]; rfl
  have h1_4_0 : q_i τ1 4 0 = 46 := by rw [eτ1]; rfl
  have r1_1_2 : q_r τ1 1 2 = 16 := by rw [eτ1]; exact r_1_2
  have r1_1_3 : q_r τ1 1 3 = 29 := by rw [eτ1]; exact r_1_3
  refine j_aload_n d_H_build_7 0 rfl ?_
  refine j_getR 8 f_H_19 d_H_build_8 (tg_1 hE1) (q_okE hE1 (by decide)) (rf_1_1 hE1) (by decide) ?_
  refine j_aload_n d_H_build_11 0 rfl ?_
  refine j_getR 2 f_H_10 d_H_build_12 (tg_1 hE1) (q_okE hE1 (by decide)) (rf_1_0 hE1) (by decide) ?_
  refine j_aload_n d_H_build_15 0 rfl ?_
  refine j_getR 29 f_H_30 d_H_build_16 (tg_1 hE1) (q_okE hE1 (by decide)) (r1_1_3) (by decide) ?_
  refine j_callV m_Pa_begin [.ref 2, .ref 29] [] 1 0 0 cV_H_71 d_H_build_19 rfl rfl (tg_8 hE1) (q_okE hE1 (by decide)) (Nat.le_of_ble_eq_true rfl) (Nat.le_of_ble_eq_true rfl) (Nat.le_of_ble_eq_true rfl) (Nat.le_of_ble_eq_true rfl) (Nat.le_of_ble_eq_true rfl) (p_Pa_begin_1 hE1) (fun v τ2 h => ?_) (fun x τ h => absurd h.1 (by simp))
  obtain ⟨h1, eτ2⟩ := h
  cases h1
  have hE2 : q_E τ2 := by rw [eτ2]; exact e_Pa_begin_1 hE1
  have h2_2_2 : q_i τ2 2 2 = 0 := by rw [eτ2]; exact h1_2_2
  have h2_2_8 : q_i τ2 2 8 = 0 := by rw [eτ2]; exact h1_2_8
  have h2_4_0 : q_i τ2 4 0 = 46 := by rw [eτ2]; exact h1_4_0
  have h2_29_0 : q_i τ2 29 0 = 0 := by rw [eτ2]; rfl
  have h2_29_7 : q_i τ2 29 7 = 0 := by rw [eτ2]; rfl
  have h2_29_8 : q_i τ2 29 8 = 0 := by rw [eτ2]; rfl
  have h2_29_9 : q_i τ2 29 9 = 0 := by rw [eτ2]; rfl
  have h2_29_11 : q_i τ2 29 11 = 0 := by rw [eτ2]; rfl
  have h2_8_7 : q_i τ2 8 7 = 0 := by rw [eτ2]; rfl
  have r2_1_2 : q_r τ2 1 2 = 16 := by rw [eτ2]; exact r1_1_2
  have r2_1_3 : q_r τ2 1 3 = 29 := by rw [eτ2]; exact r1_1_3
  have r2_8_0 : q_r τ2 8 0 = 2 := by rw [eτ2]; rfl
  have r2_8_1 : q_r τ2 8 1 = 29 := by rw [eτ2]; rfl
  refine j_aload_n d_H_build_22 0 rfl ?_
  refine j_getR 8 f_H_19 d_H_build_23 (tg_1 hE2) (q_okE hE2 (by decide)) (rf_1_1 hE2) (by decide) ?_
  refine j_aload_n d_H_build_26 0 rfl ?_
  refine j_getR 8 f_H_19 d_H_build_27 (tg_1 hE2) (q_okE hE2 (by decide)) (rf_1_1 hE2) (by decide) ?_
  refine j_callV m_Pa_declarations [] [.ref 8] 1 0 0 cV_H_75 d_H_build_30 rfl rfl (tg_8 hE2) (q_okE hE2 (by decide)) (Nat.le_of_ble_eq_true rfl) (Nat.le_of_ble_eq_true rfl) (Nat.le_of_ble_eq_true rfl) (Nat.le_of_ble_eq_true rfl) (Nat.le_of_ble_eq_true rfl) (p_Pa_declarations_1 hE2 (h2_2_8) (h2_4_0) (r2_8_0)) (fun v τ3 h => ?_) (fun x τ h => absurd h.1 (by simp))
  obtain ⟨h1, eτ3⟩ := h
  cases h1
  have hE3 : q_E τ3 := by rw [eτ3]; exact e_Pa_declarations_1 hE2
  have h3_2_2 : q_i τ3 2 2 = 0 := by rw [eτ3]; exact h2_2_2
  have h3_2_8 : q_i τ3 2 8 = 0 := by rw [eτ3]; exact h2_2_8
  have h3_4_0 : q_i τ3 4 0 = 46 := by rw [eτ3]; exact h2_4_0
  have h3_29_0 : q_i τ3 29 0 = 0 := by rw [eτ3]; exact h2_29_0
  have h3_29_7 : q_i τ3 29 7 = 0 := by rw [eτ3]; exact h2_29_7
  have h3_29_8 : q_i τ3 29 8 = 0 := by rw [eτ3]; exact h2_29_8
  have h3_29_9 : q_i τ3 29 9 = 0 := by rw [eτ3]; exact h2_29_9
  have h3_29_11 : q_i τ3 29 11 = 0 := by rw [eτ3]; exact h2_29_11
  have h3_8_7 : q_i τ3 8 7 = 0 := by rw [eτ3]; exact h2_8_7
  have r3_1_2 : q_r τ3 1 2 = 16 := by rw [eτ3]; exact r2_1_2
  have r3_1_3 : q_r τ3 1 3 = 29 := by rw [eτ3]; exact r2_1_3
  have r3_8_0 : q_r τ3 8 0 = 2 := by rw [eτ3]; exact r2_8_0
  have r3_8_1 : q_r τ3 8 1 = 29 := by rw [eτ3]; exact r2_8_1
  refine j_if_eq 50 d_H_build_33 (by decide) (fun h => absurd h (by decide)) (fun _ => ?_)
  refine j_aload_n d_H_build_36 0 rfl ?_
  refine j_getR 8 f_H_19 d_H_build_37 (tg_1 hE3) (q_okE hE3 (by decide)) (rf_1_1 hE3) (by decide) ?_
  refine j_callV m_Pa_statements [] [.ref 8] 1 0 0 cV_H_79 d_H_build_40 rfl rfl (tg_8 hE3) (q_okE hE3 (by decide)) (Nat.le_of_ble_eq_true rfl) (Nat.le_of_ble_eq_true rfl) (Nat.le_of_ble_eq_true rfl) (Nat.le_of_ble_eq_true rfl) (Nat.le_of_ble_eq_true rfl) (p_Pa_statements_1 hE3 (h3_8_7) (h3_2_8) (h3_4_0) (r3_8_0)) (fun v τ4 h => ?_) (fun x τ h => absurd h.1 (by simp))
  obtain ⟨h1, eτ4⟩ := h
  cases h1
  have hE4 : q_E τ4 := by rw [eτ4]; exact e_Pa_statements_1 hE3
  have h4_2_2 : q_i τ4 2 2 = 0 := by rw [eτ4]; exact h3_2_2
  have h4_2_8 : q_i τ4 2 8 = 0 := by rw [eτ4]; exact h3_2_8
  have h4_4_0 : q_i τ4 4 0 = 46 := by rw [eτ4]; exact h3_4_0
  have h4_29_0 : q_i τ4 29 0 = 0 := by rw [eτ4]; exact h3_29_0
  have h4_29_7 : q_i τ4 29 7 = 0 := by rw [eτ4]; exact h3_29_7
  have h4_29_8 : q_i τ4 29 8 = 0 := by rw [eτ4]; exact h3_29_8
  have h4_29_9 : q_i τ4 29 9 = 0 := by rw [eτ4]; exact h3_29_9
  have h4_29_11 : q_i τ4 29 11 = 0 := by rw [eτ4]; exact h3_29_11
  have h4_8_7 : q_i τ4 8 7 = 0 := by rw [eτ4]; exact h3_8_7
  have r4_1_2 : q_r τ4 1 2 = 16 := by rw [eτ4]; exact r3_1_2
  have r4_1_3 : q_r τ4 1 3 = 29 := by rw [eτ4]; exact r3_1_3
  have r4_8_0 : q_r τ4 8 0 = 2 := by rw [eτ4]; exact r3_8_0
  have r4_8_1 : q_r τ4 8 1 = 29 := by rw [eτ4]; exact r3_8_1
  refine j_if_eq 50 d_H_build_43 (by decide) (fun h => absurd h (by decide)) (fun _ => ?_)
  refine j_iconst (v := 1) d_H_build_46 (by decide) ?_
  refine j_goto 51 d_H_build_47 (by decide) ?_
  refine j_callV m_Pa_conclude [.int 1] [] 0 0 0 cV_H_82 d_H_build_51 rfl rfl (tg_8 hE4) (q_okE hE4 (by decide)) (Nat.le_of_ble_eq_true rfl) (Nat.le_of_ble_eq_true rfl) (Nat.le_of_ble_eq_true rfl) (Nat.le_of_ble_eq_true rfl) (Nat.le_of_ble_eq_true rfl) (p_Pa_conclude_1 hE4 (h4_29_8) (r4_8_1)) (fun v τ5 h => ?_) (fun x τ h => absurd h.1 (by simp))
  obtain ⟨h1, eτ5⟩ := h
  cases h1
  have hE5 : q_E τ5 := by rw [eτ5]; exact e_Pa_conclude_1 hE4
  have h5_2_2 : q_i τ5 2 2 = 0 := by rw [eτ5]; exact h4_2_2
  have h5_2_8 : q_i τ5 2 8 = 0 := by rw [eτ5]; exact h4_2_8
  have h5_4_0 : q_i τ5 4 0 = 46 := by rw [eτ5]; exact h4_4_0
  have h5_29_0 : q_i τ5 29 0 = 0 := by rw [eτ5]; exact h4_29_0
  have h5_29_7 : q_i τ5 29 7 = 0 := by rw [eτ5]; exact h4_29_7
  have h5_29_8 : q_i τ5 29 8 = 0 := by rw [eτ5]; exact h4_29_8
  have h5_29_9 : q_i τ5 29 9 = 0 := by rw [eτ5]; exact h4_29_9
  have h5_29_11 : q_i τ5 29 11 = 0 := by rw [eτ5]; exact h4_29_11
  have h5_8_7 : q_i τ5 8 7 = 0 := by rw [eτ5]; exact h4_8_7
  have r5_1_2 : q_r τ5 1 2 = 16 := by rw [eτ5]; exact r4_1_2
  have r5_1_3 : q_r τ5 1 3 = 29 := by rw [eτ5]; exact r4_1_3
  have r5_8_0 : q_r τ5 8 0 = 2 := by rw [eτ5]; exact r4_8_0
  have r5_8_1 : q_r τ5 8 1 = 29 := by rw [eτ5]; exact r4_8_1
  refine j_aload_n d_H_build_54 0 rfl ?_
  refine j_getR 2 f_H_10 d_H_build_55 (tg_1 hE5) (q_okE hE5 (by decide)) (rf_1_0 hE5) (by decide) ?_
  refine j_iconst (v := 0) d_H_build_58 (by decide) ?_
  refine j_putI (g_H_55 _) d_H_build_59 (tg_2 hE5) (q_okE hE5 (by decide)) ?_
  refine j_aload_n d_H_build_62 0 rfl ?_
  refine j_getR 29 f_H_30 d_H_build_63 (tg_1 (q_E_i hE5)) (q_okE (q_E_i hE5) (by decide)) (r5_1_3) (by decide) ?_
  refine k_getI (0) f_H_86 d_H_build_66 (tg_29 (q_E_i hE5)) (q_okE (q_E_i hE5) (by decide)) (h5_29_9) ?_
  refine j_if_eq 102 d_H_build_69 (by decide) (fun _ => ?_) (fun h => absurd h (by decide))
  refine j_aload_n d_H_build_102 0 rfl ?_
  refine j_getR 16 f_H_26 d_H_build_103 (tg_1 (q_E_i hE5)) (q_okE (q_E_i hE5) (by decide)) (r5_1_2) (by decide) ?_
  refine j_astore_n (L' := [(1, .ref 16), (0, .ref 1)]) d_H_build_106 (by decide) rfl ?_
  refine j_aload_n d_H_build_107 1 rfl ?_
  refine j_aload_n d_H_build_108 1 rfl ?_
  refine j_getR 29 f_H_30 d_H_build_109 (tg_1 (q_E_i hE5)) (q_okE (q_E_i hE5) (by decide)) (r5_1_3) (by decide) ?_
  refine j_putR (g_H_26 _) d_H_build_112 (tg_1 (q_E_i hE5)) (q_okE (q_E_i hE5) (by decide)) (by decide) ?_
  refine j_aload_n d_H_build_115 1 rfl ?_
  refine j_aload_n d_H_build_116 0 rfl ?_
  refine j_putR (g_H_30 _) d_H_build_117 (tg_1 (q_E_r (q_E_i hE5) (by decide))) (q_okE (q_E_r (q_E_i hE5) (by decide)) (by decide)) (by decide) ?_
  refine j_aload_n d_H_build_120 1 rfl ?_
  refine j_iconst (v := 1) d_H_build_121 (by decide) ?_
  refine j_putZ (g_H_94 _) d_H_build_122 (tg_1 (q_E_r (q_E_r (q_E_i hE5) (by decide)) (by decide))) (q_okE (q_E_r (q_E_r (q_E_i hE5) (by decide)) (by decide)) (by decide)) (by decide) ?_
  refine j_aload_n d_H_build_125 1 rfl ?_
  refine j_getR 42 f_H_37 d_H_build_126 (tg_1 (q_E_i (q_E_r (q_E_r (q_E_i hE5) (by decide)) (by decide)))) (q_okE (q_E_i (q_E_r (q_E_r (q_E_i hE5) (by decide)) (by decide))) (by decide)) (rf_1_7 (q_E_i (q_E_r (q_E_r (q_E_i hE5) (by decide)) (by decide)))) (by decide) ?_
  refine j_iconst (v := 0) d_H_build_129 (by decide) ?_
  refine j_callS m_JA_fill [.ref 42, .int 0] [] 0 0 0 cS_H_98 d_H_build_130 rfl rfl (Nat.le_of_ble_eq_true rfl) (Nat.le_of_ble_eq_true rfl) (Nat.le_of_ble_eq_true rfl) (Nat.le_of_ble_eq_true rfl) (Nat.le_of_ble_eq_true rfl) (c_JA_fill (a := 42) (n := 12) (tg_42 (q_E_i (q_E_r (q_E_r (q_E_i hE5) (by decide)) (by decide)))) (q_okE (q_E_i (q_E_r (q_E_r (q_E_i hE5) (by decide)) (by decide))) (by decide)) (by decide) (by decide) 0) (fun v τ6 h => ?_) (fun x τ h => absurd h.1 (by simp))
  obtain ⟨h1, eτ6⟩ := h
  cases h1
  have hE6 : q_E τ6 := by rw [eτ6]; exact q_E_fill (q_E_i (q_E_r (q_E_r (q_E_i hE5) (by decide)) (by decide)))
  have h6_2_2 : q_i τ6 2 2 = 0 := by rw [eτ6]; exact rfl
  have h6_2_8 : q_i τ6 2 8 = 0 := by rw [eτ6]; exact h5_2_8
  have h6_4_0 : q_i τ6 4 0 = 46 := by rw [eτ6]; exact h5_4_0
  have h6_29_0 : q_i τ6 29 0 = 0 := by rw [eτ6]; exact h5_29_0
  have h6_29_7 : q_i τ6 29 7 = 0 := by rw [eτ6]; exact h5_29_7
  have h6_29_8 : q_i τ6 29 8 = 0 := by rw [eτ6]; exact h5_29_8
  have h6_29_9 : q_i τ6 29 9 = 0 := by rw [eτ6]; exact h5_29_9
  have h6_29_11 : q_i τ6 29 11 = 0 := by rw [eτ6]; exact h5_29_11
  have h6_8_7 : q_i τ6 8 7 = 0 := by rw [eτ6]; exact h5_8_7
  have r6_1_2 : q_r τ6 1 2 = 29 := by rw [eτ6]; exact rfl
  have r6_1_3 : q_r τ6 1 3 = 16 := by rw [eτ6]; exact rfl
  have r6_8_0 : q_r τ6 8 0 = 2 := by rw [eτ6]; exact r5_8_0
  have r6_8_1 : q_r τ6 8 1 = 29 := by rw [eτ6]; exact r5_8_1
  refine j_aload_n d_H_build_133 1 rfl ?_
  refine j_getR 43 f_H_44 d_H_build_134 (tg_1 hE6) (q_okE hE6 (by decide)) (rf_1_8 hE6) (by decide) ?_
  refine j_callV m_Ma_forget [] [] 1 0 0 cV_H_104 d_H_build_137 rfl rfl (tg_43 hE6) (q_okE hE6 (by decide)) (Nat.le_of_ble_eq_true rfl) (Nat.le_of_ble_eq_true rfl) (Nat.le_of_ble_eq_true rfl) (Nat.le_of_ble_eq_true rfl) (Nat.le_of_ble_eq_true rfl) (p_Ma_forget_1 hE6) (fun v τ7 h => ?_) (fun x τ h => absurd h.1 (by simp))
  obtain ⟨h1, eτ7⟩ := h
  cases h1
  have hE7 : q_E τ7 := by rw [eτ7]; exact e_Ma_forget_1 hE6
  have h7_2_2 : q_i τ7 2 2 = 0 := by rw [eτ7]; exact h6_2_2
  have h7_2_8 : q_i τ7 2 8 = 0 := by rw [eτ7]; exact h6_2_8
  have h7_4_0 : q_i τ7 4 0 = 46 := by rw [eτ7]; exact h6_4_0
  have h7_29_0 : q_i τ7 29 0 = 0 := by rw [eτ7]; exact h6_29_0
  have h7_29_7 : q_i τ7 29 7 = 0 := by rw [eτ7]; exact h6_29_7
  have h7_29_8 : q_i τ7 29 8 = 0 := by rw [eτ7]; exact h6_29_8
  have h7_29_9 : q_i τ7 29 9 = 0 := by rw [eτ7]; exact h6_29_9
  have h7_29_11 : q_i τ7 29 11 = 0 := by rw [eτ7]; exact h6_29_11
  have h7_8_7 : q_i τ7 8 7 = 0 := by rw [eτ7]; exact h6_8_7
  have r7_1_2 : q_r τ7 1 2 = 29 := by rw [eτ7]; exact r6_1_2
  have r7_1_3 : q_r τ7 1 3 = 16 := by rw [eτ7]; exact r6_1_3
  have r7_8_0 : q_r τ7 8 0 = 2 := by rw [eτ7]; exact r6_8_0
  have r7_8_1 : q_r τ7 8 1 = 29 := by rw [eτ7]; exact r6_8_1
  refine j_aload_n d_H_build_140 1 rfl ?_
  refine j_getR 47 f_H_51 d_H_build_141 (tg_1 hE7) (q_okE hE7 (by decide)) (rf_1_9 hE7) (by decide) ?_
  refine j_aload_n d_H_build_144 1 rfl ?_
  refine j_getR 29 f_H_26 d_H_build_145 (tg_1 hE7) (q_okE hE7 (by decide)) (r7_1_2) (by decide) ?_
  refine j_callV m_In_study [.ref 29] [] 0 0 0 cV_H_107 d_H_build_148 rfl rfl (tg_47 hE7) (q_okE hE7 (by decide)) (Nat.le_of_ble_eq_true rfl) (Nat.le_of_ble_eq_true rfl) (Nat.le_of_ble_eq_true rfl) (Nat.le_of_ble_eq_true rfl) (Nat.le_of_ble_eq_true rfl) (p_In_study_1 hE7) (fun v τ8 h => ?_) (fun x τ h => absurd h.1 (by simp))
  obtain ⟨h1, eτ8⟩ := h
  cases h1
  have hE8 : q_E τ8 := by rw [eτ8]; exact e_In_study_1 hE7
  have h8_2_2 : q_i τ8 2 2 = 0 := by rw [eτ8]; exact h7_2_2
  have h8_2_8 : q_i τ8 2 8 = 0 := by rw [eτ8]; exact h7_2_8
  have h8_4_0 : q_i τ8 4 0 = 46 := by rw [eτ8]; exact h7_4_0
  have h8_29_0 : q_i τ8 29 0 = 0 := by rw [eτ8]; exact h7_29_0
  have h8_29_7 : q_i τ8 29 7 = 0 := by rw [eτ8]; exact h7_29_7
  have h8_29_8 : q_i τ8 29 8 = 0 := by rw [eτ8]; exact h7_29_8
  have h8_29_9 : q_i τ8 29 9 = 0 := by rw [eτ8]; exact h7_29_9
  have h8_29_11 : q_i τ8 29 11 = 0 := by rw [eτ8]; exact h7_29_11
  have h8_8_7 : q_i τ8 8 7 = 0 := by rw [eτ8]; exact h7_8_7
  have r8_1_2 : q_r τ8 1 2 = 29 := by rw [eτ8]; exact r7_1_2
  have r8_1_3 : q_r τ8 1 3 = 16 := by rw [eτ8]; exact r7_1_3
  have r8_8_0 : q_r τ8 8 0 = 2 := by rw [eτ8]; exact r7_8_0
  have r8_8_1 : q_r τ8 8 1 = 29 := by rw [eτ8]; exact r7_8_1
  refine j_aload_n d_H_build_151 1 rfl ?_
  refine j_getR 47 f_H_51 d_H_build_152 (tg_1 hE8) (q_okE hE8 (by decide)) (rf_1_9 hE8) (by decide) ?_
  refine j_getR 48 f_H_111 d_H_build_155 (tg_47 hE8) (q_okE hE8 (by decide)) (rf_47_0 hE8) (by decide) ?_
  refine j_aload_n d_H_build_158 1 rfl ?_
  refine j_getR 29 f_H_26 d_H_build_159 (tg_1 hE8) (q_okE hE8 (by decide)) (r8_1_2) (by decide) ?_
  refine j_callV m_En_encode [.ref 29] [] 2 0 0 cV_H_115 d_H_build_162 rfl rfl (tg_48 hE8) (q_okE hE8 (by decide)) (Nat.le_of_ble_eq_true rfl) (Nat.le_of_ble_eq_true rfl) (Nat.le_of_ble_eq_true rfl) (Nat.le_of_ble_eq_true rfl) (Nat.le_of_ble_eq_true rfl) (p_En_encode_1 hE8 (h8_29_0) (h8_29_7) (h8_29_11)) (fun v τ9 h => ?_) (fun x τ h => absurd h.1 (by simp))
  obtain ⟨h1, eτ9⟩ := h
  cases h1
  have hE9 : q_E τ9 := by rw [eτ9]; exact e_En_encode_1 hE8
  have h9_2_2 : q_i τ9 2 2 = 0 := by rw [eτ9]; exact h8_2_2
  have h9_2_8 : q_i τ9 2 8 = 0 := by rw [eτ9]; exact h8_2_8
  have h9_4_0 : q_i τ9 4 0 = 46 := by rw [eτ9]; exact h8_4_0
  have h9_29_0 : q_i τ9 29 0 = 0 := by rw [eτ9]; exact h8_29_0
  have h9_29_7 : q_i τ9 29 7 = 0 := by rw [eτ9]; exact h8_29_7
  have h9_29_8 : q_i τ9 29 8 = 0 := by rw [eτ9]; exact h8_29_8
  have h9_29_9 : q_i τ9 29 9 = 0 := by rw [eτ9]; exact h8_29_9
  have h9_29_11 : q_i τ9 29 11 = 0 := by rw [eτ9]; exact h8_29_11
  have h9_8_7 : q_i τ9 8 7 = 0 := by rw [eτ9]; exact h8_8_7
  have r9_1_2 : q_r τ9 1 2 = 29 := by rw [eτ9]; exact r8_1_2
  have r9_1_3 : q_r τ9 1 3 = 16 := by rw [eτ9]; exact r8_1_3
  have r9_8_0 : q_r τ9 8 0 = 2 := by rw [eτ9]; exact r8_8_0
  have r9_8_1 : q_r τ9 8 1 = 29 := by rw [eτ9]; exact r8_8_1
  refine j_aload_n d_H_build_165 1 rfl ?_
  refine j_getR 29 f_H_26 d_H_build_166 (tg_1 hE9) (q_okE hE9 (by decide)) (r9_1_2) (by decide) ?_
  refine k_getI (0) f_H_120 d_H_build_169 (tg_29 hE9) (q_okE hE9 (by decide)) (h9_29_7) ?_
  exact j_nret d_H_build_172 rfl (by decide) (by decide) (by decide) ⟨rfl, by rw [eτ9, eτ8, eτ7, eτ6, eτ5, eτ4, eτ3, eτ2, eτ1]; rfl⟩
def s_M_token_1 (σ : q_H) : q_H := (q_seti (q_seti (q_seti σ 96 0 273) 97 0 0) 94 7 1)
theorem e_M_token_1 {σ : q_H} (hE : q_E σ) : q_E (s_M_token_1 σ) := (q_E_i (q_E_i (q_E_i hE)))
set_option maxHeartbeats 1000000 in
theorem p_M_token_1 {ω : q_W} {σ : q_H} (hE : q_E σ) (f_94_7 : q_i σ 94 7 = 0)  : J ω m_M_token 0 0 0 0 0 0 [(0, .ref 94), (1, .int 273), (2, .int 0)] [] σ (fun r τ => r = .inl (none) ∧ τ = s_M_token_1 σ) := by
  refine j_aload_n d_M_token_0 0 rfl ?_
  refine j_getR 96 f_M_13 d_M_token_1 (tg_94 hE) (q_okE hE (by decide)) (rf_94_3 hE) (by decide) ?_
  refine j_aload_n d_M_token_4 0 rfl ?_
  refine k_getI (0) f_M_155 d_M_token_5 (tg_94 hE) (q_okE hE (by decide)) (f_94_7) ?_
  refine j_iload_n d_M_token_8 1 rfl ?_
  refine j_iast 0 d_M_token_9 (tg_96 hE) (q_okE hE (by decide)) rfl (by decide) (by decide) ?_
  refine j_aload_n d_M_token_10 0 rfl ?_
  refine j_getR 97 f_M_17 d_M_token_11 (tg_94 (q_E_i hE)) (q_okE (q_E_i hE) (by decide)) (rf_94_4 (q_E_i hE)) (by decide) ?_
  refine j_aload_n d_M_token_14 0 rfl ?_
  refine k_getI (0) f_M_155 d_M_token_15 (tg_94 (q_E_i hE)) (q_okE (q_E_i hE) (by decide)) (f_94_7) ?_
  refine j_iload_n d_M_token_18 2 rfl ?_
  refine j_iast 0 d_M_token_19 (tg_97 (q_E_i hE)) (q_okE (q_E_i hE) (by decide)) rfl (by decide) (by decide) ?_
  refine j_aload_n d_M_token_20 0 rfl ?_
  refine j_dup d_M_token_21 rfl ?_
  refine k_getI (0) f_M_155 d_M_token_22 (tg_94 (q_E_i (q_E_i hE))) (q_okE (q_E_i (q_E_i hE)) (by decide)) (f_94_7) ?_
  refine j_iconst (v := 1) d_M_token_25 (by decide) ?_
  refine j_iadd d_M_token_26 ?_
  refine j_topE (v := 1) (by decide) ?_
  refine j_putI (g_M_155 _) d_M_token_27 (tg_94 (q_E_i (q_E_i hE))) (q_okE (q_E_i (q_E_i hE)) (by decide)) ?_
  exact j_vret d_M_token_30 rfl (by decide) (by decide) ⟨rfl, rfl⟩
def s_M_cut_1 (σ : q_H) : q_H := (s_M_token_1 (q_seti σ 94 7 0))
theorem e_M_cut_1 {σ : q_H} (hE : q_E σ) : q_E (s_M_cut_1 σ) := (e_M_token_1 (q_E_i hE))
set_option maxHeartbeats 1000000 in
theorem p_M_cut_1 {ω : q_W} {σ : q_H} (hE : q_E σ) (f_94_2 : q_i σ 94 2 = 0)  : J ω m_M_cut 1 0 0 0 0 0 [(0, .ref 94)] [] σ (fun r τ => r = .inl (none) ∧ τ = s_M_cut_1 σ) := by
  refine j_aload_n d_M_cut_0 0 rfl ?_
  refine j_iconst (v := 0) d_M_cut_1 (by decide) ?_
  refine j_putI (g_M_155 _) d_M_cut_2 (tg_94 hE) (q_okE hE (by decide)) ?_
  refine j_iconst (v := 0) d_M_cut_5 (by decide) ?_
  refine j_istore_n (L' := [(1, .int 0), (0, .ref 94)]) d_M_cut_6 (by decide) rfl ?_
  refine j_iload_n d_M_cut_7 0 rfl ?_
  refine j_aload_n d_M_cut_8 1 rfl ?_
  refine k_getI (0) f_M_144 d_M_cut_9 (tg_94 (q_E_i hE)) (q_okE (q_E_i hE) (by decide)) (f_94_2) ?_
  refine j_icmp_ge 309 d_M_cut_12 (by decide) (fun _ => ?_) (fun h => absurd h (by decide))
  refine j_aload_n d_M_cut_309 1 rfl ?_
  refine j_sipush (v := 273) d_M_cut_310 (by decide) ?_
  refine j_aload_n d_M_cut_313 1 rfl ?_
  refine k_getI (0) f_M_144 d_M_cut_314 (tg_94 (q_E_i hE)) (q_okE (q_E_i hE) (by decide)) (f_94_2) ?_
  refine j_callV m_M_token [.int 273, .int 0] [] 0 0 0 cV_M_193 d_M_cut_317 rfl rfl (tg_94 (q_E_i hE)) (q_okE (q_E_i hE) (by decide)) (Nat.le_of_ble_eq_true rfl) (Nat.le_of_ble_eq_true rfl) (Nat.le_of_ble_eq_true rfl) (Nat.le_of_ble_eq_true rfl) (Nat.le_of_ble_eq_true rfl) (p_M_token_1 (q_E_i hE) (rfl)) (fun v τ1 h => ?_) (fun x τ h => absurd h.1 (by simp))
  obtain ⟨h1, eτ1⟩ := h
  cases h1
  have hE1 : q_E τ1 := by rw [eτ1]; exact e_M_token_1 (q_E_i hE)
  have h1_94_2 : q_i τ1 94 2 = 0 := by rw [eτ1]; exact f_94_2
  have h1_94_7 : q_i τ1 94 7 = 1 := by rw [eτ1]; rfl
  exact j_vret d_M_cut_320 rfl (by decide) (by decide) ⟨rfl, by rw [eτ1]; rfl⟩
def s_M_swap_1 (σ : q_H) : q_H := (q_setr (q_setr (q_setr (q_setr (q_setr (q_setr (q_setr (q_setr (q_setr (q_setr (q_setr (q_setr σ 94 32 116) 94 38 110) 94 33 117) 94 39 111) 94 34 118) 94 40 112) 94 35 119) 94 41 113) 94 36 120) 94 42 114) 94 37 121) 94 43 115)
theorem e_M_swap_1 {σ : q_H} (hE : q_E σ) : q_E (s_M_swap_1 σ) := (q_E_r (q_E_r (q_E_r (q_E_r (q_E_r (q_E_r (q_E_r (q_E_r (q_E_r (q_E_r (q_E_r (q_E_r hE (by decide)) (by decide)) (by decide)) (by decide)) (by decide)) (by decide)) (by decide)) (by decide)) (by decide)) (by decide)) (by decide)) (by decide))
set_option maxHeartbeats 1000000 in
theorem p_M_swap_1 {ω : q_W} {σ : q_H} (hE : q_E σ)  (r_94_32 : q_r σ 94 32 = 110) (r_94_38 : q_r σ 94 38 = 116) (r_94_33 : q_r σ 94 33 = 111) (r_94_39 : q_r σ 94 39 = 117) (r_94_34 : q_r σ 94 34 = 112) (r_94_40 : q_r σ 94 40 = 118) (r_94_35 : q_r σ 94 35 = 113) (r_94_41 : q_r σ 94 41 = 119) (r_94_36 : q_r σ 94 36 = 114) (r_94_37 : q_r σ 94 37 = 115) (r_94_42 : q_r σ 94 42 = 120) (r_94_43 : q_r σ 94 43 = 121) : J ω m_M_swap 0 0 0 0 0 0 [(0, .ref 94)] [] σ (fun r τ => r = .inl (none) ∧ τ = s_M_swap_1 σ) := by
  refine j_aload_n d_M_swap_0 0 rfl ?_
  refine j_getR 110 f_M_61 d_M_swap_1 (tg_94 hE) (q_okE hE (by decide)) (r_94_32) (by decide) ?_
  refine j_astore_n (L' := [(1, .ref 110), (0, .ref 94)]) d_M_swap_4 (by decide) rfl ?_
  refine j_aload_n d_M_swap_5 1 rfl ?_
  refine j_aload_n d_M_swap_6 1 rfl ?_
  refine j_getR 116 f_M_79 d_M_swap_7 (tg_94 hE) (q_okE hE (by decide)) (r_94_38) (by decide) ?_
  refine j_putR (g_M_61 _) d_M_swap_10 (tg_94 hE) (q_okE hE (by decide)) (by decide) ?_
  refine j_aload_n d_M_swap_13 1 rfl ?_
  refine j_aload_n d_M_swap_14 0 rfl ?_
  refine j_putR (g_M_79 _) d_M_swap_15 (tg_94 (q_E_r hE (by decide))) (q_okE (q_E_r hE (by decide)) (by decide)) (by decide) ?_
  refine j_aload_n d_M_swap_18 1 rfl ?_
  refine j_getR 111 f_M_64 d_M_swap_19 (tg_94 (q_E_r (q_E_r hE (by decide)) (by decide))) (q_okE (q_E_r (q_E_r hE (by decide)) (by decide)) (by decide)) (r_94_33) (by decide) ?_
  refine j_astore_n (L' := [(1, .ref 111), (0, .ref 94)]) d_M_swap_22 (by decide) rfl ?_
  refine j_aload_n d_M_swap_23 1 rfl ?_
  refine j_aload_n d_M_swap_24 1 rfl ?_
  refine j_getR 117 f_M_82 d_M_swap_25 (tg_94 (q_E_r (q_E_r hE (by decide)) (by decide))) (q_okE (q_E_r (q_E_r hE (by decide)) (by decide)) (by decide)) (r_94_39) (by decide) ?_
  refine j_putR (g_M_64 _) d_M_swap_28 (tg_94 (q_E_r (q_E_r hE (by decide)) (by decide))) (q_okE (q_E_r (q_E_r hE (by decide)) (by decide)) (by decide)) (by decide) ?_
  refine j_aload_n d_M_swap_31 1 rfl ?_
  refine j_aload_n d_M_swap_32 0 rfl ?_
  refine j_putR (g_M_82 _) d_M_swap_33 (tg_94 (q_E_r (q_E_r (q_E_r hE (by decide)) (by decide)) (by decide))) (q_okE (q_E_r (q_E_r (q_E_r hE (by decide)) (by decide)) (by decide)) (by decide)) (by decide) ?_
  refine j_aload_n d_M_swap_36 1 rfl ?_
  refine j_getR 112 f_M_67 d_M_swap_37 (tg_94 (q_E_r (q_E_r (q_E_r (q_E_r hE (by decide)) (by decide)) (by decide)) (by decide))) (q_okE (q_E_r (q_E_r (q_E_r (q_E_r hE (by decide)) (by decide)) (by decide)) (by decide)) (by decide)) (r_94_34) (by decide) ?_
  refine j_astore_n (L' := [(1, .ref 112), (0, .ref 94)]) d_M_swap_40 (by decide) rfl ?_
  refine j_aload_n d_M_swap_41 1 rfl ?_
  refine j_aload_n d_M_swap_42 1 rfl ?_
  refine j_getR 118 f_M_85 d_M_swap_43 (tg_94 (q_E_r (q_E_r (q_E_r (q_E_r hE (by decide)) (by decide)) (by decide)) (by decide))) (q_okE (q_E_r (q_E_r (q_E_r (q_E_r hE (by decide)) (by decide)) (by decide)) (by decide)) (by decide)) (r_94_40) (by decide) ?_
  refine j_putR (g_M_67 _) d_M_swap_46 (tg_94 (q_E_r (q_E_r (q_E_r (q_E_r hE (by decide)) (by decide)) (by decide)) (by decide))) (q_okE (q_E_r (q_E_r (q_E_r (q_E_r hE (by decide)) (by decide)) (by decide)) (by decide)) (by decide)) (by decide) ?_
  refine j_aload_n d_M_swap_49 1 rfl ?_
  refine j_aload_n d_M_swap_50 0 rfl ?_
  refine j_putR (g_M_85 _) d_M_swap_51 (tg_94 (q_E_r (q_E_r (q_E_r (q_E_r (q_E_r hE (by decide)) (by decide)) (by decide)) (by decide)) (by decide))) (q_okE (q_E_r (q_E_r (q_E_r (q_E_r (q_E_r hE (by decide)) (by decide)) (by decide)) (by decide)) (by decide)) (by decide)) (by decide) ?_
  refine j_aload_n d_M_swap_54 1 rfl ?_
  refine j_getR 113 f_M_70 d_M_swap_55 (tg_94 (q_E_r (q_E_r (q_E_r (q_E_r (q_E_r (q_E_r hE (by decide)) (by decide)) (by decide)) (by decide)) (by decide)) (by decide))) (q_okE (q_E_r (q_E_r (q_E_r (q_E_r (q_E_r (q_E_r hE (by decide)) (by decide)) (by decide)) (by decide)) (by decide)) (by decide)) (by decide)) (r_94_35) (by decide) ?_
  refine j_astore_n (L' := [(1, .ref 113), (0, .ref 94)]) d_M_swap_58 (by decide) rfl ?_
  refine j_aload_n d_M_swap_59 1 rfl ?_
  refine j_aload_n d_M_swap_60 1 rfl ?_
  refine j_getR 119 f_M_88 d_M_swap_61 (tg_94 (q_E_r (q_E_r (q_E_r (q_E_r (q_E_r (q_E_r hE (by decide)) (by decide)) (by decide)) (by decide)) (by decide)) (by decide))) (q_okE (q_E_r (q_E_r (q_E_r (q_E_r (q_E_r (q_E_r hE (by decide)) (by decide)) (by decide)) (by decide)) (by decide)) (by decide)) (by decide)) (r_94_41) (by decide) ?_
  refine j_putR (g_M_70 _) d_M_swap_64 (tg_94 (q_E_r (q_E_r (q_E_r (q_E_r (q_E_r (q_E_r hE (by decide)) (by decide)) (by decide)) (by decide)) (by decide)) (by decide))) (q_okE (q_E_r (q_E_r (q_E_r (q_E_r (q_E_r (q_E_r hE (by decide)) (by decide)) (by decide)) (by decide)) (by decide)) (by decide)) (by decide)) (by decide) ?_
  refine j_aload_n d_M_swap_67 1 rfl ?_
  refine j_aload_n d_M_swap_68 0 rfl ?_
  refine j_putR (g_M_88 _) d_M_swap_69 (tg_94 (q_E_r (q_E_r (q_E_r (q_E_r (q_E_r (q_E_r (q_E_r hE (by decide)) (by decide)) (by decide)) (by decide)) (by decide)) (by decide)) (by decide))) (q_okE (q_E_r (q_E_r (q_E_r (q_E_r (q_E_r (q_E_r (q_E_r hE (by decide)) (by decide)) (by decide)) (by decide)) (by decide)) (by decide)) (by decide)) (by decide)) (by decide) ?_
  refine j_st (fun τ1 eτ1 => ?_)
  have hE1 : q_E τ1 := by rw [eτ1]; exact (q_E_r (q_E_r (q_E_r (q_E_r (q_E_r (q_E_r (q_E_r (q_E_r hE (by decide)) (by decide)) (by decide)) (by decide)) (by decide)) (by decide)) (by decide)) (by decide))
  have r1_94_32 : q_r τ1 94 32 = 116 := by rw [eτ1]; exact rfl
  have r1_94_33 : q_r τ1 94 33 = 117 := by rw [eτ1]; exact rfl
  have r1_94_34 : q_r τ1 94 34 = 118 := by rw [eτ1]; exact rfl
  have r1_94_35 : q_r τ1 94 35 = 119 := by rw [eτ1]; exact rfl
  have r1_94_36 : q_r τ1 94 36 = 114 := by rw [eτ1]; exact r_94_36
  have r1_94_37 : q_r τ1 94 37 = 115 := by rw [eτ1]; exact r_94_37
  have r1_94_38 : q_r τ1 94 38 = 110 := by rw [eτ1]; exact rfl
  have r1_94_39 : q_r τ1 94 39 = 111 := by rw [eτ1]; exact rfl
  have r1_94_40 : q_r τ1 94 40 = 112 := by rw [eτ1]; exact rfl
  have r1_94_41 : q_r τ1 94 41 = 113 := by rw [eτ1]; exact rfl
  have r1_94_42 : q_r τ1 94 42 = 120 := by rw [eτ1]; exact r_94_42
  have r1_94_43 : q_r τ1 94 43 = 121 := by rw [eτ1]; exact r_94_43
  refine j_aload_n d_M_swap_72 1 rfl ?_
  refine j_getR 114 f_M_73 d_M_swap_73 (tg_94 hE1) (q_okE hE1 (by decide)) (r1_94_36) (by decide) ?_
  refine j_astore_n (L' := [(1, .ref 114), (0, .ref 94)]) d_M_swap_76 (by decide) rfl ?_
  refine j_aload_n d_M_swap_77 1 rfl ?_
  refine j_aload_n d_M_swap_78 1 rfl ?_
  refine j_getR 120 f_M_91 d_M_swap_79 (tg_94 hE1) (q_okE hE1 (by decide)) (r1_94_42) (by decide) ?_
  refine j_putR (g_M_73 _) d_M_swap_82 (tg_94 hE1) (q_okE hE1 (by decide)) (by decide) ?_
  refine j_aload_n d_M_swap_85 1 rfl ?_
  refine j_aload_n d_M_swap_86 0 rfl ?_
  refine j_putR (g_M_91 _) d_M_swap_87 (tg_94 (q_E_r hE1 (by decide))) (q_okE (q_E_r hE1 (by decide)) (by decide)) (by decide) ?_
  refine j_aload_n d_M_swap_90 1 rfl ?_
  refine j_getR 115 f_M_76 d_M_swap_91 (tg_94 (q_E_r (q_E_r hE1 (by decide)) (by decide))) (q_okE (q_E_r (q_E_r hE1 (by decide)) (by decide)) (by decide)) (r1_94_37) (by decide) ?_
  refine j_astore_n (L' := [(1, .ref 115), (0, .ref 94)]) d_M_swap_94 (by decide) rfl ?_
  refine j_aload_n d_M_swap_95 1 rfl ?_
  refine j_aload_n d_M_swap_96 1 rfl ?_
  refine j_getR 121 f_M_94 d_M_swap_97 (tg_94 (q_E_r (q_E_r hE1 (by decide)) (by decide))) (q_okE (q_E_r (q_E_r hE1 (by decide)) (by decide)) (by decide)) (r1_94_43) (by decide) ?_
  refine j_putR (g_M_76 _) d_M_swap_100 (tg_94 (q_E_r (q_E_r hE1 (by decide)) (by decide))) (q_okE (q_E_r (q_E_r hE1 (by decide)) (by decide)) (by decide)) (by decide) ?_
  refine j_aload_n d_M_swap_103 1 rfl ?_
  refine j_aload_n d_M_swap_104 0 rfl ?_
  refine j_putR (g_M_94 _) d_M_swap_105 (tg_94 (q_E_r (q_E_r (q_E_r hE1 (by decide)) (by decide)) (by decide))) (q_okE (q_E_r (q_E_r (q_E_r hE1 (by decide)) (by decide)) (by decide)) (by decide)) (by decide) ?_
  exact j_vret d_M_swap_108 rfl (by decide) (by decide) ⟨rfl, by rw [eτ1]; rfl⟩
def s_M_kind_1 (σ : q_H) : q_H := σ
theorem e_M_kind_1 {σ : q_H} (hE : q_E σ) : q_E (s_M_kind_1 σ) := hE
set_option maxHeartbeats 1000000 in
theorem p_M_kind_1 {ω : q_W} {σ : q_H} (hE : q_E σ) (f_94_8 : q_i σ 94 8 = 0) (f_96_0 : q_i σ 96 0 = 273)  : J ω m_M_kind 0 0 0 0 0 0 [(0, .ref 94)] [] σ (fun r τ => r = .inl (some (.int 273)) ∧ τ = s_M_kind_1 σ) := by
  refine j_aload_n d_M_kind_0 0 rfl ?_
  refine j_getR 96 f_M_13 d_M_kind_1 (tg_94 hE) (q_okE hE (by decide)) (rf_94_3 hE) (by decide) ?_
  refine j_aload_n d_M_kind_4 0 rfl ?_
  refine k_getI (0) f_M_218 d_M_kind_5 (tg_94 hE) (q_okE hE (by decide)) (f_94_8) ?_
  refine k_iald (273) 0 d_M_kind_8 (tg_96 hE) (q_okE hE (by decide)) rfl (by decide) (by decide) (f_96_0) ?_
  exact j_nret d_M_kind_9 rfl (by decide) (by decide) (by decide) ⟨rfl, rfl⟩
def s_M_wholeProgram_1 (σ : q_H) : q_H := (s_M_kind_1 (s_M_kind_1 (s_M_kind_1 (q_seti (q_seti (q_seti (q_seti (q_seti (q_seti (q_seti (q_seti (q_seti σ 94 8 0) 94 9 0) 94 17 0) 94 18 0) 94 19 0) 94 20 0) 94 21 0) 94 44 0) 94 48 0))))
theorem e_M_wholeProgram_1 {σ : q_H} (hE : q_E σ) : q_E (s_M_wholeProgram_1 σ) := (e_M_kind_1 (e_M_kind_1 (e_M_kind_1 (q_E_i (q_E_i (q_E_i (q_E_i (q_E_i (q_E_i (q_E_i (q_E_i (q_E_i hE))))))))))))
set_option maxHeartbeats 1000000 in
theorem p_M_wholeProgram_1 {ω : q_W} {σ : q_H} (hE : q_E σ) (f_96_0 : q_i σ 96 0 = 273)  : J ω m_M_wholeProgram 1 0 0 0 0 0 [(0, .ref 94)] [] σ (fun r τ => r = .inl (some (.int (-1))) ∧ τ = s_M_wholeProgram_1 σ) := by
  refine j_aload_n d_M_wholeProgram_0 0 rfl ?_
  refine j_iconst (v := 0) d_M_wholeProgram_1 (by decide) ?_
  refine j_putI (g_M_218 _) d_M_wholeProgram_2 (tg_94 hE) (q_okE hE (by decide)) ?_
  refine j_aload_n d_M_wholeProgram_5 0 rfl ?_
  refine j_iconst (v := 0) d_M_wholeProgram_6 (by decide) ?_
  refine j_putI (g_M_224 _) d_M_wholeProgram_7 (tg_94 (q_E_i hE)) (q_okE (q_E_i hE) (by decide)) ?_
  refine j_aload_n d_M_wholeProgram_10 0 rfl ?_
  refine j_iconst (v := 0) d_M_wholeProgram_11 (by decide) ?_
  refine j_putI (g_M_246 _) d_M_wholeProgram_12 (tg_94 (q_E_i (q_E_i hE))) (q_okE (q_E_i (q_E_i hE)) (by decide)) ?_
  refine j_aload_n d_M_wholeProgram_15 0 rfl ?_
  refine j_iconst (v := 0) d_M_wholeProgram_16 (by decide) ?_
  refine j_putI (g_M_264 _) d_M_wholeProgram_17 (tg_94 (q_E_i (q_E_i (q_E_i hE)))) (q_okE (q_E_i (q_E_i (q_E_i hE))) (by decide)) ?_
  refine j_aload_n d_M_wholeProgram_20 0 rfl ?_
  refine j_iconst (v := 0) d_M_wholeProgram_21 (by decide) ?_
  refine j_putI (g_M_261 _) d_M_wholeProgram_22 (tg_94 (q_E_i (q_E_i (q_E_i (q_E_i hE))))) (q_okE (q_E_i (q_E_i (q_E_i (q_E_i hE)))) (by decide)) ?_
  refine j_aload_n d_M_wholeProgram_25 0 rfl ?_
  refine j_iconst (v := 0) d_M_wholeProgram_26 (by decide) ?_
  refine j_putI (g_M_258 _) d_M_wholeProgram_27 (tg_94 (q_E_i (q_E_i (q_E_i (q_E_i (q_E_i hE)))))) (q_okE (q_E_i (q_E_i (q_E_i (q_E_i (q_E_i hE))))) (by decide)) ?_
  refine j_aload_n d_M_wholeProgram_30 0 rfl ?_
  refine j_iconst (v := 0) d_M_wholeProgram_31 (by decide) ?_
  refine j_putI (g_M_280 _) d_M_wholeProgram_32 (tg_94 (q_E_i (q_E_i (q_E_i (q_E_i (q_E_i (q_E_i hE))))))) (q_okE (q_E_i (q_E_i (q_E_i (q_E_i (q_E_i (q_E_i hE)))))) (by decide)) ?_
  refine j_aload_n d_M_wholeProgram_35 0 rfl ?_
  refine j_iconst (v := 0) d_M_wholeProgram_36 (by decide) ?_
  refine j_putI (g_M_243 _) d_M_wholeProgram_37 (tg_94 (q_E_i (q_E_i (q_E_i (q_E_i (q_E_i (q_E_i (q_E_i hE)))))))) (q_okE (q_E_i (q_E_i (q_E_i (q_E_i (q_E_i (q_E_i (q_E_i hE))))))) (by decide)) ?_
  refine j_st (fun τ1 eτ1 => ?_)
  have hE1 : q_E τ1 := by rw [eτ1]; exact (q_E_i (q_E_i (q_E_i (q_E_i (q_E_i (q_E_i (q_E_i (q_E_i hE))))))))
  have h1_96_0 : q_i τ1 96 0 = 273 := by rw [eτ1]; exact f_96_0
  have h1_94_8 : q_i τ1 94 8 = 0 := by rw [eτ1]; exact rfl
  refine j_aload_n d_M_wholeProgram_40 0 rfl ?_
  refine j_iconst (v := 0) d_M_wholeProgram_41 (by decide) ?_
  refine j_putI (g_M_237 _) d_M_wholeProgram_42 (tg_94 hE1) (q_okE hE1 (by decide)) ?_
  refine j_aload_n d_M_wholeProgram_45 0 rfl ?_
  refine j_callV m_M_kind [] [] 0 0 0 cV_M_227 d_M_wholeProgram_46 rfl rfl (tg_94 (q_E_i hE1)) (q_okE (q_E_i hE1) (by decide)) (Nat.le_of_ble_eq_true rfl) (Nat.le_of_ble_eq_true rfl) (Nat.le_of_ble_eq_true rfl) (Nat.le_of_ble_eq_true rfl) (Nat.le_of_ble_eq_true rfl) (p_M_kind_1 (q_E_i hE1) (h1_94_8) (h1_96_0)) (fun v τ2 h => ?_) (fun x τ h => absurd h.1 (by simp))
  obtain ⟨h1, eτ2⟩ := h
  cases h1
  have hE2 : q_E τ2 := by rw [eτ2]; exact e_M_kind_1 (q_E_i hE1)
  have h2_96_0 : q_i τ2 96 0 = 273 := by rw [eτ2]; exact h1_96_0
  have h2_94_8 : q_i τ2 94 8 = 0 := by rw [eτ2]; exact h1_94_8
  refine j_sipush (v := 256) d_M_wholeProgram_49 (by decide) ?_
  refine j_icmp_eq 65 d_M_wholeProgram_52 (by decide) (fun h => absurd h (by decide)) (fun _ => ?_)
  refine j_aload_n d_M_wholeProgram_55 0 rfl ?_
  refine j_callV m_M_kind [] [] 0 0 0 cV_M_227 d_M_wholeProgram_56 rfl rfl (tg_94 hE2) (q_okE hE2 (by decide)) (Nat.le_of_ble_eq_true rfl) (Nat.le_of_ble_eq_true rfl) (Nat.le_of_ble_eq_true rfl) (Nat.le_of_ble_eq_true rfl) (Nat.le_of_ble_eq_true rfl) (p_M_kind_1 hE2 (h2_94_8) (h2_96_0)) (fun v τ3 h => ?_) (fun x τ h => absurd h.1 (by simp))
  obtain ⟨h1, eτ3⟩ := h
  cases h1
  have hE3 : q_E τ3 := by rw [eτ3]; exact e_M_kind_1 hE2
  have h3_96_0 : q_i τ3 96 0 = 273 := by rw [eτ3]; exact h2_96_0
  have h3_94_8 : q_i τ3 94 8 = 0 := by rw [eτ3]; exact h2_94_8
  refine j_sipush (v := 257) d_M_wholeProgram_59 (by decide) ?_
  refine j_icmp_ne 72 d_M_wholeProgram_62 (by decide) (fun _ => ?_) (fun h => absurd h (by decide))
  refine j_iconst (v := (-1)) d_M_wholeProgram_72 (by decide) ?_
  refine j_istore_n (L' := [(1, .int (-1)), (0, .ref 94)]) d_M_wholeProgram_73 (by decide) rfl ?_
  refine j_iconst (v := (-1)) d_M_wholeProgram_74 (by decide) ?_
  refine j_istore_n (L' := [(2, .int (-1)), (1, .int (-1)), (0, .ref 94)]) d_M_wholeProgram_75 (by decide) rfl ?_
  refine j_aload_n d_M_wholeProgram_76 2 rfl ?_
  refine j_callV m_M_kind [] [] 0 0 0 cV_M_227 d_M_wholeProgram_77 rfl rfl (tg_94 hE3) (q_okE hE3 (by decide)) (Nat.le_of_ble_eq_true rfl) (Nat.le_of_ble_eq_true rfl) (Nat.le_of_ble_eq_true rfl) (Nat.le_of_ble_eq_true rfl) (Nat.le_of_ble_eq_true rfl) (p_M_kind_1 hE3 (h3_94_8) (h3_96_0)) (fun v τ4 h => ?_) (fun x τ h => absurd h.1 (by simp))
  obtain ⟨h1, eτ4⟩ := h
  cases h1
  have hE4 : q_E τ4 := by rw [eτ4]; exact e_M_kind_1 hE3
  have h4_96_0 : q_i τ4 96 0 = 273 := by rw [eτ4]; exact h3_96_0
  have h4_94_8 : q_i τ4 94 8 = 0 := by rw [eτ4]; exact h3_94_8
  refine j_sipush (v := 273) d_M_wholeProgram_80 (by decide) ?_
  refine j_icmp_eq 112 d_M_wholeProgram_83 (by decide) (fun _ => ?_) (fun h => absurd h (by decide))
  refine j_iload_n d_M_wholeProgram_112 1 rfl ?_
  exact j_nret d_M_wholeProgram_113 rfl (by decide) (by decide) (by decide) ⟨rfl, by rw [eτ4, eτ3, eτ2, eτ1]; rfl⟩
def s_M_workOfAll_1 (σ : q_H) : q_H := σ
theorem e_M_workOfAll_1 {σ : q_H} (hE : q_E σ) : q_E (s_M_workOfAll_1 σ) := hE
set_option maxHeartbeats 1000000 in
theorem p_M_workOfAll_1 {ω : q_W} {σ : q_H} (hE : q_E σ)   : J ω m_M_workOfAll 0 0 0 0 0 0 [(0, .ref 94), (1, .int (-1))] [] σ (fun r τ => r = .inl (some (.long 0)) ∧ τ = s_M_workOfAll_1 σ) := by
  refine j_lconst (v := 0) d_M_workOfAll_0 (by decide) ?_
  refine j_lstore_n (L' := [(2, .long 0), (0, .ref 94), (1, .int (-1))]) d_M_workOfAll_1 (by decide) rfl ?_
  refine j_iload_n d_M_workOfAll_2 2 rfl ?_
  refine j_istore (L' := [(4, .int (-1)), (2, .long 0), (0, .ref 94), (1, .int (-1))]) d_M_workOfAll_3 (by decide) rfl ?_
  refine j_iload d_M_workOfAll_5 0 rfl ?_
  refine j_if_lt 34 d_M_workOfAll_7 (by decide) (fun _ => ?_) (fun h => absurd h (by decide))
  refine j_lload_n d_M_workOfAll_34 1 rfl ?_
  exact j_lret d_M_workOfAll_35 rfl (by decide) (by decide) ⟨rfl, rfl⟩
def s_M_build_1 (σ : q_H) : q_H := (q_seti (q_seti (q_seti (q_seti (q_seti (q_seti (q_seti (q_seti (q_seti (q_seti (q_seti (q_seti (q_seti (q_seti (q_seti (q_seti (q_seti (q_seti (q_seti (q_seti (q_seti (q_seti (q_seti (q_seti (q_seti (q_seti (q_seti (q_seti (q_seti (q_seti (q_seti (q_seti (q_seti (q_seti (q_seti (q_seti (q_seti (q_seti (q_seti (q_seti (q_seti (q_seti (q_seti (q_seti (q_seti (q_seti (q_seti (q_seti (q_seti (q_seti (q_seti (q_seti (q_seti (q_seti (q_seti (q_seti (q_seti (q_seti (q_seti (q_seti (q_seti (q_seti (q_seti (q_seti (q_seti (q_seti (q_seti (q_seti (q_seti (q_seti (q_seti (q_seti (q_seti (q_seti (q_seti (q_seti (s_M_workOfAll_1 (s_M_wholeProgram_1 (s_M_swap_1 (s_M_cut_1 σ)))) 94 0 0) 94 2 0) 94 31 1) 94 45 (-1)) 94 30 0) 94 26 0) 94 27 0) 94 28 0) 94 29 0) 106 0 0) 107 0 0) 126 0 0) 129 0 0) 106 1 0) 107 1 0) 126 1 0) 129 1 0) 106 2 0) 107 2 0) 126 2 0) 129 2 0) 106 3 0) 107 3 0) 126 3 0) 129 3 0) 106 4 0) 107 4 0) 126 4 0) 129 4 0) 106 5 0) 107 5 0) 126 5 0) 129 5 0) 106 6 0) 107 6 0) 126 6 0) 129 6 0) 106 7 0) 107 7 0) 126 7 0) 129 7 0) 106 8 0) 107 8 0) 126 8 0) 129 8 0) 106 9 0) 107 9 0) 126 9 0) 129 9 0) 106 10 0) 107 10 0) 126 10 0) 129 10 0) 106 11 0) 107 11 0) 126 11 0) 129 11 0) 106 12 0) 107 12 0) 126 12 0) 129 12 0) 106 13 0) 107 13 0) 126 13 0) 129 13 0) 106 14 0) 107 14 0) 126 14 0) 129 14 0) 106 15 0) 107 15 0) 126 15 0) 129 15 0) 94 62 (-1)) 94 63 (-1)) 94 55 0)
theorem e_M_build_1 {σ : q_H} (hE : q_E σ) : q_E (s_M_build_1 σ) := (q_E_i (q_E_i (q_E_i (q_E_i (q_E_i (q_E_i (q_E_i (q_E_i (q_E_i (q_E_i (q_E_i (q_E_i (q_E_i (q_E_i (q_E_i (q_E_i (q_E_i (q_E_i (q_E_i (q_E_i (q_E_i (q_E_i (q_E_i (q_E_i (q_E_i (q_E_i (q_E_i (q_E_i (q_E_i (q_E_i (q_E_i (q_E_i (q_E_i (q_E_i (q_E_i (q_E_i (q_E_i (q_E_i (q_E_i (q_E_i (q_E_i (q_E_i (q_E_i (q_E_i (q_E_i (q_E_i (q_E_i (q_E_i (q_E_i (q_E_i (q_E_i (q_E_i (q_E_i (q_E_i (q_E_i (q_E_i (q_E_i (q_E_i (q_E_i (q_E_i (q_E_i (q_E_i (q_E_i (q_E_i (q_E_i (q_E_i (q_E_i (q_E_i (q_E_i (q_E_i (q_E_i (q_E_i (q_E_i (q_E_i (q_E_i (q_E_i (e_M_workOfAll_1 (e_M_wholeProgram_1 (e_M_swap_1 (e_M_cut_1 hE))))))))))))))))))))))))))))))))))))))))))))))))))))))))))))))))))))))))))))))))
set_option maxHeartbeats 1000000 in
theorem p_M_build_1 {ω : q_W} {σ : q_H} (hE : q_E σ) (f_94_2 : q_i σ 94 2 = 0) (f_108_0 : q_i σ 108 0 = 0) (f_108_1 : q_i σ 108 1 = 0) (f_108_2 : q_i σ 108 2 = 0) (f_108_3 : q_i σ 108 3 = 0) (f_108_4 : q_i σ 108 4 = 0) (f_108_5 : q_i σ 108 5 = 0) (f_108_6 : q_i σ 108 6 = 0) (f_108_7 : q_i σ 108 7 = 0) (f_108_8 : q_i σ 108 8 = 0) (f_108_9 : q_i σ 108 9 = 0) (f_108_10 : q_i σ 108 10 = 0) (f_108_11 : q_i σ 108 11 = 0) (f_108_12 : q_i σ 108 12 = 0) (f_108_13 : q_i σ 108 13 = 0) (f_108_14 : q_i σ 108 14 = 0) (f_108_15 : q_i σ 108 15 = 0) (f_109_0 : q_i σ 109 0 = 0) (f_109_1 : q_i σ 109 1 = 0) (f_109_2 : q_i σ 109 2 = 0) (f_109_3 : q_i σ 109 3 = 0) (f_109_4 : q_i σ 109 4 = 0) (f_109_5 : q_i σ 109 5 = 0) (f_109_6 : q_i σ 109 6 = 0) (f_109_7 : q_i σ 109 7 = 0) (f_109_8 : q_i σ 109 8 = 0) (f_109_9 : q_i σ 109 9 = 0) (f_109_10 : q_i σ 109 10 = 0) (f_109_11 : q_i σ 109 11 = 0) (f_109_12 : q_i σ 109 12 = 0) (f_109_13 : q_i σ 109 13 = 0) (f_109_14 : q_i σ 109 14 = 0) (f_109_15 : q_i σ 109 15 = 0) (r_94_32 : q_r σ 94 32 = 110) (r_94_33 : q_r σ 94 33 = 111) (r_94_34 : q_r σ 94 34 = 112) (r_94_35 : q_r σ 94 35 = 113) (r_94_36 : q_r σ 94 36 = 114) (r_94_37 : q_r σ 94 37 = 115) (r_94_38 : q_r σ 94 38 = 116) (r_94_39 : q_r σ 94 39 = 117) (r_94_40 : q_r σ 94 40 = 118) (r_94_41 : q_r σ 94 41 = 119) (r_94_42 : q_r σ 94 42 = 120) (r_94_43 : q_r σ 94 43 = 121) : J ω m_M_build 2 0 0 0 0 0 [(0, .ref 94)] [] σ (fun r τ => r = .inl (some (.int 0)) ∧ τ = s_M_build_1 σ) := by
  refine j_aload_n d_M_build_0 0 rfl ?_
  refine j_callV m_M_cut [] [] 1 0 0 cV_M_336 d_M_build_1 rfl rfl (tg_94 hE) (q_okE hE (by decide)) (Nat.le_of_ble_eq_true rfl) (Nat.le_of_ble_eq_true rfl) (Nat.le_of_ble_eq_true rfl) (Nat.le_of_ble_eq_true rfl) (Nat.le_of_ble_eq_true rfl) (p_M_cut_1 hE (f_94_2)) (fun v τ1 h => ?_) (fun x τ h => absurd h.1 (by simp))
  obtain ⟨h1, eτ1⟩ := h
  cases h1
  have hE1 : q_E τ1 := by rw [eτ1]; exact e_M_cut_1 hE
  have h1_94_2 : q_i τ1 94 2 = 0 := by rw [eτ1]; exact f_94_2
  have h1_108_0 : q_i τ1 108 0 = 0 := by rw [eτ1]; exact f_108_0
  have h1_108_1 : q_i τ1 108 1 = 0 := by rw [eτ1]; exact f_108_1
  have h1_108_2 : q_i τ1 108 2 = 0 := by rw [eτ1]; exact f_108_2
  have h1_108_3 : q_i τ1 108 3 = 0 := by rw [eτ1]; exact f_108_3
  have h1_108_4 : q_i τ1 108 4 = 0 := by rw [eτ1]; exact f_108_4
  have h1_108_5 : q_i τ1 108 5 = 0 := by rw [eτ1]; exact f_108_5
  have h1_108_6 : q_i τ1 108 6 = 0 := by rw [eτ1]; exact f_108_6
  have h1_108_7 : q_i τ1 108 7 = 0 := by rw [eτ1]; exact f_108_7
  have h1_108_8 : q_i τ1 108 8 = 0 := by rw [eτ1]; exact f_108_8
  have h1_108_9 : q_i τ1 108 9 = 0 := by rw [eτ1]; exact f_108_9
  have h1_108_10 : q_i τ1 108 10 = 0 := by rw [eτ1]; exact f_108_10
  have h1_108_11 : q_i τ1 108 11 = 0 := by rw [eτ1]; exact f_108_11
  have h1_108_12 : q_i τ1 108 12 = 0 := by rw [eτ1]; exact f_108_12
  have h1_108_13 : q_i τ1 108 13 = 0 := by rw [eτ1]; exact f_108_13
  have h1_108_14 : q_i τ1 108 14 = 0 := by rw [eτ1]; exact f_108_14
  have h1_108_15 : q_i τ1 108 15 = 0 := by rw [eτ1]; exact f_108_15
  have h1_109_0 : q_i τ1 109 0 = 0 := by rw [eτ1]; exact f_109_0
  have h1_109_1 : q_i τ1 109 1 = 0 := by rw [eτ1]; exact f_109_1
  have h1_109_2 : q_i τ1 109 2 = 0 := by rw [eτ1]; exact f_109_2
  have h1_109_3 : q_i τ1 109 3 = 0 := by rw [eτ1]; exact f_109_3
  have h1_109_4 : q_i τ1 109 4 = 0 := by rw [eτ1]; exact f_109_4
  have h1_109_5 : q_i τ1 109 5 = 0 := by rw [eτ1]; exact f_109_5
  have h1_109_6 : q_i τ1 109 6 = 0 := by rw [eτ1]; exact f_109_6
  have h1_109_7 : q_i τ1 109 7 = 0 := by rw [eτ1]; exact f_109_7
  have h1_109_8 : q_i τ1 109 8 = 0 := by rw [eτ1]; exact f_109_8
  have h1_109_9 : q_i τ1 109 9 = 0 := by rw [eτ1]; exact f_109_9
  have h1_109_10 : q_i τ1 109 10 = 0 := by rw [eτ1]; exact f_109_10
  have h1_109_11 : q_i τ1 109 11 = 0 := by rw [eτ1]; exact f_109_11
  have h1_109_12 : q_i τ1 109 12 = 0 := by rw [eτ1]; exact f_109_12
  have h1_109_13 : q_i τ1 109 13 = 0 := by rw [eτ1]; exact f_109_13
  have h1_109_14 : q_i τ1 109 14 = 0 := by rw [eτ1]; exact f_109_14
  have h1_109_15 : q_i τ1 109 15 = 0 := by rw [eτ1]; exact f_109_15
  have h1_96_0 : q_i τ1 96 0 = 273 := by rw [eτ1]; rfl
  have r1_94_32 : q_r τ1 94 32 = 110 := by rw [eτ1]; exact r_94_32
  have r1_94_33 : q_r τ1 94 33 = 111 := by rw [eτ1]; exact r_94_33
  have r1_94_34 : q_r τ1 94 34 = 112 := by rw [eτ1]; exact r_94_34
  have r1_94_35 : q_r τ1 94 35 = 113 := by rw [eτ1]; exact r_94_35
  have r1_94_36 : q_r τ1 94 36 = 114 := by rw [eτ1]; exact r_94_36
  have r1_94_37 : q_r τ1 94 37 = 115 := by rw [eτ1]; exact r_94_37
  have r1_94_38 : q_r τ1 94 38 = 116 := by rw [eτ1]; exact r_94_38
  have r1_94_39 : q_r τ1 94 39 = 117 := by rw [eτ1]; exact r_94_39
  have r1_94_40 : q_r τ1 94 40 = 118 := by rw [eτ1]; exact r_94_40
  have r1_94_41 : q_r τ1 94 41 = 119 := by rw [eτ1]; exact r_94_41
  have r1_94_42 : q_r τ1 94 42 = 120 := by rw [eτ1]; exact r_94_42
  have r1_94_43 : q_r τ1 94 43 = 121 := by rw [eτ1]; exact r_94_43
  refine j_aload_n d_M_build_4 0 rfl ?_
  refine j_callV m_M_swap [] [] 0 0 0 cV_M_333 d_M_build_5 rfl rfl (tg_94 hE1) (q_okE hE1 (by decide)) (Nat.le_of_ble_eq_true rfl) (Nat.le_of_ble_eq_true rfl) (Nat.le_of_ble_eq_true rfl) (Nat.le_of_ble_eq_true rfl) (Nat.le_of_ble_eq_true rfl) (p_M_swap_1 hE1 (r1_94_32) (r1_94_38) (r1_94_33) (r1_94_39) (r1_94_34) (r1_94_40) (r1_94_35) (r1_94_41) (r1_94_36) (r1_94_37) (r1_94_42) (r1_94_43)) (fun v τ2 h => ?_) (fun x τ h => absurd h.1 (by simp))
  obtain ⟨h1, eτ2⟩ := h
  cases h1
  have hE2 : q_E τ2 := by rw [eτ2]; exact e_M_swap_1 hE1
  have h2_94_2 : q_i τ2 94 2 = 0 := by rw [eτ2]; exact h1_94_2
  have h2_108_0 : q_i τ2 108 0 = 0 := by rw [eτ2]; exact h1_108_0
  have h2_108_1 : q_i τ2 108 1 = 0 := by rw [eτ2]; exact h1_108_1
  have h2_108_2 : q_i τ2 108 2 = 0 := by rw [eτ2]; exact h1_108_2
  have h2_108_3 : q_i τ2 108 3 = 0 := by rw [eτ2]; exact h1_108_3
  have h2_108_4 : q_i τ2 108 4 = 0 := by rw [eτ2]; exact h1_108_4
  have h2_108_5 : q_i τ2 108 5 = 0 := by rw [eτ2]; exact h1_108_5
  have h2_108_6 : q_i τ2 108 6 = 0 := by rw [eτ2]; exact h1_108_6
  have h2_108_7 : q_i τ2 108 7 = 0 := by rw [eτ2]; exact h1_108_7
  have h2_108_8 : q_i τ2 108 8 = 0 := by rw [eτ2]; exact h1_108_8
  have h2_108_9 : q_i τ2 108 9 = 0 := by rw [eτ2]; exact h1_108_9
  have h2_108_10 : q_i τ2 108 10 = 0 := by rw [eτ2]; exact h1_108_10
  have h2_108_11 : q_i τ2 108 11 = 0 := by rw [eτ2]; exact h1_108_11
  have h2_108_12 : q_i τ2 108 12 = 0 := by rw [eτ2]; exact h1_108_12
  have h2_108_13 : q_i τ2 108 13 = 0 := by rw [eτ2]; exact h1_108_13
  have h2_108_14 : q_i τ2 108 14 = 0 := by rw [eτ2]; exact h1_108_14
  have h2_108_15 : q_i τ2 108 15 = 0 := by rw [eτ2]; exact h1_108_15
  have h2_109_0 : q_i τ2 109 0 = 0 := by rw [eτ2]; exact h1_109_0
  have h2_109_1 : q_i τ2 109 1 = 0 := by rw [eτ2]; exact h1_109_1
  have h2_109_2 : q_i τ2 109 2 = 0 := by rw [eτ2]; exact h1_109_2
  have h2_109_3 : q_i τ2 109 3 = 0 := by rw [eτ2]; exact h1_109_3
  have h2_109_4 : q_i τ2 109 4 = 0 := by rw [eτ2]; exact h1_109_4
  have h2_109_5 : q_i τ2 109 5 = 0 := by rw [eτ2]; exact h1_109_5
  have h2_109_6 : q_i τ2 109 6 = 0 := by rw [eτ2]; exact h1_109_6
  have h2_109_7 : q_i τ2 109 7 = 0 := by rw [eτ2]; exact h1_109_7
  have h2_109_8 : q_i τ2 109 8 = 0 := by rw [eτ2]; exact h1_109_8
  have h2_109_9 : q_i τ2 109 9 = 0 := by rw [eτ2]; exact h1_109_9
  have h2_109_10 : q_i τ2 109 10 = 0 := by rw [eτ2]; exact h1_109_10
  have h2_109_11 : q_i τ2 109 11 = 0 := by rw [eτ2]; exact h1_109_11
  have h2_109_12 : q_i τ2 109 12 = 0 := by rw [eτ2]; exact h1_109_12
  have h2_109_13 : q_i τ2 109 13 = 0 := by rw [eτ2]; exact h1_109_13
  have h2_109_14 : q_i τ2 109 14 = 0 := by rw [eτ2]; exact h1_109_14
  have h2_109_15 : q_i τ2 109 15 = 0 := by rw [eτ2]; exact h1_109_15
  have h2_96_0 : q_i τ2 96 0 = 273 := by rw [eτ2]; exact h1_96_0
  have r2_94_32 : q_r τ2 94 32 = 116 := by rw [eτ2]; rfl
  have r2_94_38 : q_r τ2 94 38 = 110 := by rw [eτ2]; rfl
  have r2_94_33 : q_r τ2 94 33 = 117 := by rw [eτ2]; rfl
  have r2_94_39 : q_r τ2 94 39 = 111 := by rw [eτ2]; rfl
  have r2_94_34 : q_r τ2 94 34 = 118 := by rw [eτ2]; rfl
  have r2_94_40 : q_r τ2 94 40 = 112 := by rw [eτ2]; rfl
  have r2_94_35 : q_r τ2 94 35 = 119 := by rw [eτ2]; rfl
  have r2_94_41 : q_r τ2 94 41 = 113 := by rw [eτ2]; rfl
  have r2_94_36 : q_r τ2 94 36 = 120 := by rw [eτ2]; rfl
  have r2_94_42 : q_r τ2 94 42 = 114 := by rw [eτ2]; rfl
  have r2_94_37 : q_r τ2 94 37 = 121 := by rw [eτ2]; rfl
  have r2_94_43 : q_r τ2 94 43 = 115 := by rw [eτ2]; rfl
  refine j_aload_n d_M_build_8 0 rfl ?_
  refine j_callV m_M_wholeProgram [] [] 1 0 0 cV_M_339 d_M_build_9 rfl rfl (tg_94 hE2) (q_okE hE2 (by decide)) (Nat.le_of_ble_eq_true rfl) (Nat.le_of_ble_eq_true rfl) (Nat.le_of_ble_eq_true rfl) (Nat.le_of_ble_eq_true rfl) (Nat.le_of_ble_eq_true rfl) (p_M_wholeProgram_1 hE2 (h2_96_0)) (fun v τ3 h => ?_) (fun x τ h => absurd h.1 (by simp))
  obtain ⟨h1, eτ3⟩ := h
  cases h1
  have hE3 : q_E τ3 := by rw [eτ3]; exact e_M_wholeProgram_1 hE2
  have h3_94_2 : q_i τ3 94 2 = 0 := by rw [eτ3]; exact h2_94_2
  have h3_108_0 : q_i τ3 108 0 = 0 := by rw [eτ3]; exact h2_108_0
  have h3_108_1 : q_i τ3 108 1 = 0 := by rw [eτ3]; exact h2_108_1
  have h3_108_2 : q_i τ3 108 2 = 0 := by rw [eτ3]; exact h2_108_2
  have h3_108_3 : q_i τ3 108 3 = 0 := by rw [eτ3]; exact h2_108_3
  have h3_108_4 : q_i τ3 108 4 = 0 := by rw [eτ3]; exact h2_108_4
  have h3_108_5 : q_i τ3 108 5 = 0 := by rw [eτ3]; exact h2_108_5
  have h3_108_6 : q_i τ3 108 6 = 0 := by rw [eτ3]; exact h2_108_6
  have h3_108_7 : q_i τ3 108 7 = 0 := by rw [eτ3]; exact h2_108_7
  have h3_108_8 : q_i τ3 108 8 = 0 := by rw [eτ3]; exact h2_108_8
  have h3_108_9 : q_i τ3 108 9 = 0 := by rw [eτ3]; exact h2_108_9
  have h3_108_10 : q_i τ3 108 10 = 0 := by rw [eτ3]; exact h2_108_10
  have h3_108_11 : q_i τ3 108 11 = 0 := by rw [eτ3]; exact h2_108_11
  have h3_108_12 : q_i τ3 108 12 = 0 := by rw [eτ3]; exact h2_108_12
  have h3_108_13 : q_i τ3 108 13 = 0 := by rw [eτ3]; exact h2_108_13
  have h3_108_14 : q_i τ3 108 14 = 0 := by rw [eτ3]; exact h2_108_14
  have h3_108_15 : q_i τ3 108 15 = 0 := by rw [eτ3]; exact h2_108_15
  have h3_109_0 : q_i τ3 109 0 = 0 := by rw [eτ3]; exact h2_109_0
  have h3_109_1 : q_i τ3 109 1 = 0 := by rw [eτ3]; exact h2_109_1
  have h3_109_2 : q_i τ3 109 2 = 0 := by rw [eτ3]; exact h2_109_2
  have h3_109_3 : q_i τ3 109 3 = 0 := by rw [eτ3]; exact h2_109_3
  have h3_109_4 : q_i τ3 109 4 = 0 := by rw [eτ3]; exact h2_109_4
  have h3_109_5 : q_i τ3 109 5 = 0 := by rw [eτ3]; exact h2_109_5
  have h3_109_6 : q_i τ3 109 6 = 0 := by rw [eτ3]; exact h2_109_6
  have h3_109_7 : q_i τ3 109 7 = 0 := by rw [eτ3]; exact h2_109_7
  have h3_109_8 : q_i τ3 109 8 = 0 := by rw [eτ3]; exact h2_109_8
  have h3_109_9 : q_i τ3 109 9 = 0 := by rw [eτ3]; exact h2_109_9
  have h3_109_10 : q_i τ3 109 10 = 0 := by rw [eτ3]; exact h2_109_10
  have h3_109_11 : q_i τ3 109 11 = 0 := by rw [eτ3]; exact h2_109_11
  have h3_109_12 : q_i τ3 109 12 = 0 := by rw [eτ3]; exact h2_109_12
  have h3_109_13 : q_i τ3 109 13 = 0 := by rw [eτ3]; exact h2_109_13
  have h3_109_14 : q_i τ3 109 14 = 0 := by rw [eτ3]; exact h2_109_14
  have h3_109_15 : q_i τ3 109 15 = 0 := by rw [eτ3]; exact h2_109_15
  have h3_96_0 : q_i τ3 96 0 = 273 := by rw [eτ3]; exact h2_96_0
  have h3_94_18 : q_i τ3 94 18 = 0 := by rw [eτ3]; rfl
  have h3_94_19 : q_i τ3 94 19 = 0 := by rw [eτ3]; rfl
  have h3_94_20 : q_i τ3 94 20 = 0 := by rw [eτ3]; rfl
  have h3_94_21 : q_i τ3 94 21 = 0 := by rw [eτ3]; rfl
  have h3_94_48 : q_i τ3 94 48 = 0 := by rw [eτ3]; rfl
  have r3_94_32 : q_r τ3 94 32 = 116 := by rw [eτ3]; exact r2_94_32
  have r3_94_38 : q_r τ3 94 38 = 110 := by rw [eτ3]; exact r2_94_38
  have r3_94_33 : q_r τ3 94 33 = 117 := by rw [eτ3]; exact r2_94_33
  have r3_94_39 : q_r τ3 94 39 = 111 := by rw [eτ3]; exact r2_94_39
  have r3_94_34 : q_r τ3 94 34 = 118 := by rw [eτ3]; exact r2_94_34
  have r3_94_40 : q_r τ3 94 40 = 112 := by rw [eτ3]; exact r2_94_40
  have r3_94_35 : q_r τ3 94 35 = 119 := by rw [eτ3]; exact r2_94_35
  have r3_94_41 : q_r τ3 94 41 = 113 := by rw [eτ3]; exact r2_94_41
  have r3_94_36 : q_r τ3 94 36 = 120 := by rw [eτ3]; exact r2_94_36
  have r3_94_42 : q_r τ3 94 42 = 114 := by rw [eτ3]; exact r2_94_42
  have r3_94_37 : q_r τ3 94 37 = 121 := by rw [eτ3]; exact r2_94_37
  have r3_94_43 : q_r τ3 94 43 = 115 := by rw [eτ3]; exact r2_94_43
  refine j_istore_n (L' := [(1, .int (-1)), (0, .ref 94)]) d_M_build_12 (by decide) rfl ?_
  refine j_goto 27 d_M_build_13 (by decide) ?_
  refine j_aload_n d_M_build_27 1 rfl ?_
  refine k_getI (0) f_M_237 d_M_build_28 (tg_94 hE3) (q_okE hE3 (by decide)) (h3_94_48) ?_
  refine j_if_eq 47 d_M_build_31 (by decide) (fun _ => ?_) (fun h => absurd h (by decide))
  refine j_aload_n d_M_build_47 1 rfl ?_
  refine j_iload_n d_M_build_48 0 rfl ?_
  refine j_callV m_M_workOfAll [.int (-1)] [] 0 0 0 cV_M_322 d_M_build_49 rfl rfl (tg_94 hE3) (q_okE hE3 (by decide)) (Nat.le_of_ble_eq_true rfl) (Nat.le_of_ble_eq_true rfl) (Nat.le_of_ble_eq_true rfl) (Nat.le_of_ble_eq_true rfl) (Nat.le_of_ble_eq_true rfl) (p_M_workOfAll_1 hE3) (fun v τ4 h => ?_) (fun x τ h => absurd h.1 (by simp))
  obtain ⟨h1, eτ4⟩ := h
  cases h1
  have hE4 : q_E τ4 := by rw [eτ4]; exact e_M_workOfAll_1 hE3
  have h4_94_2 : q_i τ4 94 2 = 0 := by rw [eτ4]; exact h3_94_2
  have h4_108_0 : q_i τ4 108 0 = 0 := by rw [eτ4]; exact h3_108_0
  have h4_108_1 : q_i τ4 108 1 = 0 := by rw [eτ4]; exact h3_108_1
  have h4_108_2 : q_i τ4 108 2 = 0 := by rw [eτ4]; exact h3_108_2
  have h4_108_3 : q_i τ4 108 3 = 0 := by rw [eτ4]; exact h3_108_3
  have h4_108_4 : q_i τ4 108 4 = 0 := by rw [eτ4]; exact h3_108_4
  have h4_108_5 : q_i τ4 108 5 = 0 := by rw [eτ4]; exact h3_108_5
  have h4_108_6 : q_i τ4 108 6 = 0 := by rw [eτ4]; exact h3_108_6
  have h4_108_7 : q_i τ4 108 7 = 0 := by rw [eτ4]; exact h3_108_7
  have h4_108_8 : q_i τ4 108 8 = 0 := by rw [eτ4]; exact h3_108_8
  have h4_108_9 : q_i τ4 108 9 = 0 := by rw [eτ4]; exact h3_108_9
  have h4_108_10 : q_i τ4 108 10 = 0 := by rw [eτ4]; exact h3_108_10
  have h4_108_11 : q_i τ4 108 11 = 0 := by rw [eτ4]; exact h3_108_11
  have h4_108_12 : q_i τ4 108 12 = 0 := by rw [eτ4]; exact h3_108_12
  have h4_108_13 : q_i τ4 108 13 = 0 := by rw [eτ4]; exact h3_108_13
  have h4_108_14 : q_i τ4 108 14 = 0 := by rw [eτ4]; exact h3_108_14
  have h4_108_15 : q_i τ4 108 15 = 0 := by rw [eτ4]; exact h3_108_15
  have h4_109_0 : q_i τ4 109 0 = 0 := by rw [eτ4]; exact h3_109_0
  have h4_109_1 : q_i τ4 109 1 = 0 := by rw [eτ4]; exact h3_109_1
  have h4_109_2 : q_i τ4 109 2 = 0 := by rw [eτ4]; exact h3_109_2
  have h4_109_3 : q_i τ4 109 3 = 0 := by rw [eτ4]; exact h3_109_3
  have h4_109_4 : q_i τ4 109 4 = 0 := by rw [eτ4]; exact h3_109_4
  have h4_109_5 : q_i τ4 109 5 = 0 := by rw [eτ4]; exact h3_109_5
  have h4_109_6 : q_i τ4 109 6 = 0 := by rw [eτ4]; exact h3_109_6
  have h4_109_7 : q_i τ4 109 7 = 0 := by rw [eτ4]; exact h3_109_7
  have h4_109_8 : q_i τ4 109 8 = 0 := by rw [eτ4]; exact h3_109_8
  have h4_109_9 : q_i τ4 109 9 = 0 := by rw [eτ4]; exact h3_109_9
  have h4_109_10 : q_i τ4 109 10 = 0 := by rw [eτ4]; exact h3_109_10
  have h4_109_11 : q_i τ4 109 11 = 0 := by rw [eτ4]; exact h3_109_11
  have h4_109_12 : q_i τ4 109 12 = 0 := by rw [eτ4]; exact h3_109_12
  have h4_109_13 : q_i τ4 109 13 = 0 := by rw [eτ4]; exact h3_109_13
  have h4_109_14 : q_i τ4 109 14 = 0 := by rw [eτ4]; exact h3_109_14
  have h4_109_15 : q_i τ4 109 15 = 0 := by rw [eτ4]; exact h3_109_15
  have h4_96_0 : q_i τ4 96 0 = 273 := by rw [eτ4]; exact h3_96_0
  have h4_94_18 : q_i τ4 94 18 = 0 := by rw [eτ4]; exact h3_94_18
  have h4_94_19 : q_i τ4 94 19 = 0 := by rw [eτ4]; exact h3_94_19
  have h4_94_20 : q_i τ4 94 20 = 0 := by rw [eτ4]; exact h3_94_20
  have h4_94_21 : q_i τ4 94 21 = 0 := by rw [eτ4]; exact h3_94_21
  have h4_94_48 : q_i τ4 94 48 = 0 := by rw [eτ4]; exact h3_94_48
  have r4_94_32 : q_r τ4 94 32 = 116 := by rw [eτ4]; exact r3_94_32
  have r4_94_38 : q_r τ4 94 38 = 110 := by rw [eτ4]; exact r3_94_38
  have r4_94_33 : q_r τ4 94 33 = 117 := by rw [eτ4]; exact r3_94_33
  have r4_94_39 : q_r τ4 94 39 = 111 := by rw [eτ4]; exact r3_94_39
  have r4_94_34 : q_r τ4 94 34 = 118 := by rw [eτ4]; exact r3_94_34
  have r4_94_40 : q_r τ4 94 40 = 112 := by rw [eτ4]; exact r3_94_40
  have r4_94_35 : q_r τ4 94 35 = 119 := by rw [eτ4]; exact r3_94_35
  have r4_94_41 : q_r τ4 94 41 = 113 := by rw [eτ4]; exact r3_94_41
  have r4_94_36 : q_r τ4 94 36 = 120 := by rw [eτ4]; exact r3_94_36
  have r4_94_42 : q_r τ4 94 42 = 114 := by rw [eτ4]; exact r3_94_42
  have r4_94_37 : q_r τ4 94 37 = 121 := by rw [eτ4]; exact r3_94_37
  have r4_94_43 : q_r τ4 94 43 = 115 := by rw [eτ4]; exact r3_94_43
  refine j_lstore_n (L' := [(2, .long 0), (1, .int (-1)), (0, .ref 94)]) d_M_build_52 (by decide) rfl ?_
  refine j_lload_n d_M_build_53 0 rfl ?_
  refine j_ldc2 (v := 1500) (List.mem_of_getElem? (i := 1951) (by decide +kernel)) d_M_build_54 ?_
  refine j_lcmp d_M_build_57 ?_
  refine j_topE (v := (-1)) (by decide) ?_
  refine j_if_le 72 d_M_build_58 (by decide) (fun _ => ?_) (fun h => absurd h (by decide))
  refine j_aload_n d_M_build_72 2 rfl ?_
  refine j_iconst (v := 0) d_M_build_73 (by decide) ?_
  refine j_putI (g_M_141 _) d_M_build_74 (tg_94 hE4) (q_okE hE4 (by decide)) ?_
  refine j_aload_n d_M_build_77 2 rfl ?_
  refine j_iconst (v := 0) d_M_build_78 (by decide) ?_
  refine j_putI (g_M_144 _) d_M_build_79 (tg_94 (q_E_i hE4)) (q_okE (q_E_i hE4) (by decide)) ?_
  refine j_aload_n d_M_build_82 2 rfl ?_
  refine j_iconst (v := 1) d_M_build_83 (by decide) ?_
  refine j_putZ (g_M_347 _) d_M_build_84 (tg_94 (q_E_i (q_E_i hE4))) (q_okE (q_E_i (q_E_i hE4)) (by decide)) (by decide) ?_
  refine j_aload_n d_M_build_87 2 rfl ?_
  refine j_iload_n d_M_build_88 1 rfl ?_
  refine j_putI (g_M_351 _) d_M_build_89 (tg_94 (q_E_i (q_E_i (q_E_i hE4)))) (q_okE (q_E_i (q_E_i (q_E_i hE4))) (by decide)) ?_
  refine j_aload_n d_M_build_92 2 rfl ?_
  refine j_lload_n d_M_build_93 0 rfl ?_
  refine j_l2i d_M_build_94 ?_
  refine j_topE (v := 0) (by decide) ?_
  refine j_putI (g_M_354 _) d_M_build_95 (tg_94 (q_E_i (q_E_i (q_E_i (q_E_i hE4))))) (q_okE (q_E_i (q_E_i (q_E_i (q_E_i hE4)))) (by decide)) ?_
  refine j_aload_n d_M_build_98 2 rfl ?_
  refine j_aload_n d_M_build_99 2 rfl ?_
  refine k_getI (0) f_M_264 d_M_build_100 (tg_94 (q_E_i (q_E_i (q_E_i (q_E_i (q_E_i hE4)))))) (q_okE (q_E_i (q_E_i (q_E_i (q_E_i (q_E_i hE4))))) (by decide)) (h4_94_18) ?_
  refine j_putI (g_M_357 _) d_M_build_103 (tg_94 (q_E_i (q_E_i (q_E_i (q_E_i (q_E_i hE4)))))) (q_okE (q_E_i (q_E_i (q_E_i (q_E_i (q_E_i hE4))))) (by decide)) ?_
  refine j_aload_n d_M_build_106 2 rfl ?_
  refine j_aload_n d_M_build_107 2 rfl ?_
  refine k_getI (0) f_M_261 d_M_build_108 (tg_94 (q_E_i (q_E_i (q_E_i (q_E_i (q_E_i (q_E_i hE4))))))) (q_okE (q_E_i (q_E_i (q_E_i (q_E_i (q_E_i (q_E_i hE4)))))) (by decide)) (h4_94_19) ?_
  refine j_putI (g_M_360 _) d_M_build_111 (tg_94 (q_E_i (q_E_i (q_E_i (q_E_i (q_E_i (q_E_i hE4))))))) (q_okE (q_E_i (q_E_i (q_E_i (q_E_i (q_E_i (q_E_i hE4)))))) (by decide)) ?_
  refine j_aload_n d_M_build_114 2 rfl ?_
  refine j_aload_n d_M_build_115 2 rfl ?_
  refine k_getI (0) f_M_280 d_M_build_116 (tg_94 (q_E_i (q_E_i (q_E_i (q_E_i (q_E_i (q_E_i (q_E_i hE4)))))))) (q_okE (q_E_i (q_E_i (q_E_i (q_E_i (q_E_i (q_E_i (q_E_i hE4))))))) (by decide)) (h4_94_21) ?_
  refine j_putI (g_M_363 _) d_M_build_119 (tg_94 (q_E_i (q_E_i (q_E_i (q_E_i (q_E_i (q_E_i (q_E_i hE4)))))))) (q_okE (q_E_i (q_E_i (q_E_i (q_E_i (q_E_i (q_E_i (q_E_i hE4))))))) (by decide)) ?_
  refine j_st (fun τ5 eτ5 => ?_)
  have hE5 : q_E τ5 := by rw [eτ5]; exact (q_E_i (q_E_i (q_E_i (q_E_i (q_E_i (q_E_i (q_E_i (q_E_i hE4))))))))
  have h5_94_2 : q_i τ5 94 2 = 0 := by rw [eτ5]; exact rfl
  have h5_108_0 : q_i τ5 108 0 = 0 := by rw [eτ5]; exact h4_108_0
  have h5_108_1 : q_i τ5 108 1 = 0 := by rw [eτ5]; exact h4_108_1
  have h5_108_2 : q_i τ5 108 2 = 0 := by rw [eτ5]; exact h4_108_2
  have h5_108_3 : q_i τ5 108 3 = 0 := by rw [eτ5]; exact h4_108_3
  have h5_108_4 : q_i τ5 108 4 = 0 := by rw [eτ5]; exact h4_108_4
  have h5_108_5 : q_i τ5 108 5 = 0 := by rw [eτ5]; exact h4_108_5
  have h5_108_6 : q_i τ5 108 6 = 0 := by rw [eτ5]; exact h4_108_6
  have h5_108_7 : q_i τ5 108 7 = 0 := by rw [eτ5]; exact h4_108_7
  have h5_108_8 : q_i τ5 108 8 = 0 := by rw [eτ5]; exact h4_108_8
  have h5_108_9 : q_i τ5 108 9 = 0 := by rw [eτ5]; exact h4_108_9
  have h5_108_10 : q_i τ5 108 10 = 0 := by rw [eτ5]; exact h4_108_10
  have h5_108_11 : q_i τ5 108 11 = 0 := by rw [eτ5]; exact h4_108_11
  have h5_108_12 : q_i τ5 108 12 = 0 := by rw [eτ5]; exact h4_108_12
  have h5_108_13 : q_i τ5 108 13 = 0 := by rw [eτ5]; exact h4_108_13
  have h5_108_14 : q_i τ5 108 14 = 0 := by rw [eτ5]; exact h4_108_14
  have h5_108_15 : q_i τ5 108 15 = 0 := by rw [eτ5]; exact h4_108_15
  have h5_109_0 : q_i τ5 109 0 = 0 := by rw [eτ5]; exact h4_109_0
  have h5_109_1 : q_i τ5 109 1 = 0 := by rw [eτ5]; exact h4_109_1
  have h5_109_2 : q_i τ5 109 2 = 0 := by rw [eτ5]; exact h4_109_2
  have h5_109_3 : q_i τ5 109 3 = 0 := by rw [eτ5]; exact h4_109_3
  have h5_109_4 : q_i τ5 109 4 = 0 := by rw [eτ5]; exact h4_109_4
  have h5_109_5 : q_i τ5 109 5 = 0 := by rw [eτ5]; exact h4_109_5
  have h5_109_6 : q_i τ5 109 6 = 0 := by rw [eτ5]; exact h4_109_6
  have h5_109_7 : q_i τ5 109 7 = 0 := by rw [eτ5]; exact h4_109_7
  have h5_109_8 : q_i τ5 109 8 = 0 := by rw [eτ5]; exact h4_109_8
  have h5_109_9 : q_i τ5 109 9 = 0 := by rw [eτ5]; exact h4_109_9
  have h5_109_10 : q_i τ5 109 10 = 0 := by rw [eτ5]; exact h4_109_10
  have h5_109_11 : q_i τ5 109 11 = 0 := by rw [eτ5]; exact h4_109_11
  have h5_109_12 : q_i τ5 109 12 = 0 := by rw [eτ5]; exact h4_109_12
  have h5_109_13 : q_i τ5 109 13 = 0 := by rw [eτ5]; exact h4_109_13
  have h5_109_14 : q_i τ5 109 14 = 0 := by rw [eτ5]; exact h4_109_14
  have h5_109_15 : q_i τ5 109 15 = 0 := by rw [eτ5]; exact h4_109_15
  have h5_96_0 : q_i τ5 96 0 = 273 := by rw [eτ5]; exact h4_96_0
  have h5_94_18 : q_i τ5 94 18 = 0 := by rw [eτ5]; exact h4_94_18
  have h5_94_19 : q_i τ5 94 19 = 0 := by rw [eτ5]; exact h4_94_19
  have h5_94_20 : q_i τ5 94 20 = 0 := by rw [eτ5]; exact h4_94_20
  have h5_94_21 : q_i τ5 94 21 = 0 := by rw [eτ5]; exact h4_94_21
  have h5_94_48 : q_i τ5 94 48 = 0 := by rw [eτ5]; exact h4_94_48
  have h5_94_28 : q_i τ5 94 28 = 0 := by rw [eτ5]; exact rfl
  have r5_94_32 : q_r τ5 94 32 = 116 := by rw [eτ5]; exact r4_94_32
  have r5_94_38 : q_r τ5 94 38 = 110 := by rw [eτ5]; exact r4_94_38
  have r5_94_33 : q_r τ5 94 33 = 117 := by rw [eτ5]; exact r4_94_33
  have r5_94_39 : q_r τ5 94 39 = 111 := by rw [eτ5]; exact r4_94_39
  have r5_94_34 : q_r τ5 94 34 = 118 := by rw [eτ5]; exact r4_94_34
  have r5_94_40 : q_r τ5 94 40 = 112 := by rw [eτ5]; exact r4_94_40
  have r5_94_35 : q_r τ5 94 35 = 119 := by rw [eτ5]; exact r4_94_35
  have r5_94_41 : q_r τ5 94 41 = 113 := by rw [eτ5]; exact r4_94_41
  have r5_94_36 : q_r τ5 94 36 = 120 := by rw [eτ5]; exact r4_94_36
  have r5_94_42 : q_r τ5 94 42 = 114 := by rw [eτ5]; exact r4_94_42
  have r5_94_37 : q_r τ5 94 37 = 121 := by rw [eτ5]; exact r4_94_37
  have r5_94_43 : q_r τ5 94 43 = 115 := by rw [eτ5]; exact r4_94_43
  refine j_aload_n d_M_build_122 2 rfl ?_
  refine j_aload_n d_M_build_123 2 rfl ?_
  refine k_getI (0) f_M_258 d_M_build_124 (tg_94 hE5) (q_okE hE5 (by decide)) (h5_94_20) ?_
  refine j_putI (g_M_366 _) d_M_build_127 (tg_94 hE5) (q_okE hE5 (by decide)) ?_
  refine j_iconst (v := 0) d_M_build_130 (by decide) ?_
  refine j_istore (L' := [(4, .int 0), (2, .long 0), (1, .int (-1)), (0, .ref 94)]) d_M_build_131 (by decide) rfl ?_
  refine j_iload d_M_build_133 0 rfl ?_
  refine j_bipush (v := 16) d_M_build_135 (by decide) ?_
  refine j_icmp_ge 190 d_M_build_137 (by decide) (fun h => absurd h (by decide)) (fun _ => ?_)
  refine j_aload_n d_M_build_140 3 rfl ?_
  refine j_getR 106 f_M_49 d_M_build_141 (tg_94 (q_E_i hE5)) (q_okE (q_E_i hE5) (by decide)) (rf_94_22 (q_E_i hE5)) (by decide) ?_
  refine j_iload d_M_build_144 0 rfl ?_
  refine j_aload_n d_M_build_146 3 rfl ?_
  refine j_getR 108 f_M_55 d_M_build_147 (tg_94 (q_E_i hE5)) (q_okE (q_E_i hE5) (by decide)) (rf_94_24 (q_E_i hE5)) (by decide) ?_
  refine j_iload d_M_build_150 0 rfl ?_
  refine k_iald (0) 0 d_M_build_152 (tg_108 (q_E_i hE5)) (q_okE (q_E_i hE5) (by decide)) rfl (by decide) (by decide) (h5_108_0) ?_
  refine j_iast 0 d_M_build_153 (tg_106 (q_E_i hE5)) (q_okE (q_E_i hE5) (by decide)) rfl (by decide) (by decide) ?_
  refine j_aload_n d_M_build_154 3 rfl ?_
  refine j_getR 107 f_M_52 d_M_build_155 (tg_94 (q_E_i (q_E_i hE5))) (q_okE (q_E_i (q_E_i hE5)) (by decide)) (rf_94_23 (q_E_i (q_E_i hE5))) (by decide) ?_
  refine j_iload d_M_build_158 0 rfl ?_
  refine j_aload_n d_M_build_160 3 rfl ?_
  refine j_getR 109 f_M_58 d_M_build_161 (tg_94 (q_E_i (q_E_i hE5))) (q_okE (q_E_i (q_E_i hE5)) (by decide)) (rf_94_25 (q_E_i (q_E_i hE5))) (by decide) ?_
  refine j_iload d_M_build_164 0 rfl ?_
  refine k_iald (0) 0 d_M_build_166 (tg_109 (q_E_i (q_E_i hE5))) (q_okE (q_E_i (q_E_i hE5)) (by decide)) rfl (by decide) (by decide) (h5_109_0) ?_
  refine j_iast 0 d_M_build_167 (tg_107 (q_E_i (q_E_i hE5))) (q_okE (q_E_i (q_E_i hE5)) (by decide)) rfl (by decide) (by decide) ?_
  refine j_aload_n d_M_build_168 3 rfl ?_
  refine j_getR 126 f_M_117 d_M_build_169 (tg_94 (q_E_i (q_E_i (q_E_i hE5)))) (q_okE (q_E_i (q_E_i (q_E_i hE5))) (by decide)) (rf_94_57 (q_E_i (q_E_i (q_E_i hE5)))) (by decide) ?_
  refine j_iload d_M_build_172 0 rfl ?_
  refine j_iconst (v := 0) d_M_build_174 (by decide) ?_
  refine j_iast 0 d_M_build_175 (tg_126 (q_E_i (q_E_i (q_E_i hE5)))) (q_okE (q_E_i (q_E_i (q_E_i hE5))) (by decide)) rfl (by decide) (by decide) ?_
  refine j_aload_n d_M_build_176 3 rfl ?_
  refine j_getR 129 f_M_126 d_M_build_177 (tg_94 (q_E_i (q_E_i (q_E_i (q_E_i hE5))))) (q_okE (q_E_i (q_E_i (q_E_i (q_E_i hE5)))) (by decide)) (rf_94_60 (q_E_i (q_E_i (q_E_i (q_E_i hE5))))) (by decide) ?_
  refine j_iload d_M_build_180 0 rfl ?_
  refine j_iconst (v := 0) d_M_build_182 (by decide) ?_
  refine j_iast 0 d_M_build_183 (tg_129 (q_E_i (q_E_i (q_E_i (q_E_i hE5))))) (q_okE (q_E_i (q_E_i (q_E_i (q_E_i hE5)))) (by decide)) rfl (by decide) (by decide) ?_
  refine j_iinc (v := 1) (L' := [(4, .int 1), (2, .long 0), (1, .int (-1)), (0, .ref 94)]) d_M_build_184 0 rfl (by decide) (by decide) rfl ?_
  refine j_goto 133 d_M_build_187 (by decide) ?_
  refine j_iload d_M_build_133 0 rfl ?_
  refine j_bipush (v := 16) d_M_build_135 (by decide) ?_
  refine j_icmp_ge 190 d_M_build_137 (by decide) (fun h => absurd h (by decide)) (fun _ => ?_)
  refine j_aload_n d_M_build_140 3 rfl ?_
  refine j_getR 106 f_M_49 d_M_build_141 (tg_94 (q_E_i (q_E_i (q_E_i (q_E_i (q_E_i hE5)))))) (q_okE (q_E_i (q_E_i (q_E_i (q_E_i (q_E_i hE5))))) (by decide)) (rf_94_22 (q_E_i (q_E_i (q_E_i (q_E_i (q_E_i hE5)))))) (by decide) ?_
  refine j_iload d_M_build_144 0 rfl ?_
  refine j_aload_n d_M_build_146 3 rfl ?_
  refine j_getR 108 f_M_55 d_M_build_147 (tg_94 (q_E_i (q_E_i (q_E_i (q_E_i (q_E_i hE5)))))) (q_okE (q_E_i (q_E_i (q_E_i (q_E_i (q_E_i hE5))))) (by decide)) (rf_94_24 (q_E_i (q_E_i (q_E_i (q_E_i (q_E_i hE5)))))) (by decide) ?_
  refine j_iload d_M_build_150 0 rfl ?_
  refine k_iald (0) 1 d_M_build_152 (tg_108 (q_E_i (q_E_i (q_E_i (q_E_i (q_E_i hE5)))))) (q_okE (q_E_i (q_E_i (q_E_i (q_E_i (q_E_i hE5))))) (by decide)) rfl (by decide) (by decide) (h5_108_1) ?_
  refine j_iast 1 d_M_build_153 (tg_106 (q_E_i (q_E_i (q_E_i (q_E_i (q_E_i hE5)))))) (q_okE (q_E_i (q_E_i (q_E_i (q_E_i (q_E_i hE5))))) (by decide)) rfl (by decide) (by decide) ?_
  refine j_aload_n d_M_build_154 3 rfl ?_
  refine j_getR 107 f_M_52 d_M_build_155 (tg_94 (q_E_i (q_E_i (q_E_i (q_E_i (q_E_i (q_E_i hE5))))))) (q_okE (q_E_i (q_E_i (q_E_i (q_E_i (q_E_i (q_E_i hE5)))))) (by decide)) (rf_94_23 (q_E_i (q_E_i (q_E_i (q_E_i (q_E_i (q_E_i hE5))))))) (by decide) ?_
  refine j_iload d_M_build_158 0 rfl ?_
  refine j_aload_n d_M_build_160 3 rfl ?_
  refine j_getR 109 f_M_58 d_M_build_161 (tg_94 (q_E_i (q_E_i (q_E_i (q_E_i (q_E_i (q_E_i hE5))))))) (q_okE (q_E_i (q_E_i (q_E_i (q_E_i (q_E_i (q_E_i hE5)))))) (by decide)) (rf_94_25 (q_E_i (q_E_i (q_E_i (q_E_i (q_E_i (q_E_i hE5))))))) (by decide) ?_
  refine j_iload d_M_build_164 0 rfl ?_
  refine k_iald (0) 1 d_M_build_166 (tg_109 (q_E_i (q_E_i (q_E_i (q_E_i (q_E_i (q_E_i hE5))))))) (q_okE (q_E_i (q_E_i (q_E_i (q_E_i (q_E_i (q_E_i hE5)))))) (by decide)) rfl (by decide) (by decide) (h5_109_1) ?_
  refine j_iast 1 d_M_build_167 (tg_107 (q_E_i (q_E_i (q_E_i (q_E_i (q_E_i (q_E_i hE5))))))) (q_okE (q_E_i (q_E_i (q_E_i (q_E_i (q_E_i (q_E_i hE5)))))) (by decide)) rfl (by decide) (by decide) ?_
  refine j_aload_n d_M_build_168 3 rfl ?_
  refine j_getR 126 f_M_117 d_M_build_169 (tg_94 (q_E_i (q_E_i (q_E_i (q_E_i (q_E_i (q_E_i (q_E_i hE5)))))))) (q_okE (q_E_i (q_E_i (q_E_i (q_E_i (q_E_i (q_E_i (q_E_i hE5))))))) (by decide)) (rf_94_57 (q_E_i (q_E_i (q_E_i (q_E_i (q_E_i (q_E_i (q_E_i hE5)))))))) (by decide) ?_
  refine j_iload d_M_build_172 0 rfl ?_
  refine j_iconst (v := 0) d_M_build_174 (by decide) ?_
  refine j_iast 1 d_M_build_175 (tg_126 (q_E_i (q_E_i (q_E_i (q_E_i (q_E_i (q_E_i (q_E_i hE5)))))))) (q_okE (q_E_i (q_E_i (q_E_i (q_E_i (q_E_i (q_E_i (q_E_i hE5))))))) (by decide)) rfl (by decide) (by decide) ?_
  refine j_st (fun τ6 eτ6 => ?_)
  have hE6 : q_E τ6 := by rw [eτ6]; exact (q_E_i (q_E_i (q_E_i (q_E_i (q_E_i (q_E_i (q_E_i (q_E_i hE5))))))))
  have h6_94_2 : q_i τ6 94 2 = 0 := by rw [eτ6]; exact h5_94_2
  have h6_108_0 : q_i τ6 108 0 = 0 := by rw [eτ6]; exact h5_108_0
  have h6_108_1 : q_i τ6 108 1 = 0 := by rw [eτ6]; exact h5_108_1
  have h6_108_2 : q_i τ6 108 2 = 0 := by rw [eτ6]; exact h5_108_2
  have h6_108_3 : q_i τ6 108 3 = 0 := by rw [eτ6]; exact h5_108_3
  have h6_108_4 : q_i τ6 108 4 = 0 := by rw [eτ6]; exact h5_108_4
  have h6_108_5 : q_i τ6 108 5 = 0 := by rw [eτ6]; exact h5_108_5
  have h6_108_6 : q_i τ6 108 6 = 0 := by rw [eτ6]; exact h5_108_6
  have h6_108_7 : q_i τ6 108 7 = 0 := by rw [eτ6]; exact h5_108_7
  have h6_108_8 : q_i τ6 108 8 = 0 := by rw [eτ6]; exact h5_108_8
  have h6_108_9 : q_i τ6 108 9 = 0 := by rw [eτ6]; exact h5_108_9
  have h6_108_10 : q_i τ6 108 10 = 0 := by rw [eτ6]; exact h5_108_10
  have h6_108_11 : q_i τ6 108 11 = 0 := by rw [eτ6]; exact h5_108_11
  have h6_108_12 : q_i τ6 108 12 = 0 := by rw [eτ6]; exact h5_108_12
  have h6_108_13 : q_i τ6 108 13 = 0 := by rw [eτ6]; exact h5_108_13
  have h6_108_14 : q_i τ6 108 14 = 0 := by rw [eτ6]; exact h5_108_14
  have h6_108_15 : q_i τ6 108 15 = 0 := by rw [eτ6]; exact h5_108_15
  have h6_109_0 : q_i τ6 109 0 = 0 := by rw [eτ6]; exact h5_109_0
  have h6_109_1 : q_i τ6 109 1 = 0 := by rw [eτ6]; exact h5_109_1
  have h6_109_2 : q_i τ6 109 2 = 0 := by rw [eτ6]; exact h5_109_2
  have h6_109_3 : q_i τ6 109 3 = 0 := by rw [eτ6]; exact h5_109_3
  have h6_109_4 : q_i τ6 109 4 = 0 := by rw [eτ6]; exact h5_109_4
  have h6_109_5 : q_i τ6 109 5 = 0 := by rw [eτ6]; exact h5_109_5
  have h6_109_6 : q_i τ6 109 6 = 0 := by rw [eτ6]; exact h5_109_6
  have h6_109_7 : q_i τ6 109 7 = 0 := by rw [eτ6]; exact h5_109_7
  have h6_109_8 : q_i τ6 109 8 = 0 := by rw [eτ6]; exact h5_109_8
  have h6_109_9 : q_i τ6 109 9 = 0 := by rw [eτ6]; exact h5_109_9
  have h6_109_10 : q_i τ6 109 10 = 0 := by rw [eτ6]; exact h5_109_10
  have h6_109_11 : q_i τ6 109 11 = 0 := by rw [eτ6]; exact h5_109_11
  have h6_109_12 : q_i τ6 109 12 = 0 := by rw [eτ6]; exact h5_109_12
  have h6_109_13 : q_i τ6 109 13 = 0 := by rw [eτ6]; exact h5_109_13
  have h6_109_14 : q_i τ6 109 14 = 0 := by rw [eτ6]; exact h5_109_14
  have h6_109_15 : q_i τ6 109 15 = 0 := by rw [eτ6]; exact h5_109_15
  have h6_96_0 : q_i τ6 96 0 = 273 := by rw [eτ6]; exact h5_96_0
  have h6_94_18 : q_i τ6 94 18 = 0 := by rw [eτ6]; exact h5_94_18
  have h6_94_19 : q_i τ6 94 19 = 0 := by rw [eτ6]; exact h5_94_19
  have h6_94_20 : q_i τ6 94 20 = 0 := by rw [eτ6]; exact h5_94_20
  have h6_94_21 : q_i τ6 94 21 = 0 := by rw [eτ6]; exact h5_94_21
  have h6_94_48 : q_i τ6 94 48 = 0 := by rw [eτ6]; exact h5_94_48
  have h6_94_28 : q_i τ6 94 28 = 0 := by rw [eτ6]; exact h5_94_28
  have r6_94_32 : q_r τ6 94 32 = 116 := by rw [eτ6]; exact r5_94_32
  have r6_94_38 : q_r τ6 94 38 = 110 := by rw [eτ6]; exact r5_94_38
  have r6_94_33 : q_r τ6 94 33 = 117 := by rw [eτ6]; exact r5_94_33
  have r6_94_39 : q_r τ6 94 39 = 111 := by rw [eτ6]; exact r5_94_39
  have r6_94_34 : q_r τ6 94 34 = 118 := by rw [eτ6]; exact r5_94_34
  have r6_94_40 : q_r τ6 94 40 = 112 := by rw [eτ6]; exact r5_94_40
  have r6_94_35 : q_r τ6 94 35 = 119 := by rw [eτ6]; exact r5_94_35
  have r6_94_41 : q_r τ6 94 41 = 113 := by rw [eτ6]; exact r5_94_41
  have r6_94_36 : q_r τ6 94 36 = 120 := by rw [eτ6]; exact r5_94_36
  have r6_94_42 : q_r τ6 94 42 = 114 := by rw [eτ6]; exact r5_94_42
  have r6_94_37 : q_r τ6 94 37 = 121 := by rw [eτ6]; exact r5_94_37
  have r6_94_43 : q_r τ6 94 43 = 115 := by rw [eτ6]; exact r5_94_43
  refine j_aload_n d_M_build_176 3 rfl ?_
  refine j_getR 129 f_M_126 d_M_build_177 (tg_94 hE6) (q_okE hE6 (by decide)) (rf_94_60 hE6) (by decide) ?_
  refine j_iload d_M_build_180 0 rfl ?_
  refine j_iconst (v := 0) d_M_build_182 (by decide) ?_
  refine j_iast 1 d_M_build_183 (tg_129 hE6) (q_okE hE6 (by decide)) rfl (by decide) (by decide) ?_
  refine j_iinc (v := 2) (L' := [(4, .int 2), (2, .long 0), (1, .int (-1)), (0, .ref 94)]) d_M_build_184 0 rfl (by decide) (by decide) rfl ?_
  refine j_goto 133 d_M_build_187 (by decide) ?_
  refine j_iload d_M_build_133 0 rfl ?_
  refine j_bipush (v := 16) d_M_build_135 (by decide) ?_
  refine j_icmp_ge 190 d_M_build_137 (by decide) (fun h => absurd h (by decide)) (fun _ => ?_)
  refine j_aload_n d_M_build_140 3 rfl ?_
  refine j_getR 106 f_M_49 d_M_build_141 (tg_94 (q_E_i hE6)) (q_okE (q_E_i hE6) (by decide)) (rf_94_22 (q_E_i hE6)) (by decide) ?_
  refine j_iload d_M_build_144 0 rfl ?_
  refine j_aload_n d_M_build_146 3 rfl ?_
  refine j_getR 108 f_M_55 d_M_build_147 (tg_94 (q_E_i hE6)) (q_okE (q_E_i hE6) (by decide)) (rf_94_24 (q_E_i hE6)) (by decide) ?_
  refine j_iload d_M_build_150 0 rfl ?_
  refine k_iald (0) 2 d_M_build_152 (tg_108 (q_E_i hE6)) (q_okE (q_E_i hE6) (by decide)) rfl (by decide) (by decide) (h6_108_2) ?_
  refine j_iast 2 d_M_build_153 (tg_106 (q_E_i hE6)) (q_okE (q_E_i hE6) (by decide)) rfl (by decide) (by decide) ?_
  refine j_aload_n d_M_build_154 3 rfl ?_
  refine j_getR 107 f_M_52 d_M_build_155 (tg_94 (q_E_i (q_E_i hE6))) (q_okE (q_E_i (q_E_i hE6)) (by decide)) (rf_94_23 (q_E_i (q_E_i hE6))) (by decide) ?_
  refine j_iload d_M_build_158 0 rfl ?_
  refine j_aload_n d_M_build_160 3 rfl ?_
  refine j_getR 109 f_M_58 d_M_build_161 (tg_94 (q_E_i (q_E_i hE6))) (q_okE (q_E_i (q_E_i hE6)) (by decide)) (rf_94_25 (q_E_i (q_E_i hE6))) (by decide) ?_
  refine j_iload d_M_build_164 0 rfl ?_
  refine k_iald (0) 2 d_M_build_166 (tg_109 (q_E_i (q_E_i hE6))) (q_okE (q_E_i (q_E_i hE6)) (by decide)) rfl (by decide) (by decide) (h6_109_2) ?_
  refine j_iast 2 d_M_build_167 (tg_107 (q_E_i (q_E_i hE6))) (q_okE (q_E_i (q_E_i hE6)) (by decide)) rfl (by decide) (by decide) ?_
  refine j_aload_n d_M_build_168 3 rfl ?_
  refine j_getR 126 f_M_117 d_M_build_169 (tg_94 (q_E_i (q_E_i (q_E_i hE6)))) (q_okE (q_E_i (q_E_i (q_E_i hE6))) (by decide)) (rf_94_57 (q_E_i (q_E_i (q_E_i hE6)))) (by decide) ?_
  refine j_iload d_M_build_172 0 rfl ?_
  refine j_iconst (v := 0) d_M_build_174 (by decide) ?_
  refine j_iast 2 d_M_build_175 (tg_126 (q_E_i (q_E_i (q_E_i hE6)))) (q_okE (q_E_i (q_E_i (q_E_i hE6))) (by decide)) rfl (by decide) (by decide) ?_
  refine j_aload_n d_M_build_176 3 rfl ?_
  refine j_getR 129 f_M_126 d_M_build_177 (tg_94 (q_E_i (q_E_i (q_E_i (q_E_i hE6))))) (q_okE (q_E_i (q_E_i (q_E_i (q_E_i hE6)))) (by decide)) (rf_94_60 (q_E_i (q_E_i (q_E_i (q_E_i hE6))))) (by decide) ?_
  refine j_iload d_M_build_180 0 rfl ?_
  refine j_iconst (v := 0) d_M_build_182 (by decide) ?_
  refine j_iast 2 d_M_build_183 (tg_129 (q_E_i (q_E_i (q_E_i (q_E_i hE6))))) (q_okE (q_E_i (q_E_i (q_E_i (q_E_i hE6)))) (by decide)) rfl (by decide) (by decide) ?_
  refine j_iinc (v := 3) (L' := [(4, .int 3), (2, .long 0), (1, .int (-1)), (0, .ref 94)]) d_M_build_184 0 rfl (by decide) (by decide) rfl ?_
  refine j_goto 133 d_M_build_187 (by decide) ?_
  refine j_iload d_M_build_133 0 rfl ?_
  refine j_bipush (v := 16) d_M_build_135 (by decide) ?_
  refine j_icmp_ge 190 d_M_build_137 (by decide) (fun h => absurd h (by decide)) (fun _ => ?_)
  refine j_aload_n d_M_build_140 3 rfl ?_
  refine j_getR 106 f_M_49 d_M_build_141 (tg_94 (q_E_i (q_E_i (q_E_i (q_E_i (q_E_i hE6)))))) (q_okE (q_E_i (q_E_i (q_E_i (q_E_i (q_E_i hE6))))) (by decide)) (rf_94_22 (q_E_i (q_E_i (q_E_i (q_E_i (q_E_i hE6)))))) (by decide) ?_
  refine j_iload d_M_build_144 0 rfl ?_
  refine j_aload_n d_M_build_146 3 rfl ?_
  refine j_getR 108 f_M_55 d_M_build_147 (tg_94 (q_E_i (q_E_i (q_E_i (q_E_i (q_E_i hE6)))))) (q_okE (q_E_i (q_E_i (q_E_i (q_E_i (q_E_i hE6))))) (by decide)) (rf_94_24 (q_E_i (q_E_i (q_E_i (q_E_i (q_E_i hE6)))))) (by decide) ?_
  refine j_iload d_M_build_150 0 rfl ?_
  refine k_iald (0) 3 d_M_build_152 (tg_108 (q_E_i (q_E_i (q_E_i (q_E_i (q_E_i hE6)))))) (q_okE (q_E_i (q_E_i (q_E_i (q_E_i (q_E_i hE6))))) (by decide)) rfl (by decide) (by decide) (h6_108_3) ?_
  refine j_iast 3 d_M_build_153 (tg_106 (q_E_i (q_E_i (q_E_i (q_E_i (q_E_i hE6)))))) (q_okE (q_E_i (q_E_i (q_E_i (q_E_i (q_E_i hE6))))) (by decide)) rfl (by decide) (by decide) ?_
  refine j_aload_n d_M_build_154 3 rfl ?_
  refine j_getR 107 f_M_52 d_M_build_155 (tg_94 (q_E_i (q_E_i (q_E_i (q_E_i (q_E_i (q_E_i hE6))))))) (q_okE (q_E_i (q_E_i (q_E_i (q_E_i (q_E_i (q_E_i hE6)))))) (by decide)) (rf_94_23 (q_E_i (q_E_i (q_E_i (q_E_i (q_E_i (q_E_i hE6))))))) (by decide) ?_
  refine j_iload d_M_build_158 0 rfl ?_
  refine j_aload_n d_M_build_160 3 rfl ?_
  refine j_getR 109 f_M_58 d_M_build_161 (tg_94 (q_E_i (q_E_i (q_E_i (q_E_i (q_E_i (q_E_i hE6))))))) (q_okE (q_E_i (q_E_i (q_E_i (q_E_i (q_E_i (q_E_i hE6)))))) (by decide)) (rf_94_25 (q_E_i (q_E_i (q_E_i (q_E_i (q_E_i (q_E_i hE6))))))) (by decide) ?_
  refine j_iload d_M_build_164 0 rfl ?_
  refine k_iald (0) 3 d_M_build_166 (tg_109 (q_E_i (q_E_i (q_E_i (q_E_i (q_E_i (q_E_i hE6))))))) (q_okE (q_E_i (q_E_i (q_E_i (q_E_i (q_E_i (q_E_i hE6)))))) (by decide)) rfl (by decide) (by decide) (h6_109_3) ?_
  refine j_iast 3 d_M_build_167 (tg_107 (q_E_i (q_E_i (q_E_i (q_E_i (q_E_i (q_E_i hE6))))))) (q_okE (q_E_i (q_E_i (q_E_i (q_E_i (q_E_i (q_E_i hE6)))))) (by decide)) rfl (by decide) (by decide) ?_
  refine j_aload_n d_M_build_168 3 rfl ?_
  refine j_getR 126 f_M_117 d_M_build_169 (tg_94 (q_E_i (q_E_i (q_E_i (q_E_i (q_E_i (q_E_i (q_E_i hE6)))))))) (q_okE (q_E_i (q_E_i (q_E_i (q_E_i (q_E_i (q_E_i (q_E_i hE6))))))) (by decide)) (rf_94_57 (q_E_i (q_E_i (q_E_i (q_E_i (q_E_i (q_E_i (q_E_i hE6)))))))) (by decide) ?_
  refine j_iload d_M_build_172 0 rfl ?_
  refine j_iconst (v := 0) d_M_build_174 (by decide) ?_
  refine j_iast 3 d_M_build_175 (tg_126 (q_E_i (q_E_i (q_E_i (q_E_i (q_E_i (q_E_i (q_E_i hE6)))))))) (q_okE (q_E_i (q_E_i (q_E_i (q_E_i (q_E_i (q_E_i (q_E_i hE6))))))) (by decide)) rfl (by decide) (by decide) ?_
  refine j_st (fun τ7 eτ7 => ?_)
  have hE7 : q_E τ7 := by rw [eτ7]; exact (q_E_i (q_E_i (q_E_i (q_E_i (q_E_i (q_E_i (q_E_i (q_E_i hE6))))))))
  have h7_94_2 : q_i τ7 94 2 = 0 := by rw [eτ7]; exact h6_94_2
  have h7_108_0 : q_i τ7 108 0 = 0 := by rw [eτ7]; exact h6_108_0
  have h7_108_1 : q_i τ7 108 1 = 0 := by rw [eτ7]; exact h6_108_1
  have h7_108_2 : q_i τ7 108 2 = 0 := by rw [eτ7]; exact h6_108_2
  have h7_108_3 : q_i τ7 108 3 = 0 := by rw [eτ7]; exact h6_108_3
  have h7_108_4 : q_i τ7 108 4 = 0 := by rw [eτ7]; exact h6_108_4
  have h7_108_5 : q_i τ7 108 5 = 0 := by rw [eτ7]; exact h6_108_5
  have h7_108_6 : q_i τ7 108 6 = 0 := by rw [eτ7]; exact h6_108_6
  have h7_108_7 : q_i τ7 108 7 = 0 := by rw [eτ7]; exact h6_108_7
  have h7_108_8 : q_i τ7 108 8 = 0 := by rw [eτ7]; exact h6_108_8
  have h7_108_9 : q_i τ7 108 9 = 0 := by rw [eτ7]; exact h6_108_9
  have h7_108_10 : q_i τ7 108 10 = 0 := by rw [eτ7]; exact h6_108_10
  have h7_108_11 : q_i τ7 108 11 = 0 := by rw [eτ7]; exact h6_108_11
  have h7_108_12 : q_i τ7 108 12 = 0 := by rw [eτ7]; exact h6_108_12
  have h7_108_13 : q_i τ7 108 13 = 0 := by rw [eτ7]; exact h6_108_13
  have h7_108_14 : q_i τ7 108 14 = 0 := by rw [eτ7]; exact h6_108_14
  have h7_108_15 : q_i τ7 108 15 = 0 := by rw [eτ7]; exact h6_108_15
  have h7_109_0 : q_i τ7 109 0 = 0 := by rw [eτ7]; exact h6_109_0
  have h7_109_1 : q_i τ7 109 1 = 0 := by rw [eτ7]; exact h6_109_1
  have h7_109_2 : q_i τ7 109 2 = 0 := by rw [eτ7]; exact h6_109_2
  have h7_109_3 : q_i τ7 109 3 = 0 := by rw [eτ7]; exact h6_109_3
  have h7_109_4 : q_i τ7 109 4 = 0 := by rw [eτ7]; exact h6_109_4
  have h7_109_5 : q_i τ7 109 5 = 0 := by rw [eτ7]; exact h6_109_5
  have h7_109_6 : q_i τ7 109 6 = 0 := by rw [eτ7]; exact h6_109_6
  have h7_109_7 : q_i τ7 109 7 = 0 := by rw [eτ7]; exact h6_109_7
  have h7_109_8 : q_i τ7 109 8 = 0 := by rw [eτ7]; exact h6_109_8
  have h7_109_9 : q_i τ7 109 9 = 0 := by rw [eτ7]; exact h6_109_9
  have h7_109_10 : q_i τ7 109 10 = 0 := by rw [eτ7]; exact h6_109_10
  have h7_109_11 : q_i τ7 109 11 = 0 := by rw [eτ7]; exact h6_109_11
  have h7_109_12 : q_i τ7 109 12 = 0 := by rw [eτ7]; exact h6_109_12
  have h7_109_13 : q_i τ7 109 13 = 0 := by rw [eτ7]; exact h6_109_13
  have h7_109_14 : q_i τ7 109 14 = 0 := by rw [eτ7]; exact h6_109_14
  have h7_109_15 : q_i τ7 109 15 = 0 := by rw [eτ7]; exact h6_109_15
  have h7_96_0 : q_i τ7 96 0 = 273 := by rw [eτ7]; exact h6_96_0
  have h7_94_18 : q_i τ7 94 18 = 0 := by rw [eτ7]; exact h6_94_18
  have h7_94_19 : q_i τ7 94 19 = 0 := by rw [eτ7]; exact h6_94_19
  have h7_94_20 : q_i τ7 94 20 = 0 := by rw [eτ7]; exact h6_94_20
  have h7_94_21 : q_i τ7 94 21 = 0 := by rw [eτ7]; exact h6_94_21
  have h7_94_48 : q_i τ7 94 48 = 0 := by rw [eτ7]; exact h6_94_48
  have h7_94_28 : q_i τ7 94 28 = 0 := by rw [eτ7]; exact h6_94_28
  have r7_94_32 : q_r τ7 94 32 = 116 := by rw [eτ7]; exact r6_94_32
  have r7_94_38 : q_r τ7 94 38 = 110 := by rw [eτ7]; exact r6_94_38
  have r7_94_33 : q_r τ7 94 33 = 117 := by rw [eτ7]; exact r6_94_33
  have r7_94_39 : q_r τ7 94 39 = 111 := by rw [eτ7]; exact r6_94_39
  have r7_94_34 : q_r τ7 94 34 = 118 := by rw [eτ7]; exact r6_94_34
  have r7_94_40 : q_r τ7 94 40 = 112 := by rw [eτ7]; exact r6_94_40
  have r7_94_35 : q_r τ7 94 35 = 119 := by rw [eτ7]; exact r6_94_35
  have r7_94_41 : q_r τ7 94 41 = 113 := by rw [eτ7]; exact r6_94_41
  have r7_94_36 : q_r τ7 94 36 = 120 := by rw [eτ7]; exact r6_94_36
  have r7_94_42 : q_r τ7 94 42 = 114 := by rw [eτ7]; exact r6_94_42
  have r7_94_37 : q_r τ7 94 37 = 121 := by rw [eτ7]; exact r6_94_37
  have r7_94_43 : q_r τ7 94 43 = 115 := by rw [eτ7]; exact r6_94_43
  refine j_aload_n d_M_build_176 3 rfl ?_
  refine j_getR 129 f_M_126 d_M_build_177 (tg_94 hE7) (q_okE hE7 (by decide)) (rf_94_60 hE7) (by decide) ?_
  refine j_iload d_M_build_180 0 rfl ?_
  refine j_iconst (v := 0) d_M_build_182 (by decide) ?_
  refine j_iast 3 d_M_build_183 (tg_129 hE7) (q_okE hE7 (by decide)) rfl (by decide) (by decide) ?_
  refine j_iinc (v := 4) (L' := [(4, .int 4), (2, .long 0), (1, .int (-1)), (0, .ref 94)]) d_M_build_184 0 rfl (by decide) (by decide) rfl ?_
  refine j_goto 133 d_M_build_187 (by decide) ?_
  refine j_iload d_M_build_133 0 rfl ?_
  refine j_bipush (v := 16) d_M_build_135 (by decide) ?_
  refine j_icmp_ge 190 d_M_build_137 (by decide) (fun h => absurd h (by decide)) (fun _ => ?_)
  refine j_aload_n d_M_build_140 3 rfl ?_
  refine j_getR 106 f_M_49 d_M_build_141 (tg_94 (q_E_i hE7)) (q_okE (q_E_i hE7) (by decide)) (rf_94_22 (q_E_i hE7)) (by decide) ?_
  refine j_iload d_M_build_144 0 rfl ?_
  refine j_aload_n d_M_build_146 3 rfl ?_
  refine j_getR 108 f_M_55 d_M_build_147 (tg_94 (q_E_i hE7)) (q_okE (q_E_i hE7) (by decide)) (rf_94_24 (q_E_i hE7)) (by decide) ?_
  refine j_iload d_M_build_150 0 rfl ?_
  refine k_iald (0) 4 d_M_build_152 (tg_108 (q_E_i hE7)) (q_okE (q_E_i hE7) (by decide)) rfl (by decide) (by decide) (h7_108_4) ?_
  refine j_iast 4 d_M_build_153 (tg_106 (q_E_i hE7)) (q_okE (q_E_i hE7) (by decide)) rfl (by decide) (by decide) ?_
  refine j_aload_n d_M_build_154 3 rfl ?_
  refine j_getR 107 f_M_52 d_M_build_155 (tg_94 (q_E_i (q_E_i hE7))) (q_okE (q_E_i (q_E_i hE7)) (by decide)) (rf_94_23 (q_E_i (q_E_i hE7))) (by decide) ?_
  refine j_iload d_M_build_158 0 rfl ?_
  refine j_aload_n d_M_build_160 3 rfl ?_
  refine j_getR 109 f_M_58 d_M_build_161 (tg_94 (q_E_i (q_E_i hE7))) (q_okE (q_E_i (q_E_i hE7)) (by decide)) (rf_94_25 (q_E_i (q_E_i hE7))) (by decide) ?_
  refine j_iload d_M_build_164 0 rfl ?_
  refine k_iald (0) 4 d_M_build_166 (tg_109 (q_E_i (q_E_i hE7))) (q_okE (q_E_i (q_E_i hE7)) (by decide)) rfl (by decide) (by decide) (h7_109_4) ?_
  refine j_iast 4 d_M_build_167 (tg_107 (q_E_i (q_E_i hE7))) (q_okE (q_E_i (q_E_i hE7)) (by decide)) rfl (by decide) (by decide) ?_
  refine j_aload_n d_M_build_168 3 rfl ?_
  refine j_getR 126 f_M_117 d_M_build_169 (tg_94 (q_E_i (q_E_i (q_E_i hE7)))) (q_okE (q_E_i (q_E_i (q_E_i hE7))) (by decide)) (rf_94_57 (q_E_i (q_E_i (q_E_i hE7)))) (by decide) ?_
  refine j_iload d_M_build_172 0 rfl ?_
  refine j_iconst (v := 0) d_M_build_174 (by decide) ?_
  refine j_iast 4 d_M_build_175 (tg_126 (q_E_i (q_E_i (q_E_i hE7)))) (q_okE (q_E_i (q_E_i (q_E_i hE7))) (by decide)) rfl (by decide) (by decide) ?_
  refine j_aload_n d_M_build_176 3 rfl ?_
  refine j_getR 129 f_M_126 d_M_build_177 (tg_94 (q_E_i (q_E_i (q_E_i (q_E_i hE7))))) (q_okE (q_E_i (q_E_i (q_E_i (q_E_i hE7)))) (by decide)) (rf_94_60 (q_E_i (q_E_i (q_E_i (q_E_i hE7))))) (by decide) ?_
  refine j_iload d_M_build_180 0 rfl ?_
  refine j_iconst (v := 0) d_M_build_182 (by decide) ?_
  refine j_iast 4 d_M_build_183 (tg_129 (q_E_i (q_E_i (q_E_i (q_E_i hE7))))) (q_okE (q_E_i (q_E_i (q_E_i (q_E_i hE7)))) (by decide)) rfl (by decide) (by decide) ?_
  refine j_iinc (v := 5) (L' := [(4, .int 5), (2, .long 0), (1, .int (-1)), (0, .ref 94)]) d_M_build_184 0 rfl (by decide) (by decide) rfl ?_
  refine j_goto 133 d_M_build_187 (by decide) ?_
  refine j_iload d_M_build_133 0 rfl ?_
  refine j_bipush (v := 16) d_M_build_135 (by decide) ?_
  refine j_icmp_ge 190 d_M_build_137 (by decide) (fun h => absurd h (by decide)) (fun _ => ?_)
  refine j_aload_n d_M_build_140 3 rfl ?_
  refine j_getR 106 f_M_49 d_M_build_141 (tg_94 (q_E_i (q_E_i (q_E_i (q_E_i (q_E_i hE7)))))) (q_okE (q_E_i (q_E_i (q_E_i (q_E_i (q_E_i hE7))))) (by decide)) (rf_94_22 (q_E_i (q_E_i (q_E_i (q_E_i (q_E_i hE7)))))) (by decide) ?_
  refine j_iload d_M_build_144 0 rfl ?_
  refine j_aload_n d_M_build_146 3 rfl ?_
  refine j_getR 108 f_M_55 d_M_build_147 (tg_94 (q_E_i (q_E_i (q_E_i (q_E_i (q_E_i hE7)))))) (q_okE (q_E_i (q_E_i (q_E_i (q_E_i (q_E_i hE7))))) (by decide)) (rf_94_24 (q_E_i (q_E_i (q_E_i (q_E_i (q_E_i hE7)))))) (by decide) ?_
  refine j_iload d_M_build_150 0 rfl ?_
  refine k_iald (0) 5 d_M_build_152 (tg_108 (q_E_i (q_E_i (q_E_i (q_E_i (q_E_i hE7)))))) (q_okE (q_E_i (q_E_i (q_E_i (q_E_i (q_E_i hE7))))) (by decide)) rfl (by decide) (by decide) (h7_108_5) ?_
  refine j_iast 5 d_M_build_153 (tg_106 (q_E_i (q_E_i (q_E_i (q_E_i (q_E_i hE7)))))) (q_okE (q_E_i (q_E_i (q_E_i (q_E_i (q_E_i hE7))))) (by decide)) rfl (by decide) (by decide) ?_
  refine j_aload_n d_M_build_154 3 rfl ?_
  refine j_getR 107 f_M_52 d_M_build_155 (tg_94 (q_E_i (q_E_i (q_E_i (q_E_i (q_E_i (q_E_i hE7))))))) (q_okE (q_E_i (q_E_i (q_E_i (q_E_i (q_E_i (q_E_i hE7)))))) (by decide)) (rf_94_23 (q_E_i (q_E_i (q_E_i (q_E_i (q_E_i (q_E_i hE7))))))) (by decide) ?_
  refine j_iload d_M_build_158 0 rfl ?_
  refine j_aload_n d_M_build_160 3 rfl ?_
  refine j_getR 109 f_M_58 d_M_build_161 (tg_94 (q_E_i (q_E_i (q_E_i (q_E_i (q_E_i (q_E_i hE7))))))) (q_okE (q_E_i (q_E_i (q_E_i (q_E_i (q_E_i (q_E_i hE7)))))) (by decide)) (rf_94_25 (q_E_i (q_E_i (q_E_i (q_E_i (q_E_i (q_E_i hE7))))))) (by decide) ?_
  refine j_iload d_M_build_164 0 rfl ?_
  refine k_iald (0) 5 d_M_build_166 (tg_109 (q_E_i (q_E_i (q_E_i (q_E_i (q_E_i (q_E_i hE7))))))) (q_okE (q_E_i (q_E_i (q_E_i (q_E_i (q_E_i (q_E_i hE7)))))) (by decide)) rfl (by decide) (by decide) (h7_109_5) ?_
  refine j_iast 5 d_M_build_167 (tg_107 (q_E_i (q_E_i (q_E_i (q_E_i (q_E_i (q_E_i hE7))))))) (q_okE (q_E_i (q_E_i (q_E_i (q_E_i (q_E_i (q_E_i hE7)))))) (by decide)) rfl (by decide) (by decide) ?_
  refine j_aload_n d_M_build_168 3 rfl ?_
  refine j_getR 126 f_M_117 d_M_build_169 (tg_94 (q_E_i (q_E_i (q_E_i (q_E_i (q_E_i (q_E_i (q_E_i hE7)))))))) (q_okE (q_E_i (q_E_i (q_E_i (q_E_i (q_E_i (q_E_i (q_E_i hE7))))))) (by decide)) (rf_94_57 (q_E_i (q_E_i (q_E_i (q_E_i (q_E_i (q_E_i (q_E_i hE7)))))))) (by decide) ?_
  refine j_iload d_M_build_172 0 rfl ?_
  refine j_iconst (v := 0) d_M_build_174 (by decide) ?_
  refine j_iast 5 d_M_build_175 (tg_126 (q_E_i (q_E_i (q_E_i (q_E_i (q_E_i (q_E_i (q_E_i hE7)))))))) (q_okE (q_E_i (q_E_i (q_E_i (q_E_i (q_E_i (q_E_i (q_E_i hE7))))))) (by decide)) rfl (by decide) (by decide) ?_
  refine j_st (fun τ8 eτ8 => ?_)
  have hE8 : q_E τ8 := by rw [eτ8]; exact (q_E_i (q_E_i (q_E_i (q_E_i (q_E_i (q_E_i (q_E_i (q_E_i hE7))))))))
  have h8_94_2 : q_i τ8 94 2 = 0 := by rw [eτ8]; exact h7_94_2
  have h8_108_0 : q_i τ8 108 0 = 0 := by rw [eτ8]; exact h7_108_0
  have h8_108_1 : q_i τ8 108 1 = 0 := by rw [eτ8]; exact h7_108_1
  have h8_108_2 : q_i τ8 108 2 = 0 := by rw [eτ8]; exact h7_108_2
  have h8_108_3 : q_i τ8 108 3 = 0 := by rw [eτ8]; exact h7_108_3
  have h8_108_4 : q_i τ8 108 4 = 0 := by rw [eτ8]; exact h7_108_4
  have h8_108_5 : q_i τ8 108 5 = 0 := by rw [eτ8]; exact h7_108_5
  have h8_108_6 : q_i τ8 108 6 = 0 := by rw [eτ8]; exact h7_108_6
  have h8_108_7 : q_i τ8 108 7 = 0 := by rw [eτ8]; exact h7_108_7
  have h8_108_8 : q_i τ8 108 8 = 0 := by rw [eτ8]; exact h7_108_8
  have h8_108_9 : q_i τ8 108 9 = 0 := by rw [eτ8]; exact h7_108_9
  have h8_108_10 : q_i τ8 108 10 = 0 := by rw [eτ8]; exact h7_108_10
  have h8_108_11 : q_i τ8 108 11 = 0 := by rw [eτ8]; exact h7_108_11
  have h8_108_12 : q_i τ8 108 12 = 0 := by rw [eτ8]; exact h7_108_12
  have h8_108_13 : q_i τ8 108 13 = 0 := by rw [eτ8]; exact h7_108_13
  have h8_108_14 : q_i τ8 108 14 = 0 := by rw [eτ8]; exact h7_108_14
  have h8_108_15 : q_i τ8 108 15 = 0 := by rw [eτ8]; exact h7_108_15
  have h8_109_0 : q_i τ8 109 0 = 0 := by rw [eτ8]; exact h7_109_0
  have h8_109_1 : q_i τ8 109 1 = 0 := by rw [eτ8]; exact h7_109_1
  have h8_109_2 : q_i τ8 109 2 = 0 := by rw [eτ8]; exact h7_109_2
  have h8_109_3 : q_i τ8 109 3 = 0 := by rw [eτ8]; exact h7_109_3
  have h8_109_4 : q_i τ8 109 4 = 0 := by rw [eτ8]; exact h7_109_4
  have h8_109_5 : q_i τ8 109 5 = 0 := by rw [eτ8]; exact h7_109_5
  have h8_109_6 : q_i τ8 109 6 = 0 := by rw [eτ8]; exact h7_109_6
  have h8_109_7 : q_i τ8 109 7 = 0 := by rw [eτ8]; exact h7_109_7
  have h8_109_8 : q_i τ8 109 8 = 0 := by rw [eτ8]; exact h7_109_8
  have h8_109_9 : q_i τ8 109 9 = 0 := by rw [eτ8]; exact h7_109_9
  have h8_109_10 : q_i τ8 109 10 = 0 := by rw [eτ8]; exact h7_109_10
  have h8_109_11 : q_i τ8 109 11 = 0 := by rw [eτ8]; exact h7_109_11
  have h8_109_12 : q_i τ8 109 12 = 0 := by rw [eτ8]; exact h7_109_12
  have h8_109_13 : q_i τ8 109 13 = 0 := by rw [eτ8]; exact h7_109_13
  have h8_109_14 : q_i τ8 109 14 = 0 := by rw [eτ8]; exact h7_109_14
  have h8_109_15 : q_i τ8 109 15 = 0 := by rw [eτ8]; exact h7_109_15
  have h8_96_0 : q_i τ8 96 0 = 273 := by rw [eτ8]; exact h7_96_0
  have h8_94_18 : q_i τ8 94 18 = 0 := by rw [eτ8]; exact h7_94_18
  have h8_94_19 : q_i τ8 94 19 = 0 := by rw [eτ8]; exact h7_94_19
  have h8_94_20 : q_i τ8 94 20 = 0 := by rw [eτ8]; exact h7_94_20
  have h8_94_21 : q_i τ8 94 21 = 0 := by rw [eτ8]; exact h7_94_21
  have h8_94_48 : q_i τ8 94 48 = 0 := by rw [eτ8]; exact h7_94_48
  have h8_94_28 : q_i τ8 94 28 = 0 := by rw [eτ8]; exact h7_94_28
  have r8_94_32 : q_r τ8 94 32 = 116 := by rw [eτ8]; exact r7_94_32
  have r8_94_38 : q_r τ8 94 38 = 110 := by rw [eτ8]; exact r7_94_38
  have r8_94_33 : q_r τ8 94 33 = 117 := by rw [eτ8]; exact r7_94_33
  have r8_94_39 : q_r τ8 94 39 = 111 := by rw [eτ8]; exact r7_94_39
  have r8_94_34 : q_r τ8 94 34 = 118 := by rw [eτ8]; exact r7_94_34
  have r8_94_40 : q_r τ8 94 40 = 112 := by rw [eτ8]; exact r7_94_40
  have r8_94_35 : q_r τ8 94 35 = 119 := by rw [eτ8]; exact r7_94_35
  have r8_94_41 : q_r τ8 94 41 = 113 := by rw [eτ8]; exact r7_94_41
  have r8_94_36 : q_r τ8 94 36 = 120 := by rw [eτ8]; exact r7_94_36
  have r8_94_42 : q_r τ8 94 42 = 114 := by rw [eτ8]; exact r7_94_42
  have r8_94_37 : q_r τ8 94 37 = 121 := by rw [eτ8]; exact r7_94_37
  have r8_94_43 : q_r τ8 94 43 = 115 := by rw [eτ8]; exact r7_94_43
  refine j_aload_n d_M_build_176 3 rfl ?_
  refine j_getR 129 f_M_126 d_M_build_177 (tg_94 hE8) (q_okE hE8 (by decide)) (rf_94_60 hE8) (by decide) ?_
  refine j_iload d_M_build_180 0 rfl ?_
  refine j_iconst (v := 0) d_M_build_182 (by decide) ?_
  refine j_iast 5 d_M_build_183 (tg_129 hE8) (q_okE hE8 (by decide)) rfl (by decide) (by decide) ?_
  refine j_iinc (v := 6) (L' := [(4, .int 6), (2, .long 0), (1, .int (-1)), (0, .ref 94)]) d_M_build_184 0 rfl (by decide) (by decide) rfl ?_
  refine j_goto 133 d_M_build_187 (by decide) ?_
  refine j_iload d_M_build_133 0 rfl ?_
  refine j_bipush (v := 16) d_M_build_135 (by decide) ?_
  refine j_icmp_ge 190 d_M_build_137 (by decide) (fun h => absurd h (by decide)) (fun _ => ?_)
  refine j_aload_n d_M_build_140 3 rfl ?_
  refine j_getR 106 f_M_49 d_M_build_141 (tg_94 (q_E_i hE8)) (q_okE (q_E_i hE8) (by decide)) (rf_94_22 (q_E_i hE8)) (by decide) ?_
  refine j_iload d_M_build_144 0 rfl ?_
  refine j_aload_n d_M_build_146 3 rfl ?_
  refine j_getR 108 f_M_55 d_M_build_147 (tg_94 (q_E_i hE8)) (q_okE (q_E_i hE8) (by decide)) (rf_94_24 (q_E_i hE8)) (by decide) ?_
  refine j_iload d_M_build_150 0 rfl ?_
  refine k_iald (0) 6 d_M_build_152 (tg_108 (q_E_i hE8)) (q_okE (q_E_i hE8) (by decide)) rfl (by decide) (by decide) (h8_108_6) ?_
  refine j_iast 6 d_M_build_153 (tg_106 (q_E_i hE8)) (q_okE (q_E_i hE8) (by decide)) rfl (by decide) (by decide) ?_
  refine j_aload_n d_M_build_154 3 rfl ?_
  refine j_getR 107 f_M_52 d_M_build_155 (tg_94 (q_E_i (q_E_i hE8))) (q_okE (q_E_i (q_E_i hE8)) (by decide)) (rf_94_23 (q_E_i (q_E_i hE8))) (by decide) ?_
  refine j_iload d_M_build_158 0 rfl ?_
  refine j_aload_n d_M_build_160 3 rfl ?_
  refine j_getR 109 f_M_58 d_M_build_161 (tg_94 (q_E_i (q_E_i hE8))) (q_okE (q_E_i (q_E_i hE8)) (by decide)) (rf_94_25 (q_E_i (q_E_i hE8))) (by decide) ?_
  refine j_iload d_M_build_164 0 rfl ?_
  refine k_iald (0) 6 d_M_build_166 (tg_109 (q_E_i (q_E_i hE8))) (q_okE (q_E_i (q_E_i hE8)) (by decide)) rfl (by decide) (by decide) (h8_109_6) ?_
  refine j_iast 6 d_M_build_167 (tg_107 (q_E_i (q_E_i hE8))) (q_okE (q_E_i (q_E_i hE8)) (by decide)) rfl (by decide) (by decide) ?_
  refine j_aload_n d_M_build_168 3 rfl ?_
  refine j_getR 126 f_M_117 d_M_build_169 (tg_94 (q_E_i (q_E_i (q_E_i hE8)))) (q_okE (q_E_i (q_E_i (q_E_i hE8))) (by decide)) (rf_94_57 (q_E_i (q_E_i (q_E_i hE8)))) (by decide) ?_
  refine j_iload d_M_build_172 0 rfl ?_
  refine j_iconst (v := 0) d_M_build_174 (by decide) ?_
  refine j_iast 6 d_M_build_175 (tg_126 (q_E_i (q_E_i (q_E_i hE8)))) (q_okE (q_E_i (q_E_i (q_E_i hE8))) (by decide)) rfl (by decide) (by decide) ?_
  refine j_aload_n d_M_build_176 3 rfl ?_
  refine j_getR 129 f_M_126 d_M_build_177 (tg_94 (q_E_i (q_E_i (q_E_i (q_E_i hE8))))) (q_okE (q_E_i (q_E_i (q_E_i (q_E_i hE8)))) (by decide)) (rf_94_60 (q_E_i (q_E_i (q_E_i (q_E_i hE8))))) (by decide) ?_
  refine j_iload d_M_build_180 0 rfl ?_
  refine j_iconst (v := 0) d_M_build_182 (by decide) ?_
  refine j_iast 6 d_M_build_183 (tg_129 (q_E_i (q_E_i (q_E_i (q_E_i hE8))))) (q_okE (q_E_i (q_E_i (q_E_i (q_E_i hE8)))) (by decide)) rfl (by decide) (by decide) ?_
  refine j_iinc (v := 7) (L' := [(4, .int 7), (2, .long 0), (1, .int (-1)), (0, .ref 94)]) d_M_build_184 0 rfl (by decide) (by decide) rfl ?_
  refine j_goto 133 d_M_build_187 (by decide) ?_
  refine j_iload d_M_build_133 0 rfl ?_
  refine j_bipush (v := 16) d_M_build_135 (by decide) ?_
  refine j_icmp_ge 190 d_M_build_137 (by decide) (fun h => absurd h (by decide)) (fun _ => ?_)
  refine j_aload_n d_M_build_140 3 rfl ?_
  refine j_getR 106 f_M_49 d_M_build_141 (tg_94 (q_E_i (q_E_i (q_E_i (q_E_i (q_E_i hE8)))))) (q_okE (q_E_i (q_E_i (q_E_i (q_E_i (q_E_i hE8))))) (by decide)) (rf_94_22 (q_E_i (q_E_i (q_E_i (q_E_i (q_E_i hE8)))))) (by decide) ?_
  refine j_iload d_M_build_144 0 rfl ?_
  refine j_aload_n d_M_build_146 3 rfl ?_
  refine j_getR 108 f_M_55 d_M_build_147 (tg_94 (q_E_i (q_E_i (q_E_i (q_E_i (q_E_i hE8)))))) (q_okE (q_E_i (q_E_i (q_E_i (q_E_i (q_E_i hE8))))) (by decide)) (rf_94_24 (q_E_i (q_E_i (q_E_i (q_E_i (q_E_i hE8)))))) (by decide) ?_
  refine j_iload d_M_build_150 0 rfl ?_
  refine k_iald (0) 7 d_M_build_152 (tg_108 (q_E_i (q_E_i (q_E_i (q_E_i (q_E_i hE8)))))) (q_okE (q_E_i (q_E_i (q_E_i (q_E_i (q_E_i hE8))))) (by decide)) rfl (by decide) (by decide) (h8_108_7) ?_
  refine j_iast 7 d_M_build_153 (tg_106 (q_E_i (q_E_i (q_E_i (q_E_i (q_E_i hE8)))))) (q_okE (q_E_i (q_E_i (q_E_i (q_E_i (q_E_i hE8))))) (by decide)) rfl (by decide) (by decide) ?_
  refine j_aload_n d_M_build_154 3 rfl ?_
  refine j_getR 107 f_M_52 d_M_build_155 (tg_94 (q_E_i (q_E_i (q_E_i (q_E_i (q_E_i (q_E_i hE8))))))) (q_okE (q_E_i (q_E_i (q_E_i (q_E_i (q_E_i (q_E_i hE8)))))) (by decide)) (rf_94_23 (q_E_i (q_E_i (q_E_i (q_E_i (q_E_i (q_E_i hE8))))))) (by decide) ?_
  refine j_iload d_M_build_158 0 rfl ?_
  refine j_aload_n d_M_build_160 3 rfl ?_
  refine j_getR 109 f_M_58 d_M_build_161 (tg_94 (q_E_i (q_E_i (q_E_i (q_E_i (q_E_i (q_E_i hE8))))))) (q_okE (q_E_i (q_E_i (q_E_i (q_E_i (q_E_i (q_E_i hE8)))))) (by decide)) (rf_94_25 (q_E_i (q_E_i (q_E_i (q_E_i (q_E_i (q_E_i hE8))))))) (by decide) ?_
  refine j_iload d_M_build_164 0 rfl ?_
  refine k_iald (0) 7 d_M_build_166 (tg_109 (q_E_i (q_E_i (q_E_i (q_E_i (q_E_i (q_E_i hE8))))))) (q_okE (q_E_i (q_E_i (q_E_i (q_E_i (q_E_i (q_E_i hE8)))))) (by decide)) rfl (by decide) (by decide) (h8_109_7) ?_
  refine j_iast 7 d_M_build_167 (tg_107 (q_E_i (q_E_i (q_E_i (q_E_i (q_E_i (q_E_i hE8))))))) (q_okE (q_E_i (q_E_i (q_E_i (q_E_i (q_E_i (q_E_i hE8)))))) (by decide)) rfl (by decide) (by decide) ?_
  refine j_aload_n d_M_build_168 3 rfl ?_
  refine j_getR 126 f_M_117 d_M_build_169 (tg_94 (q_E_i (q_E_i (q_E_i (q_E_i (q_E_i (q_E_i (q_E_i hE8)))))))) (q_okE (q_E_i (q_E_i (q_E_i (q_E_i (q_E_i (q_E_i (q_E_i hE8))))))) (by decide)) (rf_94_57 (q_E_i (q_E_i (q_E_i (q_E_i (q_E_i (q_E_i (q_E_i hE8)))))))) (by decide) ?_
  refine j_iload d_M_build_172 0 rfl ?_
  refine j_iconst (v := 0) d_M_build_174 (by decide) ?_
  refine j_iast 7 d_M_build_175 (tg_126 (q_E_i (q_E_i (q_E_i (q_E_i (q_E_i (q_E_i (q_E_i hE8)))))))) (q_okE (q_E_i (q_E_i (q_E_i (q_E_i (q_E_i (q_E_i (q_E_i hE8))))))) (by decide)) rfl (by decide) (by decide) ?_
  refine j_st (fun τ9 eτ9 => ?_)
  have hE9 : q_E τ9 := by rw [eτ9]; exact (q_E_i (q_E_i (q_E_i (q_E_i (q_E_i (q_E_i (q_E_i (q_E_i hE8))))))))
  have h9_94_2 : q_i τ9 94 2 = 0 := by rw [eτ9]; exact h8_94_2
  have h9_108_0 : q_i τ9 108 0 = 0 := by rw [eτ9]; exact h8_108_0
  have h9_108_1 : q_i τ9 108 1 = 0 := by rw [eτ9]; exact h8_108_1
  have h9_108_2 : q_i τ9 108 2 = 0 := by rw [eτ9]; exact h8_108_2
  have h9_108_3 : q_i τ9 108 3 = 0 := by rw [eτ9]; exact h8_108_3
  have h9_108_4 : q_i τ9 108 4 = 0 := by rw [eτ9]; exact h8_108_4
  have h9_108_5 : q_i τ9 108 5 = 0 := by rw [eτ9]; exact h8_108_5
  have h9_108_6 : q_i τ9 108 6 = 0 := by rw [eτ9]; exact h8_108_6
  have h9_108_7 : q_i τ9 108 7 = 0 := by rw [eτ9]; exact h8_108_7
  have h9_108_8 : q_i τ9 108 8 = 0 := by rw [eτ9]; exact h8_108_8
  have h9_108_9 : q_i τ9 108 9 = 0 := by rw [eτ9]; exact h8_108_9
  have h9_108_10 : q_i τ9 108 10 = 0 := by rw [eτ9]; exact h8_108_10
  have h9_108_11 : q_i τ9 108 11 = 0 := by rw [eτ9]; exact h8_108_11
  have h9_108_12 : q_i τ9 108 12 = 0 := by rw [eτ9]; exact h8_108_12
  have h9_108_13 : q_i τ9 108 13 = 0 := by rw [eτ9]; exact h8_108_13
  have h9_108_14 : q_i τ9 108 14 = 0 := by rw [eτ9]; exact h8_108_14
  have h9_108_15 : q_i τ9 108 15 = 0 := by rw [eτ9]; exact h8_108_15
  have h9_109_0 : q_i τ9 109 0 = 0 := by rw [eτ9]; exact h8_109_0
  have h9_109_1 : q_i τ9 109 1 = 0 := by rw [eτ9]; exact h8_109_1
  have h9_109_2 : q_i τ9 109 2 = 0 := by rw [eτ9]; exact h8_109_2
  have h9_109_3 : q_i τ9 109 3 = 0 := by rw [eτ9]; exact h8_109_3
  have h9_109_4 : q_i τ9 109 4 = 0 := by rw [eτ9]; exact h8_109_4
  have h9_109_5 : q_i τ9 109 5 = 0 := by rw [eτ9]; exact h8_109_5
  have h9_109_6 : q_i τ9 109 6 = 0 := by rw [eτ9]; exact h8_109_6
  have h9_109_7 : q_i τ9 109 7 = 0 := by rw [eτ9]; exact h8_109_7
  have h9_109_8 : q_i τ9 109 8 = 0 := by rw [eτ9]; exact h8_109_8
  have h9_109_9 : q_i τ9 109 9 = 0 := by rw [eτ9]; exact h8_109_9
  have h9_109_10 : q_i τ9 109 10 = 0 := by rw [eτ9]; exact h8_109_10
  have h9_109_11 : q_i τ9 109 11 = 0 := by rw [eτ9]; exact h8_109_11
  have h9_109_12 : q_i τ9 109 12 = 0 := by rw [eτ9]; exact h8_109_12
  have h9_109_13 : q_i τ9 109 13 = 0 := by rw [eτ9]; exact h8_109_13
  have h9_109_14 : q_i τ9 109 14 = 0 := by rw [eτ9]; exact h8_109_14
  have h9_109_15 : q_i τ9 109 15 = 0 := by rw [eτ9]; exact h8_109_15
  have h9_96_0 : q_i τ9 96 0 = 273 := by rw [eτ9]; exact h8_96_0
  have h9_94_18 : q_i τ9 94 18 = 0 := by rw [eτ9]; exact h8_94_18
  have h9_94_19 : q_i τ9 94 19 = 0 := by rw [eτ9]; exact h8_94_19
  have h9_94_20 : q_i τ9 94 20 = 0 := by rw [eτ9]; exact h8_94_20
  have h9_94_21 : q_i τ9 94 21 = 0 := by rw [eτ9]; exact h8_94_21
  have h9_94_48 : q_i τ9 94 48 = 0 := by rw [eτ9]; exact h8_94_48
  have h9_94_28 : q_i τ9 94 28 = 0 := by rw [eτ9]; exact h8_94_28
  have r9_94_32 : q_r τ9 94 32 = 116 := by rw [eτ9]; exact r8_94_32
  have r9_94_38 : q_r τ9 94 38 = 110 := by rw [eτ9]; exact r8_94_38
  have r9_94_33 : q_r τ9 94 33 = 117 := by rw [eτ9]; exact r8_94_33
  have r9_94_39 : q_r τ9 94 39 = 111 := by rw [eτ9]; exact r8_94_39
  have r9_94_34 : q_r τ9 94 34 = 118 := by rw [eτ9]; exact r8_94_34
  have r9_94_40 : q_r τ9 94 40 = 112 := by rw [eτ9]; exact r8_94_40
  have r9_94_35 : q_r τ9 94 35 = 119 := by rw [eτ9]; exact r8_94_35
  have r9_94_41 : q_r τ9 94 41 = 113 := by rw [eτ9]; exact r8_94_41
  have r9_94_36 : q_r τ9 94 36 = 120 := by rw [eτ9]; exact r8_94_36
  have r9_94_42 : q_r τ9 94 42 = 114 := by rw [eτ9]; exact r8_94_42
  have r9_94_37 : q_r τ9 94 37 = 121 := by rw [eτ9]; exact r8_94_37
  have r9_94_43 : q_r τ9 94 43 = 115 := by rw [eτ9]; exact r8_94_43
  refine j_aload_n d_M_build_176 3 rfl ?_
  refine j_getR 129 f_M_126 d_M_build_177 (tg_94 hE9) (q_okE hE9 (by decide)) (rf_94_60 hE9) (by decide) ?_
  refine j_iload d_M_build_180 0 rfl ?_
  refine j_iconst (v := 0) d_M_build_182 (by decide) ?_
  refine j_iast 7 d_M_build_183 (tg_129 hE9) (q_okE hE9 (by decide)) rfl (by decide) (by decide) ?_
  refine j_iinc (v := 8) (L' := [(4, .int 8), (2, .long 0), (1, .int (-1)), (0, .ref 94)]) d_M_build_184 0 rfl (by decide) (by decide) rfl ?_
  refine j_goto 133 d_M_build_187 (by decide) ?_
  refine j_iload d_M_build_133 0 rfl ?_
  refine j_bipush (v := 16) d_M_build_135 (by decide) ?_
  refine j_icmp_ge 190 d_M_build_137 (by decide) (fun h => absurd h (by decide)) (fun _ => ?_)
  refine j_aload_n d_M_build_140 3 rfl ?_
  refine j_getR 106 f_M_49 d_M_build_141 (tg_94 (q_E_i hE9)) (q_okE (q_E_i hE9) (by decide)) (rf_94_22 (q_E_i hE9)) (by decide) ?_
  refine j_iload d_M_build_144 0 rfl ?_
  refine j_aload_n d_M_build_146 3 rfl ?_
  refine j_getR 108 f_M_55 d_M_build_147 (tg_94 (q_E_i hE9)) (q_okE (q_E_i hE9) (by decide)) (rf_94_24 (q_E_i hE9)) (by decide) ?_
  refine j_iload d_M_build_150 0 rfl ?_
  refine k_iald (0) 8 d_M_build_152 (tg_108 (q_E_i hE9)) (q_okE (q_E_i hE9) (by decide)) rfl (by decide) (by decide) (h9_108_8) ?_
  refine j_iast 8 d_M_build_153 (tg_106 (q_E_i hE9)) (q_okE (q_E_i hE9) (by decide)) rfl (by decide) (by decide) ?_
  refine j_aload_n d_M_build_154 3 rfl ?_
  refine j_getR 107 f_M_52 d_M_build_155 (tg_94 (q_E_i (q_E_i hE9))) (q_okE (q_E_i (q_E_i hE9)) (by decide)) (rf_94_23 (q_E_i (q_E_i hE9))) (by decide) ?_
  refine j_iload d_M_build_158 0 rfl ?_
  refine j_aload_n d_M_build_160 3 rfl ?_
  refine j_getR 109 f_M_58 d_M_build_161 (tg_94 (q_E_i (q_E_i hE9))) (q_okE (q_E_i (q_E_i hE9)) (by decide)) (rf_94_25 (q_E_i (q_E_i hE9))) (by decide) ?_
  refine j_iload d_M_build_164 0 rfl ?_
  refine k_iald (0) 8 d_M_build_166 (tg_109 (q_E_i (q_E_i hE9))) (q_okE (q_E_i (q_E_i hE9)) (by decide)) rfl (by decide) (by decide) (h9_109_8) ?_
  refine j_iast 8 d_M_build_167 (tg_107 (q_E_i (q_E_i hE9))) (q_okE (q_E_i (q_E_i hE9)) (by decide)) rfl (by decide) (by decide) ?_
  refine j_aload_n d_M_build_168 3 rfl ?_
  refine j_getR 126 f_M_117 d_M_build_169 (tg_94 (q_E_i (q_E_i (q_E_i hE9)))) (q_okE (q_E_i (q_E_i (q_E_i hE9))) (by decide)) (rf_94_57 (q_E_i (q_E_i (q_E_i hE9)))) (by decide) ?_
  refine j_iload d_M_build_172 0 rfl ?_
  refine j_iconst (v := 0) d_M_build_174 (by decide) ?_
  refine j_iast 8 d_M_build_175 (tg_126 (q_E_i (q_E_i (q_E_i hE9)))) (q_okE (q_E_i (q_E_i (q_E_i hE9))) (by decide)) rfl (by decide) (by decide) ?_
  refine j_aload_n d_M_build_176 3 rfl ?_
  refine j_getR 129 f_M_126 d_M_build_177 (tg_94 (q_E_i (q_E_i (q_E_i (q_E_i hE9))))) (q_okE (q_E_i (q_E_i (q_E_i (q_E_i hE9)))) (by decide)) (rf_94_60 (q_E_i (q_E_i (q_E_i (q_E_i hE9))))) (by decide) ?_
  refine j_iload d_M_build_180 0 rfl ?_
  refine j_iconst (v := 0) d_M_build_182 (by decide) ?_
  refine j_iast 8 d_M_build_183 (tg_129 (q_E_i (q_E_i (q_E_i (q_E_i hE9))))) (q_okE (q_E_i (q_E_i (q_E_i (q_E_i hE9)))) (by decide)) rfl (by decide) (by decide) ?_
  refine j_iinc (v := 9) (L' := [(4, .int 9), (2, .long 0), (1, .int (-1)), (0, .ref 94)]) d_M_build_184 0 rfl (by decide) (by decide) rfl ?_
  refine j_goto 133 d_M_build_187 (by decide) ?_
  refine j_iload d_M_build_133 0 rfl ?_
  refine j_bipush (v := 16) d_M_build_135 (by decide) ?_
  refine j_icmp_ge 190 d_M_build_137 (by decide) (fun h => absurd h (by decide)) (fun _ => ?_)
  refine j_aload_n d_M_build_140 3 rfl ?_
  refine j_getR 106 f_M_49 d_M_build_141 (tg_94 (q_E_i (q_E_i (q_E_i (q_E_i (q_E_i hE9)))))) (q_okE (q_E_i (q_E_i (q_E_i (q_E_i (q_E_i hE9))))) (by decide)) (rf_94_22 (q_E_i (q_E_i (q_E_i (q_E_i (q_E_i hE9)))))) (by decide) ?_
  refine j_iload d_M_build_144 0 rfl ?_
  refine j_aload_n d_M_build_146 3 rfl ?_
  refine j_getR 108 f_M_55 d_M_build_147 (tg_94 (q_E_i (q_E_i (q_E_i (q_E_i (q_E_i hE9)))))) (q_okE (q_E_i (q_E_i (q_E_i (q_E_i (q_E_i hE9))))) (by decide)) (rf_94_24 (q_E_i (q_E_i (q_E_i (q_E_i (q_E_i hE9)))))) (by decide) ?_
  refine j_iload d_M_build_150 0 rfl ?_
  refine k_iald (0) 9 d_M_build_152 (tg_108 (q_E_i (q_E_i (q_E_i (q_E_i (q_E_i hE9)))))) (q_okE (q_E_i (q_E_i (q_E_i (q_E_i (q_E_i hE9))))) (by decide)) rfl (by decide) (by decide) (h9_108_9) ?_
  refine j_iast 9 d_M_build_153 (tg_106 (q_E_i (q_E_i (q_E_i (q_E_i (q_E_i hE9)))))) (q_okE (q_E_i (q_E_i (q_E_i (q_E_i (q_E_i hE9))))) (by decide)) rfl (by decide) (by decide) ?_
  refine j_aload_n d_M_build_154 3 rfl ?_
  refine j_getR 107 f_M_52 d_M_build_155 (tg_94 (q_E_i (q_E_i (q_E_i (q_E_i (q_E_i (q_E_i hE9))))))) (q_okE (q_E_i (q_E_i (q_E_i (q_E_i (q_E_i (q_E_i hE9)))))) (by decide)) (rf_94_23 (q_E_i (q_E_i (q_E_i (q_E_i (q_E_i (q_E_i hE9))))))) (by decide) ?_
  refine j_iload d_M_build_158 0 rfl ?_
  refine j_aload_n d_M_build_160 3 rfl ?_
  refine j_getR 109 f_M_58 d_M_build_161 (tg_94 (q_E_i (q_E_i (q_E_i (q_E_i (q_E_i (q_E_i hE9))))))) (q_okE (q_E_i (q_E_i (q_E_i (q_E_i (q_E_i (q_E_i hE9)))))) (by decide)) (rf_94_25 (q_E_i (q_E_i (q_E_i (q_E_i (q_E_i (q_E_i hE9))))))) (by decide) ?_
  refine j_iload d_M_build_164 0 rfl ?_
  refine k_iald (0) 9 d_M_build_166 (tg_109 (q_E_i (q_E_i (q_E_i (q_E_i (q_E_i (q_E_i hE9))))))) (q_okE (q_E_i (q_E_i (q_E_i (q_E_i (q_E_i (q_E_i hE9)))))) (by decide)) rfl (by decide) (by decide) (h9_109_9) ?_
  refine j_iast 9 d_M_build_167 (tg_107 (q_E_i (q_E_i (q_E_i (q_E_i (q_E_i (q_E_i hE9))))))) (q_okE (q_E_i (q_E_i (q_E_i (q_E_i (q_E_i (q_E_i hE9)))))) (by decide)) rfl (by decide) (by decide) ?_
  refine j_aload_n d_M_build_168 3 rfl ?_
  refine j_getR 126 f_M_117 d_M_build_169 (tg_94 (q_E_i (q_E_i (q_E_i (q_E_i (q_E_i (q_E_i (q_E_i hE9)))))))) (q_okE (q_E_i (q_E_i (q_E_i (q_E_i (q_E_i (q_E_i (q_E_i hE9))))))) (by decide)) (rf_94_57 (q_E_i (q_E_i (q_E_i (q_E_i (q_E_i (q_E_i (q_E_i hE9)))))))) (by decide) ?_
  refine j_iload d_M_build_172 0 rfl ?_
  refine j_iconst (v := 0) d_M_build_174 (by decide) ?_
  refine j_iast 9 d_M_build_175 (tg_126 (q_E_i (q_E_i (q_E_i (q_E_i (q_E_i (q_E_i (q_E_i hE9)))))))) (q_okE (q_E_i (q_E_i (q_E_i (q_E_i (q_E_i (q_E_i (q_E_i hE9))))))) (by decide)) rfl (by decide) (by decide) ?_
  refine j_st (fun τ10 eτ10 => ?_)
  have hE10 : q_E τ10 := by rw [eτ10]; exact (q_E_i (q_E_i (q_E_i (q_E_i (q_E_i (q_E_i (q_E_i (q_E_i hE9))))))))
  have h10_94_2 : q_i τ10 94 2 = 0 := by rw [eτ10]; exact h9_94_2
  have h10_108_0 : q_i τ10 108 0 = 0 := by rw [eτ10]; exact h9_108_0
  have h10_108_1 : q_i τ10 108 1 = 0 := by rw [eτ10]; exact h9_108_1
  have h10_108_2 : q_i τ10 108 2 = 0 := by rw [eτ10]; exact h9_108_2
  have h10_108_3 : q_i τ10 108 3 = 0 := by rw [eτ10]; exact h9_108_3
  have h10_108_4 : q_i τ10 108 4 = 0 := by rw [eτ10]; exact h9_108_4
  have h10_108_5 : q_i τ10 108 5 = 0 := by rw [eτ10]; exact h9_108_5
  have h10_108_6 : q_i τ10 108 6 = 0 := by rw [eτ10]; exact h9_108_6
  have h10_108_7 : q_i τ10 108 7 = 0 := by rw [eτ10]; exact h9_108_7
  have h10_108_8 : q_i τ10 108 8 = 0 := by rw [eτ10]; exact h9_108_8
  have h10_108_9 : q_i τ10 108 9 = 0 := by rw [eτ10]; exact h9_108_9
  have h10_108_10 : q_i τ10 108 10 = 0 := by rw [eτ10]; exact h9_108_10
  have h10_108_11 : q_i τ10 108 11 = 0 := by rw [eτ10]; exact h9_108_11
  have h10_108_12 : q_i τ10 108 12 = 0 := by rw [eτ10]; exact h9_108_12
  have h10_108_13 : q_i τ10 108 13 = 0 := by rw [eτ10]; exact h9_108_13
  have h10_108_14 : q_i τ10 108 14 = 0 := by rw [eτ10]; exact h9_108_14
  have h10_108_15 : q_i τ10 108 15 = 0 := by rw [eτ10]; exact h9_108_15
  have h10_109_0 : q_i τ10 109 0 = 0 := by rw [eτ10]; exact h9_109_0
  have h10_109_1 : q_i τ10 109 1 = 0 := by rw [eτ10]; exact h9_109_1
  have h10_109_2 : q_i τ10 109 2 = 0 := by rw [eτ10]; exact h9_109_2
  have h10_109_3 : q_i τ10 109 3 = 0 := by rw [eτ10]; exact h9_109_3
  have h10_109_4 : q_i τ10 109 4 = 0 := by rw [eτ10]; exact h9_109_4
  have h10_109_5 : q_i τ10 109 5 = 0 := by rw [eτ10]; exact h9_109_5
  have h10_109_6 : q_i τ10 109 6 = 0 := by rw [eτ10]; exact h9_109_6
  have h10_109_7 : q_i τ10 109 7 = 0 := by rw [eτ10]; exact h9_109_7
  have h10_109_8 : q_i τ10 109 8 = 0 := by rw [eτ10]; exact h9_109_8
  have h10_109_9 : q_i τ10 109 9 = 0 := by rw [eτ10]; exact h9_109_9
  have h10_109_10 : q_i τ10 109 10 = 0 := by rw [eτ10]; exact h9_109_10
  have h10_109_11 : q_i τ10 109 11 = 0 := by rw [eτ10]; exact h9_109_11
  have h10_109_12 : q_i τ10 109 12 = 0 := by rw [eτ10]; exact h9_109_12
  have h10_109_13 : q_i τ10 109 13 = 0 := by rw [eτ10]; exact h9_109_13
  have h10_109_14 : q_i τ10 109 14 = 0 := by rw [eτ10]; exact h9_109_14
  have h10_109_15 : q_i τ10 109 15 = 0 := by rw [eτ10]; exact h9_109_15
  have h10_96_0 : q_i τ10 96 0 = 273 := by rw [eτ10]; exact h9_96_0
  have h10_94_18 : q_i τ10 94 18 = 0 := by rw [eτ10]; exact h9_94_18
  have h10_94_19 : q_i τ10 94 19 = 0 := by rw [eτ10]; exact h9_94_19
  have h10_94_20 : q_i τ10 94 20 = 0 := by rw [eτ10]; exact h9_94_20
  have h10_94_21 : q_i τ10 94 21 = 0 := by rw [eτ10]; exact h9_94_21
  have h10_94_48 : q_i τ10 94 48 = 0 := by rw [eτ10]; exact h9_94_48
  have h10_94_28 : q_i τ10 94 28 = 0 := by rw [eτ10]; exact h9_94_28
  have r10_94_32 : q_r τ10 94 32 = 116 := by rw [eτ10]; exact r9_94_32
  have r10_94_38 : q_r τ10 94 38 = 110 := by rw [eτ10]; exact r9_94_38
  have r10_94_33 : q_r τ10 94 33 = 117 := by rw [eτ10]; exact r9_94_33
  have r10_94_39 : q_r τ10 94 39 = 111 := by rw [eτ10]; exact r9_94_39
  have r10_94_34 : q_r τ10 94 34 = 118 := by rw [eτ10]; exact r9_94_34
  have r10_94_40 : q_r τ10 94 40 = 112 := by rw [eτ10]; exact r9_94_40
  have r10_94_35 : q_r τ10 94 35 = 119 := by rw [eτ10]; exact r9_94_35
  have r10_94_41 : q_r τ10 94 41 = 113 := by rw [eτ10]; exact r9_94_41
  have r10_94_36 : q_r τ10 94 36 = 120 := by rw [eτ10]; exact r9_94_36
  have r10_94_42 : q_r τ10 94 42 = 114 := by rw [eτ10]; exact r9_94_42
  have r10_94_37 : q_r τ10 94 37 = 121 := by rw [eτ10]; exact r9_94_37
  have r10_94_43 : q_r τ10 94 43 = 115 := by rw [eτ10]; exact r9_94_43
  refine j_aload_n d_M_build_176 3 rfl ?_
  refine j_getR 129 f_M_126 d_M_build_177 (tg_94 hE10) (q_okE hE10 (by decide)) (rf_94_60 hE10) (by decide) ?_
  refine j_iload d_M_build_180 0 rfl ?_
  refine j_iconst (v := 0) d_M_build_182 (by decide) ?_
  refine j_iast 9 d_M_build_183 (tg_129 hE10) (q_okE hE10 (by decide)) rfl (by decide) (by decide) ?_
  refine j_iinc (v := 10) (L' := [(4, .int 10), (2, .long 0), (1, .int (-1)), (0, .ref 94)]) d_M_build_184 0 rfl (by decide) (by decide) rfl ?_
  refine j_goto 133 d_M_build_187 (by decide) ?_
  refine j_iload d_M_build_133 0 rfl ?_
  refine j_bipush (v := 16) d_M_build_135 (by decide) ?_
  refine j_icmp_ge 190 d_M_build_137 (by decide) (fun h => absurd h (by decide)) (fun _ => ?_)
  refine j_aload_n d_M_build_140 3 rfl ?_
  refine j_getR 106 f_M_49 d_M_build_141 (tg_94 (q_E_i hE10)) (q_okE (q_E_i hE10) (by decide)) (rf_94_22 (q_E_i hE10)) (by decide) ?_
  refine j_iload d_M_build_144 0 rfl ?_
  refine j_aload_n d_M_build_146 3 rfl ?_
  refine j_getR 108 f_M_55 d_M_build_147 (tg_94 (q_E_i hE10)) (q_okE (q_E_i hE10) (by decide)) (rf_94_24 (q_E_i hE10)) (by decide) ?_
  refine j_iload d_M_build_150 0 rfl ?_
  refine k_iald (0) 10 d_M_build_152 (tg_108 (q_E_i hE10)) (q_okE (q_E_i hE10) (by decide)) rfl (by decide) (by decide) (h10_108_10) ?_
  refine j_iast 10 d_M_build_153 (tg_106 (q_E_i hE10)) (q_okE (q_E_i hE10) (by decide)) rfl (by decide) (by decide) ?_
  refine j_aload_n d_M_build_154 3 rfl ?_
  refine j_getR 107 f_M_52 d_M_build_155 (tg_94 (q_E_i (q_E_i hE10))) (q_okE (q_E_i (q_E_i hE10)) (by decide)) (rf_94_23 (q_E_i (q_E_i hE10))) (by decide) ?_
  refine j_iload d_M_build_158 0 rfl ?_
  refine j_aload_n d_M_build_160 3 rfl ?_
  refine j_getR 109 f_M_58 d_M_build_161 (tg_94 (q_E_i (q_E_i hE10))) (q_okE (q_E_i (q_E_i hE10)) (by decide)) (rf_94_25 (q_E_i (q_E_i hE10))) (by decide) ?_
  refine j_iload d_M_build_164 0 rfl ?_
  refine k_iald (0) 10 d_M_build_166 (tg_109 (q_E_i (q_E_i hE10))) (q_okE (q_E_i (q_E_i hE10)) (by decide)) rfl (by decide) (by decide) (h10_109_10) ?_
  refine j_iast 10 d_M_build_167 (tg_107 (q_E_i (q_E_i hE10))) (q_okE (q_E_i (q_E_i hE10)) (by decide)) rfl (by decide) (by decide) ?_
  refine j_aload_n d_M_build_168 3 rfl ?_
  refine j_getR 126 f_M_117 d_M_build_169 (tg_94 (q_E_i (q_E_i (q_E_i hE10)))) (q_okE (q_E_i (q_E_i (q_E_i hE10))) (by decide)) (rf_94_57 (q_E_i (q_E_i (q_E_i hE10)))) (by decide) ?_
  refine j_iload d_M_build_172 0 rfl ?_
  refine j_iconst (v := 0) d_M_build_174 (by decide) ?_
  refine j_iast 10 d_M_build_175 (tg_126 (q_E_i (q_E_i (q_E_i hE10)))) (q_okE (q_E_i (q_E_i (q_E_i hE10))) (by decide)) rfl (by decide) (by decide) ?_
  refine j_aload_n d_M_build_176 3 rfl ?_
  refine j_getR 129 f_M_126 d_M_build_177 (tg_94 (q_E_i (q_E_i (q_E_i (q_E_i hE10))))) (q_okE (q_E_i (q_E_i (q_E_i (q_E_i hE10)))) (by decide)) (rf_94_60 (q_E_i (q_E_i (q_E_i (q_E_i hE10))))) (by decide) ?_
  refine j_iload d_M_build_180 0 rfl ?_
  refine j_iconst (v := 0) d_M_build_182 (by decide) ?_
  refine j_iast 10 d_M_build_183 (tg_129 (q_E_i (q_E_i (q_E_i (q_E_i hE10))))) (q_okE (q_E_i (q_E_i (q_E_i (q_E_i hE10)))) (by decide)) rfl (by decide) (by decide) ?_
  refine j_iinc (v := 11) (L' := [(4, .int 11), (2, .long 0), (1, .int (-1)), (0, .ref 94)]) d_M_build_184 0 rfl (by decide) (by decide) rfl ?_
  refine j_goto 133 d_M_build_187 (by decide) ?_
  refine j_iload d_M_build_133 0 rfl ?_
  refine j_bipush (v := 16) d_M_build_135 (by decide) ?_
  refine j_icmp_ge 190 d_M_build_137 (by decide) (fun h => absurd h (by decide)) (fun _ => ?_)
  refine j_aload_n d_M_build_140 3 rfl ?_
  refine j_getR 106 f_M_49 d_M_build_141 (tg_94 (q_E_i (q_E_i (q_E_i (q_E_i (q_E_i hE10)))))) (q_okE (q_E_i (q_E_i (q_E_i (q_E_i (q_E_i hE10))))) (by decide)) (rf_94_22 (q_E_i (q_E_i (q_E_i (q_E_i (q_E_i hE10)))))) (by decide) ?_
  refine j_iload d_M_build_144 0 rfl ?_
  refine j_aload_n d_M_build_146 3 rfl ?_
  refine j_getR 108 f_M_55 d_M_build_147 (tg_94 (q_E_i (q_E_i (q_E_i (q_E_i (q_E_i hE10)))))) (q_okE (q_E_i (q_E_i (q_E_i (q_E_i (q_E_i hE10))))) (by decide)) (rf_94_24 (q_E_i (q_E_i (q_E_i (q_E_i (q_E_i hE10)))))) (by decide) ?_
  refine j_iload d_M_build_150 0 rfl ?_
  refine k_iald (0) 11 d_M_build_152 (tg_108 (q_E_i (q_E_i (q_E_i (q_E_i (q_E_i hE10)))))) (q_okE (q_E_i (q_E_i (q_E_i (q_E_i (q_E_i hE10))))) (by decide)) rfl (by decide) (by decide) (h10_108_11) ?_
  refine j_iast 11 d_M_build_153 (tg_106 (q_E_i (q_E_i (q_E_i (q_E_i (q_E_i hE10)))))) (q_okE (q_E_i (q_E_i (q_E_i (q_E_i (q_E_i hE10))))) (by decide)) rfl (by decide) (by decide) ?_
  refine j_aload_n d_M_build_154 3 rfl ?_
  refine j_getR 107 f_M_52 d_M_build_155 (tg_94 (q_E_i (q_E_i (q_E_i (q_E_i (q_E_i (q_E_i hE10))))))) (q_okE (q_E_i (q_E_i (q_E_i (q_E_i (q_E_i (q_E_i hE10)))))) (by decide)) (rf_94_23 (q_E_i (q_E_i (q_E_i (q_E_i (q_E_i (q_E_i hE10))))))) (by decide) ?_
  refine j_iload d_M_build_158 0 rfl ?_
  refine j_aload_n d_M_build_160 3 rfl ?_
  refine j_getR 109 f_M_58 d_M_build_161 (tg_94 (q_E_i (q_E_i (q_E_i (q_E_i (q_E_i (q_E_i hE10))))))) (q_okE (q_E_i (q_E_i (q_E_i (q_E_i (q_E_i (q_E_i hE10)))))) (by decide)) (rf_94_25 (q_E_i (q_E_i (q_E_i (q_E_i (q_E_i (q_E_i hE10))))))) (by decide) ?_
  refine j_iload d_M_build_164 0 rfl ?_
  refine k_iald (0) 11 d_M_build_166 (tg_109 (q_E_i (q_E_i (q_E_i (q_E_i (q_E_i (q_E_i hE10))))))) (q_okE (q_E_i (q_E_i (q_E_i (q_E_i (q_E_i (q_E_i hE10)))))) (by decide)) rfl (by decide) (by decide) (h10_109_11) ?_
  refine j_iast 11 d_M_build_167 (tg_107 (q_E_i (q_E_i (q_E_i (q_E_i (q_E_i (q_E_i hE10))))))) (q_okE (q_E_i (q_E_i (q_E_i (q_E_i (q_E_i (q_E_i hE10)))))) (by decide)) rfl (by decide) (by decide) ?_
  refine j_aload_n d_M_build_168 3 rfl ?_
  refine j_getR 126 f_M_117 d_M_build_169 (tg_94 (q_E_i (q_E_i (q_E_i (q_E_i (q_E_i (q_E_i (q_E_i hE10)))))))) (q_okE (q_E_i (q_E_i (q_E_i (q_E_i (q_E_i (q_E_i (q_E_i hE10))))))) (by decide)) (rf_94_57 (q_E_i (q_E_i (q_E_i (q_E_i (q_E_i (q_E_i (q_E_i hE10)))))))) (by decide) ?_
  refine j_iload d_M_build_172 0 rfl ?_
  refine j_iconst (v := 0) d_M_build_174 (by decide) ?_
  refine j_iast 11 d_M_build_175 (tg_126 (q_E_i (q_E_i (q_E_i (q_E_i (q_E_i (q_E_i (q_E_i hE10)))))))) (q_okE (q_E_i (q_E_i (q_E_i (q_E_i (q_E_i (q_E_i (q_E_i hE10))))))) (by decide)) rfl (by decide) (by decide) ?_
  refine j_st (fun τ11 eτ11 => ?_)
  have hE11 : q_E τ11 := by rw [eτ11]; exact (q_E_i (q_E_i (q_E_i (q_E_i (q_E_i (q_E_i (q_E_i (q_E_i hE10))))))))
  have h11_94_2 : q_i τ11 94 2 = 0 := by rw [eτ11]; exact h10_94_2
  have h11_108_0 : q_i τ11 108 0 = 0 := by rw [eτ11]; exact h10_108_0
  have h11_108_1 : q_i τ11 108 1 = 0 := by rw [eτ11]; exact h10_108_1
  have h11_108_2 : q_i τ11 108 2 = 0 := by rw [eτ11]; exact h10_108_2
  have h11_108_3 : q_i τ11 108 3 = 0 := by rw [eτ11]; exact h10_108_3
  have h11_108_4 : q_i τ11 108 4 = 0 := by rw [eτ11]; exact h10_108_4
  have h11_108_5 : q_i τ11 108 5 = 0 := by rw [eτ11]; exact h10_108_5
  have h11_108_6 : q_i τ11 108 6 = 0 := by rw [eτ11]; exact h10_108_6
  have h11_108_7 : q_i τ11 108 7 = 0 := by rw [eτ11]; exact h10_108_7
  have h11_108_8 : q_i τ11 108 8 = 0 := by rw [eτ11]; exact h10_108_8
  have h11_108_9 : q_i τ11 108 9 = 0 := by rw [eτ11]; exact h10_108_9
  have h11_108_10 : q_i τ11 108 10 = 0 := by rw [eτ11]; exact h10_108_10
  have h11_108_11 : q_i τ11 108 11 = 0 := by rw [eτ11]; exact h10_108_11
  have h11_108_12 : q_i τ11 108 12 = 0 := by rw [eτ11]; exact h10_108_12
  have h11_108_13 : q_i τ11 108 13 = 0 := by rw [eτ11]; exact h10_108_13
  have h11_108_14 : q_i τ11 108 14 = 0 := by rw [eτ11]; exact h10_108_14
  have h11_108_15 : q_i τ11 108 15 = 0 := by rw [eτ11]; exact h10_108_15
  have h11_109_0 : q_i τ11 109 0 = 0 := by rw [eτ11]; exact h10_109_0
  have h11_109_1 : q_i τ11 109 1 = 0 := by rw [eτ11]; exact h10_109_1
  have h11_109_2 : q_i τ11 109 2 = 0 := by rw [eτ11]; exact h10_109_2
  have h11_109_3 : q_i τ11 109 3 = 0 := by rw [eτ11]; exact h10_109_3
  have h11_109_4 : q_i τ11 109 4 = 0 := by rw [eτ11]; exact h10_109_4
  have h11_109_5 : q_i τ11 109 5 = 0 := by rw [eτ11]; exact h10_109_5
  have h11_109_6 : q_i τ11 109 6 = 0 := by rw [eτ11]; exact h10_109_6
  have h11_109_7 : q_i τ11 109 7 = 0 := by rw [eτ11]; exact h10_109_7
  have h11_109_8 : q_i τ11 109 8 = 0 := by rw [eτ11]; exact h10_109_8
  have h11_109_9 : q_i τ11 109 9 = 0 := by rw [eτ11]; exact h10_109_9
  have h11_109_10 : q_i τ11 109 10 = 0 := by rw [eτ11]; exact h10_109_10
  have h11_109_11 : q_i τ11 109 11 = 0 := by rw [eτ11]; exact h10_109_11
  have h11_109_12 : q_i τ11 109 12 = 0 := by rw [eτ11]; exact h10_109_12
  have h11_109_13 : q_i τ11 109 13 = 0 := by rw [eτ11]; exact h10_109_13
  have h11_109_14 : q_i τ11 109 14 = 0 := by rw [eτ11]; exact h10_109_14
  have h11_109_15 : q_i τ11 109 15 = 0 := by rw [eτ11]; exact h10_109_15
  have h11_96_0 : q_i τ11 96 0 = 273 := by rw [eτ11]; exact h10_96_0
  have h11_94_18 : q_i τ11 94 18 = 0 := by rw [eτ11]; exact h10_94_18
  have h11_94_19 : q_i τ11 94 19 = 0 := by rw [eτ11]; exact h10_94_19
  have h11_94_20 : q_i τ11 94 20 = 0 := by rw [eτ11]; exact h10_94_20
  have h11_94_21 : q_i τ11 94 21 = 0 := by rw [eτ11]; exact h10_94_21
  have h11_94_48 : q_i τ11 94 48 = 0 := by rw [eτ11]; exact h10_94_48
  have h11_94_28 : q_i τ11 94 28 = 0 := by rw [eτ11]; exact h10_94_28
  have r11_94_32 : q_r τ11 94 32 = 116 := by rw [eτ11]; exact r10_94_32
  have r11_94_38 : q_r τ11 94 38 = 110 := by rw [eτ11]; exact r10_94_38
  have r11_94_33 : q_r τ11 94 33 = 117 := by rw [eτ11]; exact r10_94_33
  have r11_94_39 : q_r τ11 94 39 = 111 := by rw [eτ11]; exact r10_94_39
  have r11_94_34 : q_r τ11 94 34 = 118 := by rw [eτ11]; exact r10_94_34
  have r11_94_40 : q_r τ11 94 40 = 112 := by rw [eτ11]; exact r10_94_40
  have r11_94_35 : q_r τ11 94 35 = 119 := by rw [eτ11]; exact r10_94_35
  have r11_94_41 : q_r τ11 94 41 = 113 := by rw [eτ11]; exact r10_94_41
  have r11_94_36 : q_r τ11 94 36 = 120 := by rw [eτ11]; exact r10_94_36
  have r11_94_42 : q_r τ11 94 42 = 114 := by rw [eτ11]; exact r10_94_42
  have r11_94_37 : q_r τ11 94 37 = 121 := by rw [eτ11]; exact r10_94_37
  have r11_94_43 : q_r τ11 94 43 = 115 := by rw [eτ11]; exact r10_94_43
  refine j_aload_n d_M_build_176 3 rfl ?_
  refine j_getR 129 f_M_126 d_M_build_177 (tg_94 hE11) (q_okE hE11 (by decide)) (rf_94_60 hE11) (by decide) ?_
  refine j_iload d_M_build_180 0 rfl ?_
  refine j_iconst (v := 0) d_M_build_182 (by decide) ?_
  refine j_iast 11 d_M_build_183 (tg_129 hE11) (q_okE hE11 (by decide)) rfl (by decide) (by decide) ?_
  refine j_iinc (v := 12) (L' := [(4, .int 12), (2, .long 0), (1, .int (-1)), (0, .ref 94)]) d_M_build_184 0 rfl (by decide) (by decide) rfl ?_
  refine j_goto 133 d_M_build_187 (by decide) ?_
  refine j_iload d_M_build_133 0 rfl ?_
  refine j_bipush (v := 16) d_M_build_135 (by decide) ?_
  refine j_icmp_ge 190 d_M_build_137 (by decide) (fun h => absurd h (by decide)) (fun _ => ?_)
  refine j_aload_n d_M_build_140 3 rfl ?_
  refine j_getR 106 f_M_49 d_M_build_141 (tg_94 (q_E_i hE11)) (q_okE (q_E_i hE11) (by decide)) (rf_94_22 (q_E_i hE11)) (by decide) ?_
  refine j_iload d_M_build_144 0 rfl ?_
  refine j_aload_n d_M_build_146 3 rfl ?_
  refine j_getR 108 f_M_55 d_M_build_147 (tg_94 (q_E_i hE11)) (q_okE (q_E_i hE11) (by decide)) (rf_94_24 (q_E_i hE11)) (by decide) ?_
  refine j_iload d_M_build_150 0 rfl ?_
  refine k_iald (0) 12 d_M_build_152 (tg_108 (q_E_i hE11)) (q_okE (q_E_i hE11) (by decide)) rfl (by decide) (by decide) (h11_108_12) ?_
  refine j_iast 12 d_M_build_153 (tg_106 (q_E_i hE11)) (q_okE (q_E_i hE11) (by decide)) rfl (by decide) (by decide) ?_
  refine j_aload_n d_M_build_154 3 rfl ?_
  refine j_getR 107 f_M_52 d_M_build_155 (tg_94 (q_E_i (q_E_i hE11))) (q_okE (q_E_i (q_E_i hE11)) (by decide)) (rf_94_23 (q_E_i (q_E_i hE11))) (by decide) ?_
  refine j_iload d_M_build_158 0 rfl ?_
  refine j_aload_n d_M_build_160 3 rfl ?_
  refine j_getR 109 f_M_58 d_M_build_161 (tg_94 (q_E_i (q_E_i hE11))) (q_okE (q_E_i (q_E_i hE11)) (by decide)) (rf_94_25 (q_E_i (q_E_i hE11))) (by decide) ?_
  refine j_iload d_M_build_164 0 rfl ?_
  refine k_iald (0) 12 d_M_build_166 (tg_109 (q_E_i (q_E_i hE11))) (q_okE (q_E_i (q_E_i hE11)) (by decide)) rfl (by decide) (by decide) (h11_109_12) ?_
  refine j_iast 12 d_M_build_167 (tg_107 (q_E_i (q_E_i hE11))) (q_okE (q_E_i (q_E_i hE11)) (by decide)) rfl (by decide) (by decide) ?_
  refine j_aload_n d_M_build_168 3 rfl ?_
  refine j_getR 126 f_M_117 d_M_build_169 (tg_94 (q_E_i (q_E_i (q_E_i hE11)))) (q_okE (q_E_i (q_E_i (q_E_i hE11))) (by decide)) (rf_94_57 (q_E_i (q_E_i (q_E_i hE11)))) (by decide) ?_
  refine j_iload d_M_build_172 0 rfl ?_
  refine j_iconst (v := 0) d_M_build_174 (by decide) ?_
  refine j_iast 12 d_M_build_175 (tg_126 (q_E_i (q_E_i (q_E_i hE11)))) (q_okE (q_E_i (q_E_i (q_E_i hE11))) (by decide)) rfl (by decide) (by decide) ?_
  refine j_aload_n d_M_build_176 3 rfl ?_
  refine j_getR 129 f_M_126 d_M_build_177 (tg_94 (q_E_i (q_E_i (q_E_i (q_E_i hE11))))) (q_okE (q_E_i (q_E_i (q_E_i (q_E_i hE11)))) (by decide)) (rf_94_60 (q_E_i (q_E_i (q_E_i (q_E_i hE11))))) (by decide) ?_
  refine j_iload d_M_build_180 0 rfl ?_
  refine j_iconst (v := 0) d_M_build_182 (by decide) ?_
  refine j_iast 12 d_M_build_183 (tg_129 (q_E_i (q_E_i (q_E_i (q_E_i hE11))))) (q_okE (q_E_i (q_E_i (q_E_i (q_E_i hE11)))) (by decide)) rfl (by decide) (by decide) ?_
  refine j_iinc (v := 13) (L' := [(4, .int 13), (2, .long 0), (1, .int (-1)), (0, .ref 94)]) d_M_build_184 0 rfl (by decide) (by decide) rfl ?_
  refine j_goto 133 d_M_build_187 (by decide) ?_
  refine j_iload d_M_build_133 0 rfl ?_
  refine j_bipush (v := 16) d_M_build_135 (by decide) ?_
  refine j_icmp_ge 190 d_M_build_137 (by decide) (fun h => absurd h (by decide)) (fun _ => ?_)
  refine j_aload_n d_M_build_140 3 rfl ?_
  refine j_getR 106 f_M_49 d_M_build_141 (tg_94 (q_E_i (q_E_i (q_E_i (q_E_i (q_E_i hE11)))))) (q_okE (q_E_i (q_E_i (q_E_i (q_E_i (q_E_i hE11))))) (by decide)) (rf_94_22 (q_E_i (q_E_i (q_E_i (q_E_i (q_E_i hE11)))))) (by decide) ?_
  refine j_iload d_M_build_144 0 rfl ?_
  refine j_aload_n d_M_build_146 3 rfl ?_
  refine j_getR 108 f_M_55 d_M_build_147 (tg_94 (q_E_i (q_E_i (q_E_i (q_E_i (q_E_i hE11)))))) (q_okE (q_E_i (q_E_i (q_E_i (q_E_i (q_E_i hE11))))) (by decide)) (rf_94_24 (q_E_i (q_E_i (q_E_i (q_E_i (q_E_i hE11)))))) (by decide) ?_
  refine j_iload d_M_build_150 0 rfl ?_
  refine k_iald (0) 13 d_M_build_152 (tg_108 (q_E_i (q_E_i (q_E_i (q_E_i (q_E_i hE11)))))) (q_okE (q_E_i (q_E_i (q_E_i (q_E_i (q_E_i hE11))))) (by decide)) rfl (by decide) (by decide) (h11_108_13) ?_
  refine j_iast 13 d_M_build_153 (tg_106 (q_E_i (q_E_i (q_E_i (q_E_i (q_E_i hE11)))))) (q_okE (q_E_i (q_E_i (q_E_i (q_E_i (q_E_i hE11))))) (by decide)) rfl (by decide) (by decide) ?_
  refine j_aload_n d_M_build_154 3 rfl ?_
  refine j_getR 107 f_M_52 d_M_build_155 (tg_94 (q_E_i (q_E_i (q_E_i (q_E_i (q_E_i (q_E_i hE11))))))) (q_okE (q_E_i (q_E_i (q_E_i (q_E_i (q_E_i (q_E_i hE11)))))) (by decide)) (rf_94_23 (q_E_i (q_E_i (q_E_i (q_E_i (q_E_i (q_E_i hE11))))))) (by decide) ?_
  refine j_iload d_M_build_158 0 rfl ?_
  refine j_aload_n d_M_build_160 3 rfl ?_
  refine j_getR 109 f_M_58 d_M_build_161 (tg_94 (q_E_i (q_E_i (q_E_i (q_E_i (q_E_i (q_E_i hE11))))))) (q_okE (q_E_i (q_E_i (q_E_i (q_E_i (q_E_i (q_E_i hE11)))))) (by decide)) (rf_94_25 (q_E_i (q_E_i (q_E_i (q_E_i (q_E_i (q_E_i hE11))))))) (by decide) ?_
  refine j_iload d_M_build_164 0 rfl ?_
  refine k_iald (0) 13 d_M_build_166 (tg_109 (q_E_i (q_E_i (q_E_i (q_E_i (q_E_i (q_E_i hE11))))))) (q_okE (q_E_i (q_E_i (q_E_i (q_E_i (q_E_i (q_E_i hE11)))))) (by decide)) rfl (by decide) (by decide) (h11_109_13) ?_
  refine j_iast 13 d_M_build_167 (tg_107 (q_E_i (q_E_i (q_E_i (q_E_i (q_E_i (q_E_i hE11))))))) (q_okE (q_E_i (q_E_i (q_E_i (q_E_i (q_E_i (q_E_i hE11)))))) (by decide)) rfl (by decide) (by decide) ?_
  refine j_aload_n d_M_build_168 3 rfl ?_
  refine j_getR 126 f_M_117 d_M_build_169 (tg_94 (q_E_i (q_E_i (q_E_i (q_E_i (q_E_i (q_E_i (q_E_i hE11)))))))) (q_okE (q_E_i (q_E_i (q_E_i (q_E_i (q_E_i (q_E_i (q_E_i hE11))))))) (by decide)) (rf_94_57 (q_E_i (q_E_i (q_E_i (q_E_i (q_E_i (q_E_i (q_E_i hE11)))))))) (by decide) ?_
  refine j_iload d_M_build_172 0 rfl ?_
  refine j_iconst (v := 0) d_M_build_174 (by decide) ?_
  refine j_iast 13 d_M_build_175 (tg_126 (q_E_i (q_E_i (q_E_i (q_E_i (q_E_i (q_E_i (q_E_i hE11)))))))) (q_okE (q_E_i (q_E_i (q_E_i (q_E_i (q_E_i (q_E_i (q_E_i hE11))))))) (by decide)) rfl (by decide) (by decide) ?_
  refine j_st (fun τ12 eτ12 => ?_)
  have hE12 : q_E τ12 := by rw [eτ12]; exact (q_E_i (q_E_i (q_E_i (q_E_i (q_E_i (q_E_i (q_E_i (q_E_i hE11))))))))
  have h12_94_2 : q_i τ12 94 2 = 0 := by rw [eτ12]; exact h11_94_2
  have h12_108_0 : q_i τ12 108 0 = 0 := by rw [eτ12]; exact h11_108_0
  have h12_108_1 : q_i τ12 108 1 = 0 := by rw [eτ12]; exact h11_108_1
  have h12_108_2 : q_i τ12 108 2 = 0 := by rw [eτ12]; exact h11_108_2
  have h12_108_3 : q_i τ12 108 3 = 0 := by rw [eτ12]; exact h11_108_3
  have h12_108_4 : q_i τ12 108 4 = 0 := by rw [eτ12]; exact h11_108_4
  have h12_108_5 : q_i τ12 108 5 = 0 := by rw [eτ12]; exact h11_108_5
  have h12_108_6 : q_i τ12 108 6 = 0 := by rw [eτ12]; exact h11_108_6
  have h12_108_7 : q_i τ12 108 7 = 0 := by rw [eτ12]; exact h11_108_7
  have h12_108_8 : q_i τ12 108 8 = 0 := by rw [eτ12]; exact h11_108_8
  have h12_108_9 : q_i τ12 108 9 = 0 := by rw [eτ12]; exact h11_108_9
  have h12_108_10 : q_i τ12 108 10 = 0 := by rw [eτ12]; exact h11_108_10
  have h12_108_11 : q_i τ12 108 11 = 0 := by rw [eτ12]; exact h11_108_11
  have h12_108_12 : q_i τ12 108 12 = 0 := by rw [eτ12]; exact h11_108_12
  have h12_108_13 : q_i τ12 108 13 = 0 := by rw [eτ12]; exact h11_108_13
  have h12_108_14 : q_i τ12 108 14 = 0 := by rw [eτ12]; exact h11_108_14
  have h12_108_15 : q_i τ12 108 15 = 0 := by rw [eτ12]; exact h11_108_15
  have h12_109_0 : q_i τ12 109 0 = 0 := by rw [eτ12]; exact h11_109_0
  have h12_109_1 : q_i τ12 109 1 = 0 := by rw [eτ12]; exact h11_109_1
  have h12_109_2 : q_i τ12 109 2 = 0 := by rw [eτ12]; exact h11_109_2
  have h12_109_3 : q_i τ12 109 3 = 0 := by rw [eτ12]; exact h11_109_3
  have h12_109_4 : q_i τ12 109 4 = 0 := by rw [eτ12]; exact h11_109_4
  have h12_109_5 : q_i τ12 109 5 = 0 := by rw [eτ12]; exact h11_109_5
  have h12_109_6 : q_i τ12 109 6 = 0 := by rw [eτ12]; exact h11_109_6
  have h12_109_7 : q_i τ12 109 7 = 0 := by rw [eτ12]; exact h11_109_7
  have h12_109_8 : q_i τ12 109 8 = 0 := by rw [eτ12]; exact h11_109_8
  have h12_109_9 : q_i τ12 109 9 = 0 := by rw [eτ12]; exact h11_109_9
  have h12_109_10 : q_i τ12 109 10 = 0 := by rw [eτ12]; exact h11_109_10
  have h12_109_11 : q_i τ12 109 11 = 0 := by rw [eτ12]; exact h11_109_11
  have h12_109_12 : q_i τ12 109 12 = 0 := by rw [eτ12]; exact h11_109_12
  have h12_109_13 : q_i τ12 109 13 = 0 := by rw [eτ12]; exact h11_109_13
  have h12_109_14 : q_i τ12 109 14 = 0 := by rw [eτ12]; exact h11_109_14
  have h12_109_15 : q_i τ12 109 15 = 0 := by rw [eτ12]; exact h11_109_15
  have h12_96_0 : q_i τ12 96 0 = 273 := by rw [eτ12]; exact h11_96_0
  have h12_94_18 : q_i τ12 94 18 = 0 := by rw [eτ12]; exact h11_94_18
  have h12_94_19 : q_i τ12 94 19 = 0 := by rw [eτ12]; exact h11_94_19
  have h12_94_20 : q_i τ12 94 20 = 0 := by rw [eτ12]; exact h11_94_20
  have h12_94_21 : q_i τ12 94 21 = 0 := by rw [eτ12]; exact h11_94_21
  have h12_94_48 : q_i τ12 94 48 = 0 := by rw [eτ12]; exact h11_94_48
  have h12_94_28 : q_i τ12 94 28 = 0 := by rw [eτ12]; exact h11_94_28
  have r12_94_32 : q_r τ12 94 32 = 116 := by rw [eτ12]; exact r11_94_32
  have r12_94_38 : q_r τ12 94 38 = 110 := by rw [eτ12]; exact r11_94_38
  have r12_94_33 : q_r τ12 94 33 = 117 := by rw [eτ12]; exact r11_94_33
  have r12_94_39 : q_r τ12 94 39 = 111 := by rw [eτ12]; exact r11_94_39
  have r12_94_34 : q_r τ12 94 34 = 118 := by rw [eτ12]; exact r11_94_34
  have r12_94_40 : q_r τ12 94 40 = 112 := by rw [eτ12]; exact r11_94_40
  have r12_94_35 : q_r τ12 94 35 = 119 := by rw [eτ12]; exact r11_94_35
  have r12_94_41 : q_r τ12 94 41 = 113 := by rw [eτ12]; exact r11_94_41
  have r12_94_36 : q_r τ12 94 36 = 120 := by rw [eτ12]; exact r11_94_36
  have r12_94_42 : q_r τ12 94 42 = 114 := by rw [eτ12]; exact r11_94_42
  have r12_94_37 : q_r τ12 94 37 = 121 := by rw [eτ12]; exact r11_94_37
  have r12_94_43 : q_r τ12 94 43 = 115 := by rw [eτ12]; exact r11_94_43
  refine j_aload_n d_M_build_176 3 rfl ?_
  refine j_getR 129 f_M_126 d_M_build_177 (tg_94 hE12) (q_okE hE12 (by decide)) (rf_94_60 hE12) (by decide) ?_
  refine j_iload d_M_build_180 0 rfl ?_
  refine j_iconst (v := 0) d_M_build_182 (by decide) ?_
  refine j_iast 13 d_M_build_183 (tg_129 hE12) (q_okE hE12 (by decide)) rfl (by decide) (by decide) ?_
  refine j_iinc (v := 14) (L' := [(4, .int 14), (2, .long 0), (1, .int (-1)), (0, .ref 94)]) d_M_build_184 0 rfl (by decide) (by decide) rfl ?_
  refine j_goto 133 d_M_build_187 (by decide) ?_
  refine j_iload d_M_build_133 0 rfl ?_
  refine j_bipush (v := 16) d_M_build_135 (by decide) ?_
  refine j_icmp_ge 190 d_M_build_137 (by decide) (fun h => absurd h (by decide)) (fun _ => ?_)
  refine j_aload_n d_M_build_140 3 rfl ?_
  refine j_getR 106 f_M_49 d_M_build_141 (tg_94 (q_E_i hE12)) (q_okE (q_E_i hE12) (by decide)) (rf_94_22 (q_E_i hE12)) (by decide) ?_
  refine j_iload d_M_build_144 0 rfl ?_
  refine j_aload_n d_M_build_146 3 rfl ?_
  refine j_getR 108 f_M_55 d_M_build_147 (tg_94 (q_E_i hE12)) (q_okE (q_E_i hE12) (by decide)) (rf_94_24 (q_E_i hE12)) (by decide) ?_
  refine j_iload d_M_build_150 0 rfl ?_
  refine k_iald (0) 14 d_M_build_152 (tg_108 (q_E_i hE12)) (q_okE (q_E_i hE12) (by decide)) rfl (by decide) (by decide) (h12_108_14) ?_
  refine j_iast 14 d_M_build_153 (tg_106 (q_E_i hE12)) (q_okE (q_E_i hE12) (by decide)) rfl (by decide) (by decide) ?_
  refine j_aload_n d_M_build_154 3 rfl ?_
  refine j_getR 107 f_M_52 d_M_build_155 (tg_94 (q_E_i (q_E_i hE12))) (q_okE (q_E_i (q_E_i hE12)) (by decide)) (rf_94_23 (q_E_i (q_E_i hE12))) (by decide) ?_
  refine j_iload d_M_build_158 0 rfl ?_
  refine j_aload_n d_M_build_160 3 rfl ?_
  refine j_getR 109 f_M_58 d_M_build_161 (tg_94 (q_E_i (q_E_i hE12))) (q_okE (q_E_i (q_E_i hE12)) (by decide)) (rf_94_25 (q_E_i (q_E_i hE12))) (by decide) ?_
  refine j_iload d_M_build_164 0 rfl ?_
  refine k_iald (0) 14 d_M_build_166 (tg_109 (q_E_i (q_E_i hE12))) (q_okE (q_E_i (q_E_i hE12)) (by decide)) rfl (by decide) (by decide) (h12_109_14) ?_
  refine j_iast 14 d_M_build_167 (tg_107 (q_E_i (q_E_i hE12))) (q_okE (q_E_i (q_E_i hE12)) (by decide)) rfl (by decide) (by decide) ?_
  refine j_aload_n d_M_build_168 3 rfl ?_
  refine j_getR 126 f_M_117 d_M_build_169 (tg_94 (q_E_i (q_E_i (q_E_i hE12)))) (q_okE (q_E_i (q_E_i (q_E_i hE12))) (by decide)) (rf_94_57 (q_E_i (q_E_i (q_E_i hE12)))) (by decide) ?_
  refine j_iload d_M_build_172 0 rfl ?_
  refine j_iconst (v := 0) d_M_build_174 (by decide) ?_
  refine j_iast 14 d_M_build_175 (tg_126 (q_E_i (q_E_i (q_E_i hE12)))) (q_okE (q_E_i (q_E_i (q_E_i hE12))) (by decide)) rfl (by decide) (by decide) ?_
  refine j_aload_n d_M_build_176 3 rfl ?_
  refine j_getR 129 f_M_126 d_M_build_177 (tg_94 (q_E_i (q_E_i (q_E_i (q_E_i hE12))))) (q_okE (q_E_i (q_E_i (q_E_i (q_E_i hE12)))) (by decide)) (rf_94_60 (q_E_i (q_E_i (q_E_i (q_E_i hE12))))) (by decide) ?_
  refine j_iload d_M_build_180 0 rfl ?_
  refine j_iconst (v := 0) d_M_build_182 (by decide) ?_
  refine j_iast 14 d_M_build_183 (tg_129 (q_E_i (q_E_i (q_E_i (q_E_i hE12))))) (q_okE (q_E_i (q_E_i (q_E_i (q_E_i hE12)))) (by decide)) rfl (by decide) (by decide) ?_
  refine j_iinc (v := 15) (L' := [(4, .int 15), (2, .long 0), (1, .int (-1)), (0, .ref 94)]) d_M_build_184 0 rfl (by decide) (by decide) rfl ?_
  refine j_goto 133 d_M_build_187 (by decide) ?_
  refine j_iload d_M_build_133 0 rfl ?_
  refine j_bipush (v := 16) d_M_build_135 (by decide) ?_
  refine j_icmp_ge 190 d_M_build_137 (by decide) (fun h => absurd h (by decide)) (fun _ => ?_)
  refine j_aload_n d_M_build_140 3 rfl ?_
  refine j_getR 106 f_M_49 d_M_build_141 (tg_94 (q_E_i (q_E_i (q_E_i (q_E_i (q_E_i hE12)))))) (q_okE (q_E_i (q_E_i (q_E_i (q_E_i (q_E_i hE12))))) (by decide)) (rf_94_22 (q_E_i (q_E_i (q_E_i (q_E_i (q_E_i hE12)))))) (by decide) ?_
  refine j_iload d_M_build_144 0 rfl ?_
  refine j_aload_n d_M_build_146 3 rfl ?_
  refine j_getR 108 f_M_55 d_M_build_147 (tg_94 (q_E_i (q_E_i (q_E_i (q_E_i (q_E_i hE12)))))) (q_okE (q_E_i (q_E_i (q_E_i (q_E_i (q_E_i hE12))))) (by decide)) (rf_94_24 (q_E_i (q_E_i (q_E_i (q_E_i (q_E_i hE12)))))) (by decide) ?_
  refine j_iload d_M_build_150 0 rfl ?_
  refine k_iald (0) 15 d_M_build_152 (tg_108 (q_E_i (q_E_i (q_E_i (q_E_i (q_E_i hE12)))))) (q_okE (q_E_i (q_E_i (q_E_i (q_E_i (q_E_i hE12))))) (by decide)) rfl (by decide) (by decide) (h12_108_15) ?_
  refine j_iast 15 d_M_build_153 (tg_106 (q_E_i (q_E_i (q_E_i (q_E_i (q_E_i hE12)))))) (q_okE (q_E_i (q_E_i (q_E_i (q_E_i (q_E_i hE12))))) (by decide)) rfl (by decide) (by decide) ?_
  refine j_aload_n d_M_build_154 3 rfl ?_
  refine j_getR 107 f_M_52 d_M_build_155 (tg_94 (q_E_i (q_E_i (q_E_i (q_E_i (q_E_i (q_E_i hE12))))))) (q_okE (q_E_i (q_E_i (q_E_i (q_E_i (q_E_i (q_E_i hE12)))))) (by decide)) (rf_94_23 (q_E_i (q_E_i (q_E_i (q_E_i (q_E_i (q_E_i hE12))))))) (by decide) ?_
  refine j_iload d_M_build_158 0 rfl ?_
  refine j_aload_n d_M_build_160 3 rfl ?_
  refine j_getR 109 f_M_58 d_M_build_161 (tg_94 (q_E_i (q_E_i (q_E_i (q_E_i (q_E_i (q_E_i hE12))))))) (q_okE (q_E_i (q_E_i (q_E_i (q_E_i (q_E_i (q_E_i hE12)))))) (by decide)) (rf_94_25 (q_E_i (q_E_i (q_E_i (q_E_i (q_E_i (q_E_i hE12))))))) (by decide) ?_
  refine j_iload d_M_build_164 0 rfl ?_
  refine k_iald (0) 15 d_M_build_166 (tg_109 (q_E_i (q_E_i (q_E_i (q_E_i (q_E_i (q_E_i hE12))))))) (q_okE (q_E_i (q_E_i (q_E_i (q_E_i (q_E_i (q_E_i hE12)))))) (by decide)) rfl (by decide) (by decide) (h12_109_15) ?_
  refine j_iast 15 d_M_build_167 (tg_107 (q_E_i (q_E_i (q_E_i (q_E_i (q_E_i (q_E_i hE12))))))) (q_okE (q_E_i (q_E_i (q_E_i (q_E_i (q_E_i (q_E_i hE12)))))) (by decide)) rfl (by decide) (by decide) ?_
  refine j_aload_n d_M_build_168 3 rfl ?_
  refine j_getR 126 f_M_117 d_M_build_169 (tg_94 (q_E_i (q_E_i (q_E_i (q_E_i (q_E_i (q_E_i (q_E_i hE12)))))))) (q_okE (q_E_i (q_E_i (q_E_i (q_E_i (q_E_i (q_E_i (q_E_i hE12))))))) (by decide)) (rf_94_57 (q_E_i (q_E_i (q_E_i (q_E_i (q_E_i (q_E_i (q_E_i hE12)))))))) (by decide) ?_
  refine j_iload d_M_build_172 0 rfl ?_
  refine j_iconst (v := 0) d_M_build_174 (by decide) ?_
  refine j_iast 15 d_M_build_175 (tg_126 (q_E_i (q_E_i (q_E_i (q_E_i (q_E_i (q_E_i (q_E_i hE12)))))))) (q_okE (q_E_i (q_E_i (q_E_i (q_E_i (q_E_i (q_E_i (q_E_i hE12))))))) (by decide)) rfl (by decide) (by decide) ?_
  refine j_st (fun τ13 eτ13 => ?_)
  have hE13 : q_E τ13 := by rw [eτ13]; exact (q_E_i (q_E_i (q_E_i (q_E_i (q_E_i (q_E_i (q_E_i (q_E_i hE12))))))))
  have h13_94_2 : q_i τ13 94 2 = 0 := by rw [eτ13]; exact h12_94_2
  have h13_108_0 : q_i τ13 108 0 = 0 := by rw [eτ13]; exact h12_108_0
  have h13_108_1 : q_i τ13 108 1 = 0 := by rw [eτ13]; exact h12_108_1
  have h13_108_2 : q_i τ13 108 2 = 0 := by rw [eτ13]; exact h12_108_2
  have h13_108_3 : q_i τ13 108 3 = 0 := by rw [eτ13]; exact h12_108_3
  have h13_108_4 : q_i τ13 108 4 = 0 := by rw [eτ13]; exact h12_108_4
  have h13_108_5 : q_i τ13 108 5 = 0 := by rw [eτ13]; exact h12_108_5
  have h13_108_6 : q_i τ13 108 6 = 0 := by rw [eτ13]; exact h12_108_6
  have h13_108_7 : q_i τ13 108 7 = 0 := by rw [eτ13]; exact h12_108_7
  have h13_108_8 : q_i τ13 108 8 = 0 := by rw [eτ13]; exact h12_108_8
  have h13_108_9 : q_i τ13 108 9 = 0 := by rw [eτ13]; exact h12_108_9
  have h13_108_10 : q_i τ13 108 10 = 0 := by rw [eτ13]; exact h12_108_10
  have h13_108_11 : q_i τ13 108 11 = 0 := by rw [eτ13]; exact h12_108_11
  have h13_108_12 : q_i τ13 108 12 = 0 := by rw [eτ13]; exact h12_108_12
  have h13_108_13 : q_i τ13 108 13 = 0 := by rw [eτ13]; exact h12_108_13
  have h13_108_14 : q_i τ13 108 14 = 0 := by rw [eτ13]; exact h12_108_14
  have h13_108_15 : q_i τ13 108 15 = 0 := by rw [eτ13]; exact h12_108_15
  have h13_109_0 : q_i τ13 109 0 = 0 := by rw [eτ13]; exact h12_109_0
  have h13_109_1 : q_i τ13 109 1 = 0 := by rw [eτ13]; exact h12_109_1
  have h13_109_2 : q_i τ13 109 2 = 0 := by rw [eτ13]; exact h12_109_2
  have h13_109_3 : q_i τ13 109 3 = 0 := by rw [eτ13]; exact h12_109_3
  have h13_109_4 : q_i τ13 109 4 = 0 := by rw [eτ13]; exact h12_109_4
  have h13_109_5 : q_i τ13 109 5 = 0 := by rw [eτ13]; exact h12_109_5
  have h13_109_6 : q_i τ13 109 6 = 0 := by rw [eτ13]; exact h12_109_6
  have h13_109_7 : q_i τ13 109 7 = 0 := by rw [eτ13]; exact h12_109_7
  have h13_109_8 : q_i τ13 109 8 = 0 := by rw [eτ13]; exact h12_109_8
  have h13_109_9 : q_i τ13 109 9 = 0 := by rw [eτ13]; exact h12_109_9
  have h13_109_10 : q_i τ13 109 10 = 0 := by rw [eτ13]; exact h12_109_10
  have h13_109_11 : q_i τ13 109 11 = 0 := by rw [eτ13]; exact h12_109_11
  have h13_109_12 : q_i τ13 109 12 = 0 := by rw [eτ13]; exact h12_109_12
  have h13_109_13 : q_i τ13 109 13 = 0 := by rw [eτ13]; exact h12_109_13
  have h13_109_14 : q_i τ13 109 14 = 0 := by rw [eτ13]; exact h12_109_14
  have h13_109_15 : q_i τ13 109 15 = 0 := by rw [eτ13]; exact h12_109_15
  have h13_96_0 : q_i τ13 96 0 = 273 := by rw [eτ13]; exact h12_96_0
  have h13_94_18 : q_i τ13 94 18 = 0 := by rw [eτ13]; exact h12_94_18
  have h13_94_19 : q_i τ13 94 19 = 0 := by rw [eτ13]; exact h12_94_19
  have h13_94_20 : q_i τ13 94 20 = 0 := by rw [eτ13]; exact h12_94_20
  have h13_94_21 : q_i τ13 94 21 = 0 := by rw [eτ13]; exact h12_94_21
  have h13_94_48 : q_i τ13 94 48 = 0 := by rw [eτ13]; exact h12_94_48
  have h13_94_28 : q_i τ13 94 28 = 0 := by rw [eτ13]; exact h12_94_28
  have r13_94_32 : q_r τ13 94 32 = 116 := by rw [eτ13]; exact r12_94_32
  have r13_94_38 : q_r τ13 94 38 = 110 := by rw [eτ13]; exact r12_94_38
  have r13_94_33 : q_r τ13 94 33 = 117 := by rw [eτ13]; exact r12_94_33
  have r13_94_39 : q_r τ13 94 39 = 111 := by rw [eτ13]; exact r12_94_39
  have r13_94_34 : q_r τ13 94 34 = 118 := by rw [eτ13]; exact r12_94_34
  have r13_94_40 : q_r τ13 94 40 = 112 := by rw [eτ13]; exact r12_94_40
  have r13_94_35 : q_r τ13 94 35 = 119 := by rw [eτ13]; exact r12_94_35
  have r13_94_41 : q_r τ13 94 41 = 113 := by rw [eτ13]; exact r12_94_41
  have r13_94_36 : q_r τ13 94 36 = 120 := by rw [eτ13]; exact r12_94_36
  have r13_94_42 : q_r τ13 94 42 = 114 := by rw [eτ13]; exact r12_94_42
  have r13_94_37 : q_r τ13 94 37 = 121 := by rw [eτ13]; exact r12_94_37
  have r13_94_43 : q_r τ13 94 43 = 115 := by rw [eτ13]; exact r12_94_43
  refine j_aload_n d_M_build_176 3 rfl ?_
  refine j_getR 129 f_M_126 d_M_build_177 (tg_94 hE13) (q_okE hE13 (by decide)) (rf_94_60 hE13) (by decide) ?_
  refine j_iload d_M_build_180 0 rfl ?_
  refine j_iconst (v := 0) d_M_build_182 (by decide) ?_
  refine j_iast 15 d_M_build_183 (tg_129 hE13) (q_okE hE13 (by decide)) rfl (by decide) (by decide) ?_
  refine j_iinc (v := 16) (L' := [(4, .int 16), (2, .long 0), (1, .int (-1)), (0, .ref 94)]) d_M_build_184 0 rfl (by decide) (by decide) rfl ?_
  refine j_goto 133 d_M_build_187 (by decide) ?_
  refine j_iload d_M_build_133 0 rfl ?_
  refine j_bipush (v := 16) d_M_build_135 (by decide) ?_
  refine j_icmp_ge 190 d_M_build_137 (by decide) (fun _ => ?_) (fun h => absurd h (by decide))
  refine j_aload_n d_M_build_190 3 rfl ?_
  refine j_iconst (v := (-1)) d_M_build_191 (by decide) ?_
  refine j_putI (g_M_129 _) d_M_build_192 (tg_94 (q_E_i hE13)) (q_okE (q_E_i hE13) (by decide)) ?_
  refine j_aload_n d_M_build_195 3 rfl ?_
  refine j_iconst (v := (-1)) d_M_build_196 (by decide) ?_
  refine j_putI (g_M_132 _) d_M_build_197 (tg_94 (q_E_i (q_E_i hE13))) (q_okE (q_E_i (q_E_i hE13)) (by decide)) ?_
  refine j_aload_n d_M_build_200 3 rfl ?_
  refine j_iconst (v := 0) d_M_build_201 (by decide) ?_
  refine j_putZ (g_M_369 _) d_M_build_202 (tg_94 (q_E_i (q_E_i (q_E_i hE13)))) (q_okE (q_E_i (q_E_i (q_E_i hE13))) (by decide)) (by decide) ?_
  refine j_aload_n d_M_build_205 3 rfl ?_
  refine k_getI (0) f_M_363 d_M_build_206 (tg_94 (q_E_i (q_E_i (q_E_i (q_E_i hE13))))) (q_okE (q_E_i (q_E_i (q_E_i (q_E_i hE13)))) (by decide)) (h13_94_28) ?_
  exact j_nret d_M_build_209 rfl (by decide) (by decide) (by decide) ⟨rfl, by rw [eτ13, eτ12, eτ11, eτ10, eτ9, eτ8, eτ7, eτ6, eτ5, eτ4, eτ3, eτ2, eτ1]; rfl⟩
