/-! stretches of bytecode as conditions: En -/
theorem d_En_encode_71 : decode m_En_encode.2.1 71 = .ok (.aload_n 0, 1) := by decide +kernel
theorem d_En_encode_72 : decode m_En_encode.2.1 72 = .ok (.aload_n 0, 1) := by decide +kernel
theorem d_En_encode_73 : decode m_En_encode.2.1 73 = .ok (.getfield 50, 3) := by decide +kernel
theorem d_En_encode_76 : decode m_En_encode.2.1 76 = .ok (.getfield 84, 3) := by decide +kernel
theorem d_En_encode_79 : decode m_En_encode.2.1 79 = .ok (.iload_n 2, 1) := by decide +kernel
theorem d_En_encode_80 : decode m_En_encode.2.1 80 = .ok (.iaload, 1) := by decide +kernel
theorem d_En_encode_81 : decode m_En_encode.2.1 81 = .ok (.aload_n 0, 1) := by decide +kernel
theorem d_En_encode_82 : decode m_En_encode.2.1 82 = .ok (.getfield 50, 3) := by decide +kernel
theorem d_En_encode_85 : decode m_En_encode.2.1 85 = .ok (.getfield 87, 3) := by decide +kernel
theorem d_En_encode_88 : decode m_En_encode.2.1 88 = .ok (.iload_n 2, 1) := by decide +kernel
theorem d_En_encode_89 : decode m_En_encode.2.1 89 = .ok (.iaload, 1) := by decide +kernel
theorem d_En_encode_90 : decode m_En_encode.2.1 90 = .ok (.invokevirtual 90, 3) := by decide +kernel
theorem d_En_encode_93 : decode m_En_encode.2.1 93 = .ok (.aload_n 0, 1) := by decide +kernel
theorem d_En_encode_94 : decode m_En_encode.2.1 94 = .ok (.iload_n 2, 1) := by decide +kernel
theorem d_En_encode_95 : decode m_En_encode.2.1 95 = .ok (.aload_n 0, 1) := by decide +kernel
theorem d_En_encode_96 : decode m_En_encode.2.1 96 = .ok (.getfield 50, 3) := by decide +kernel
theorem d_En_encode_99 : decode m_En_encode.2.1 99 = .ok (.getfield 94, 3) := by decide +kernel
theorem d_En_encode_102 : decode m_En_encode.2.1 102 = .ok (.iload_n 2, 1) := by decide +kernel
theorem d_En_encode_103 : decode m_En_encode.2.1 103 = .ok (.iaload, 1) := by decide +kernel
theorem d_En_encode_104 : decode m_En_encode.2.1 104 = .ok (.invokevirtual 97, 3) := by decide +kernel
theorem d_En_encode_107 : decode m_En_encode.2.1 107 = .ok (.istore_n 2, 1) := by decide +kernel
theorem d_En_encode_108 : decode m_En_encode.2.1 108 = .ok (.iinc 3 1, 3) := by decide +kernel
theorem d_En_encode_111 : decode m_En_encode.2.1 111 = .ok (.goto (-57), 3) := by decide +kernel
theorem d_En_encode_132 : decode m_En_encode.2.1 132 = .ok (.aload_n 0, 1) := by decide +kernel
theorem d_En_encode_133 : decode m_En_encode.2.1 133 = .ok (.aload_n 0, 1) := by decide +kernel
theorem d_En_encode_134 : decode m_En_encode.2.1 134 = .ok (.getfield 12, 3) := by decide +kernel
theorem d_En_encode_137 : decode m_En_encode.2.1 137 = .ok (.getfield 46, 3) := by decide +kernel
theorem d_En_encode_140 : decode m_En_encode.2.1 140 = .ok (.aload_n 0, 1) := by decide +kernel
theorem d_En_encode_141 : decode m_En_encode.2.1 141 = .ok (.getfield 101, 3) := by decide +kernel
theorem d_En_encode_144 : decode m_En_encode.2.1 144 = .ok (.aload_n 0, 1) := by decide +kernel
theorem d_En_encode_145 : decode m_En_encode.2.1 145 = .ok (.getfield 25, 3) := by decide +kernel
theorem d_En_encode_148 : decode m_En_encode.2.1 148 = .ok (.iload_n 3, 1) := by decide +kernel
theorem d_En_encode_149 : decode m_En_encode.2.1 149 = .ok (.iaload, 1) := by decide +kernel
theorem d_En_encode_150 : decode m_En_encode.2.1 150 = .ok (.invokevirtual 107, 3) := by decide +kernel
theorem d_En_encode_153 : decode m_En_encode.2.1 153 = .ok (.putfield 101, 3) := by decide +kernel
theorem d_En_encode_156 : decode m_En_encode.2.1 156 = .ok (.iinc 3 1, 3) := by decide +kernel
theorem d_En_encode_159 : decode m_En_encode.2.1 159 = .ok (.goto (-38), 3) := by decide +kernel
theorem d_En_makeInputs_21 : decode m_En_makeInputs.2.1 21 = .ok (.iconst 0, 1) := by decide +kernel
theorem d_En_makeInputs_22 : decode m_En_makeInputs.2.1 22 = .ok (.istore_n 2, 1) := by decide +kernel
theorem d_En_makeInputs_23 : decode m_En_makeInputs.2.1 23 = .ok (.iload_n 2, 1) := by decide +kernel
theorem d_En_makeInputs_24 : decode m_En_makeInputs.2.1 24 = .ok (.aload_n 0, 1) := by decide +kernel
theorem d_En_makeInputs_25 : decode m_En_makeInputs.2.1 25 = .ok (.getfield 50, 3) := by decide +kernel
theorem d_En_makeInputs_28 : decode m_En_makeInputs.2.1 28 = .ok (.getfield 116, 3) := by decide +kernel
theorem d_En_makeInputs_31 : decode m_En_makeInputs.2.1 31 = .ok (.iload_n 1, 1) := by decide +kernel
theorem d_En_makeInputs_32 : decode m_En_makeInputs.2.1 32 = .ok (.iaload, 1) := by decide +kernel
theorem d_En_makeInputs_33 : decode m_En_makeInputs.2.1 33 = .ok (.if_icmp .ge 30, 3) := by decide +kernel
theorem d_En_makeInputs_36 : decode m_En_makeInputs.2.1 36 = .ok (.aload_n 0, 1) := by decide +kernel
theorem d_En_makeInputs_37 : decode m_En_makeInputs.2.1 37 = .ok (.getfield 18, 3) := by decide +kernel
theorem d_En_makeInputs_40 : decode m_En_makeInputs.2.1 40 = .ok (.iload_n 1, 1) := by decide +kernel
theorem d_En_makeInputs_41 : decode m_En_makeInputs.2.1 41 = .ok (.bipush 8, 2) := by decide +kernel
theorem d_En_makeInputs_43 : decode m_En_makeInputs.2.1 43 = .ok (.imul, 1) := by decide +kernel
theorem d_En_makeInputs_44 : decode m_En_makeInputs.2.1 44 = .ok (.iload_n 2, 1) := by decide +kernel
theorem d_En_makeInputs_45 : decode m_En_makeInputs.2.1 45 = .ok (.iadd, 1) := by decide +kernel
theorem d_En_makeInputs_46 : decode m_En_makeInputs.2.1 46 = .ok (.aload_n 0, 1) := by decide +kernel
theorem d_En_makeInputs_47 : decode m_En_makeInputs.2.1 47 = .ok (.getfield 12, 3) := by decide +kernel
theorem d_En_makeInputs_50 : decode m_En_makeInputs.2.1 50 = .ok (.getfield 46, 3) := by decide +kernel
theorem d_En_makeInputs_53 : decode m_En_makeInputs.2.1 53 = .ok (.invokevirtual 119, 3) := by decide +kernel
theorem d_En_makeInputs_56 : decode m_En_makeInputs.2.1 56 = .ok (.iastore, 1) := by decide +kernel
theorem d_En_makeInputs_57 : decode m_En_makeInputs.2.1 57 = .ok (.iinc 2 1, 3) := by decide +kernel
theorem d_En_makeInputs_60 : decode m_En_makeInputs.2.1 60 = .ok (.goto (-37), 3) := by decide +kernel
theorem d_En_makeInputs_63 : decode m_En_makeInputs.2.1 63 = .ok (.iinc 1 1, 3) := by decide +kernel
theorem d_En_makeInputs_66 : decode m_En_makeInputs.2.1 66 = .ok (.goto (-56), 3) := by decide +kernel
theorem d_En_evaluate_0 : decode m_En_evaluate.2.1 0 = .ok (.iconst 0, 1) := by decide +kernel
theorem d_En_evaluate_1 : decode m_En_evaluate.2.1 1 = .ok (.istore_n 3, 1) := by decide +kernel
theorem d_En_evaluate_2 : decode m_En_evaluate.2.1 2 = .ok (.iload_n 1, 1) := by decide +kernel
theorem d_En_evaluate_3 : decode m_En_evaluate.2.1 3 = .ok (.istore 4, 2) := by decide +kernel
theorem d_En_evaluate_5 : decode m_En_evaluate.2.1 5 = .ok (.iload 4, 2) := by decide +kernel
theorem d_En_evaluate_7 : decode m_En_evaluate.2.1 7 = .ok (.iload_n 2, 1) := by decide +kernel
theorem d_En_evaluate_8 : decode m_En_evaluate.2.1 8 = .ok (.if_icmp .ge 218, 3) := by decide +kernel
theorem d_En_evaluate_11 : decode m_En_evaluate.2.1 11 = .ok (.aload_n 0, 1) := by decide +kernel
theorem d_En_evaluate_12 : decode m_En_evaluate.2.1 12 = .ok (.getfield 50, 3) := by decide +kernel
theorem d_En_evaluate_15 : decode m_En_evaluate.2.1 15 = .ok (.getfield 130, 3) := by decide +kernel
theorem d_En_evaluate_18 : decode m_En_evaluate.2.1 18 = .ok (.iload 4, 2) := by decide +kernel
theorem d_En_evaluate_20 : decode m_En_evaluate.2.1 20 = .ok (.iaload, 1) := by decide +kernel
theorem d_En_evaluate_21 : decode m_En_evaluate.2.1 21 = .ok (.istore 5, 2) := by decide +kernel
theorem d_En_evaluate_23 : decode m_En_evaluate.2.1 23 = .ok (.iload_n 3, 1) := by decide +kernel
theorem d_En_evaluate_24 : decode m_En_evaluate.2.1 24 = .ok (.bipush 8, 2) := by decide +kernel
theorem d_En_evaluate_26 : decode m_En_evaluate.2.1 26 = .ok (.imul, 1) := by decide +kernel
theorem d_En_evaluate_27 : decode m_En_evaluate.2.1 27 = .ok (.istore 6, 2) := by decide +kernel
theorem d_En_evaluate_29 : decode m_En_evaluate.2.1 29 = .ok (.iload 5, 2) := by decide +kernel
theorem d_En_evaluate_31 : decode m_En_evaluate.2.1 31 = .ok (.bipush 23, 2) := by decide +kernel
theorem d_En_evaluate_33 : decode m_En_evaluate.2.1 33 = .ok (.if_icmp .lt 34, 3) := by decide +kernel
theorem d_En_evaluate_36 : decode m_En_evaluate.2.1 36 = .ok (.iload_n 3, 1) := by decide +kernel
theorem d_En_evaluate_37 : decode m_En_evaluate.2.1 37 = .ok (.sipush 400, 3) := by decide +kernel
theorem d_En_evaluate_40 : decode m_En_evaluate.2.1 40 = .ok (.if_icmp .ge 27, 3) := by decide +kernel
theorem d_En_evaluate_43 : decode m_En_evaluate.2.1 43 = .ok (.aload_n 0, 1) := by decide +kernel
theorem d_En_evaluate_44 : decode m_En_evaluate.2.1 44 = .ok (.iload 5, 2) := by decide +kernel
theorem d_En_evaluate_46 : decode m_En_evaluate.2.1 46 = .ok (.aload_n 0, 1) := by decide +kernel
theorem d_En_evaluate_47 : decode m_En_evaluate.2.1 47 = .ok (.getfield 50, 3) := by decide +kernel
theorem d_En_evaluate_50 : decode m_En_evaluate.2.1 50 = .ok (.getfield 133, 3) := by decide +kernel
theorem d_En_evaluate_53 : decode m_En_evaluate.2.1 53 = .ok (.iload 4, 2) := by decide +kernel
theorem d_En_evaluate_55 : decode m_En_evaluate.2.1 55 = .ok (.iaload, 1) := by decide +kernel
theorem d_En_evaluate_56 : decode m_En_evaluate.2.1 56 = .ok (.iload 6, 2) := by decide +kernel
theorem d_En_evaluate_58 : decode m_En_evaluate.2.1 58 = .ok (.invokevirtual 136, 3) := by decide +kernel
theorem d_En_evaluate_61 : decode m_En_evaluate.2.1 61 = .ok (.iinc 3 1, 3) := by decide +kernel
theorem d_En_evaluate_64 : decode m_En_evaluate.2.1 64 = .ok (.goto 156, 3) := by decide +kernel
theorem d_En_evaluate_67 : decode m_En_evaluate.2.1 67 = .ok (.iload 5, 2) := by decide +kernel
theorem d_En_evaluate_69 : decode m_En_evaluate.2.1 69 = .ok (.bipush 22, 2) := by decide +kernel
theorem d_En_evaluate_71 : decode m_En_evaluate.2.1 71 = .ok (.if_icmp .ne 36, 3) := by decide +kernel
theorem d_En_evaluate_74 : decode m_En_evaluate.2.1 74 = .ok (.iload_n 3, 1) := by decide +kernel
theorem d_En_evaluate_75 : decode m_En_evaluate.2.1 75 = .ok (.iconst 3, 1) := by decide +kernel
theorem d_En_evaluate_76 : decode m_En_evaluate.2.1 76 = .ok (.if_icmp .lt 31, 3) := by decide +kernel
theorem d_En_evaluate_79 : decode m_En_evaluate.2.1 79 = .ok (.aload_n 0, 1) := by decide +kernel
theorem d_En_evaluate_80 : decode m_En_evaluate.2.1 80 = .ok (.getfield 12, 3) := by decide +kernel
theorem d_En_evaluate_83 : decode m_En_evaluate.2.1 83 = .ok (.iload 6, 2) := by decide +kernel
theorem d_En_evaluate_85 : decode m_En_evaluate.2.1 85 = .ok (.bipush 24, 2) := by decide +kernel
theorem d_En_evaluate_87 : decode m_En_evaluate.2.1 87 = .ok (.isub, 1) := by decide +kernel
theorem d_En_evaluate_88 : decode m_En_evaluate.2.1 88 = .ok (.iload 6, 2) := by decide +kernel
theorem d_En_evaluate_90 : decode m_En_evaluate.2.1 90 = .ok (.bipush 16, 2) := by decide +kernel
theorem d_En_evaluate_92 : decode m_En_evaluate.2.1 92 = .ok (.isub, 1) := by decide +kernel
theorem d_En_evaluate_93 : decode m_En_evaluate.2.1 93 = .ok (.iload 6, 2) := by decide +kernel
theorem d_En_evaluate_95 : decode m_En_evaluate.2.1 95 = .ok (.bipush 8, 2) := by decide +kernel
theorem d_En_evaluate_97 : decode m_En_evaluate.2.1 97 = .ok (.isub, 1) := by decide +kernel
theorem d_En_evaluate_98 : decode m_En_evaluate.2.1 98 = .ok (.invokevirtual 140, 3) := by decide +kernel
theorem d_En_evaluate_101 : decode m_En_evaluate.2.1 101 = .ok (.iinc 3 (-2), 3) := by decide +kernel
theorem d_En_evaluate_104 : decode m_En_evaluate.2.1 104 = .ok (.goto 116, 3) := by decide +kernel
theorem d_En_evaluate_107 : decode m_En_evaluate.2.1 107 = .ok (.iload 5, 2) := by decide +kernel
theorem d_En_evaluate_109 : decode m_En_evaluate.2.1 109 = .ok (.bipush 19, 2) := by decide +kernel
theorem d_En_evaluate_111 : decode m_En_evaluate.2.1 111 = .ok (.if_icmp .lt 35, 3) := by decide +kernel
theorem d_En_evaluate_114 : decode m_En_evaluate.2.1 114 = .ok (.iload_n 3, 1) := by decide +kernel
theorem d_En_evaluate_115 : decode m_En_evaluate.2.1 115 = .ok (.iconst 1, 1) := by decide +kernel
theorem d_En_evaluate_116 : decode m_En_evaluate.2.1 116 = .ok (.if_icmp .lt 30, 3) := by decide +kernel
theorem d_En_evaluate_119 : decode m_En_evaluate.2.1 119 = .ok (.aload_n 0, 1) := by decide +kernel
theorem d_En_evaluate_120 : decode m_En_evaluate.2.1 120 = .ok (.getfield 12, 3) := by decide +kernel
theorem d_En_evaluate_123 : decode m_En_evaluate.2.1 123 = .ok (.iload 5, 2) := by decide +kernel
theorem d_En_evaluate_125 : decode m_En_evaluate.2.1 125 = .ok (.iload 6, 2) := by decide +kernel
theorem d_En_evaluate_127 : decode m_En_evaluate.2.1 127 = .ok (.bipush 8, 2) := by decide +kernel
theorem d_En_evaluate_129 : decode m_En_evaluate.2.1 129 = .ok (.isub, 1) := by decide +kernel
theorem d_En_evaluate_130 : decode m_En_evaluate.2.1 130 = .ok (.aload_n 0, 1) := by decide +kernel
theorem d_En_evaluate_131 : decode m_En_evaluate.2.1 131 = .ok (.getfield 50, 3) := by decide +kernel
theorem d_En_evaluate_134 : decode m_En_evaluate.2.1 134 = .ok (.getfield 143, 3) := by decide +kernel
theorem d_En_evaluate_137 : decode m_En_evaluate.2.1 137 = .ok (.iload 4, 2) := by decide +kernel
theorem d_En_evaluate_139 : decode m_En_evaluate.2.1 139 = .ok (.iaload, 1) := by decide +kernel
theorem d_En_evaluate_140 : decode m_En_evaluate.2.1 140 = .ok (.invokevirtual 146, 3) := by decide +kernel
theorem d_En_evaluate_143 : decode m_En_evaluate.2.1 143 = .ok (.goto 77, 3) := by decide +kernel
theorem d_En_evaluate_146 : decode m_En_evaluate.2.1 146 = .ok (.iload 5, 2) := by decide +kernel
theorem d_En_evaluate_148 : decode m_En_evaluate.2.1 148 = .ok (.bipush 12, 2) := by decide +kernel
theorem d_En_evaluate_150 : decode m_En_evaluate.2.1 150 = .ok (.if_icmp .lt 43, 3) := by decide +kernel
theorem d_En_evaluate_153 : decode m_En_evaluate.2.1 153 = .ok (.iload_n 3, 1) := by decide +kernel
theorem d_En_evaluate_154 : decode m_En_evaluate.2.1 154 = .ok (.iconst 2, 1) := by decide +kernel
theorem d_En_evaluate_155 : decode m_En_evaluate.2.1 155 = .ok (.if_icmp .lt 38, 3) := by decide +kernel
theorem d_En_evaluate_158 : decode m_En_evaluate.2.1 158 = .ok (.aload_n 0, 1) := by decide +kernel
theorem d_En_evaluate_159 : decode m_En_evaluate.2.1 159 = .ok (.getfield 12, 3) := by decide +kernel
theorem d_En_evaluate_162 : decode m_En_evaluate.2.1 162 = .ok (.iload 5, 2) := by decide +kernel
theorem d_En_evaluate_164 : decode m_En_evaluate.2.1 164 = .ok (.iload 6, 2) := by decide +kernel
theorem d_En_evaluate_166 : decode m_En_evaluate.2.1 166 = .ok (.bipush 16, 2) := by decide +kernel
theorem d_En_evaluate_168 : decode m_En_evaluate.2.1 168 = .ok (.isub, 1) := by decide +kernel
theorem d_En_evaluate_169 : decode m_En_evaluate.2.1 169 = .ok (.iload 6, 2) := by decide +kernel
theorem d_En_evaluate_171 : decode m_En_evaluate.2.1 171 = .ok (.bipush 8, 2) := by decide +kernel
theorem d_En_evaluate_173 : decode m_En_evaluate.2.1 173 = .ok (.isub, 1) := by decide +kernel
theorem d_En_evaluate_174 : decode m_En_evaluate.2.1 174 = .ok (.aload_n 0, 1) := by decide +kernel
theorem d_En_evaluate_175 : decode m_En_evaluate.2.1 175 = .ok (.getfield 50, 3) := by decide +kernel
theorem d_En_evaluate_178 : decode m_En_evaluate.2.1 178 = .ok (.getfield 143, 3) := by decide +kernel
theorem d_En_evaluate_181 : decode m_En_evaluate.2.1 181 = .ok (.iload 4, 2) := by decide +kernel
theorem d_En_evaluate_183 : decode m_En_evaluate.2.1 183 = .ok (.iaload, 1) := by decide +kernel
theorem d_En_evaluate_184 : decode m_En_evaluate.2.1 184 = .ok (.invokevirtual 149, 3) := by decide +kernel
theorem d_En_evaluate_187 : decode m_En_evaluate.2.1 187 = .ok (.iinc 3 (-1), 3) := by decide +kernel
theorem d_En_evaluate_190 : decode m_En_evaluate.2.1 190 = .ok (.goto 30, 3) := by decide +kernel
theorem d_En_evaluate_193 : decode m_En_evaluate.2.1 193 = .ok (.iload_n 3, 1) := by decide +kernel
theorem d_En_evaluate_194 : decode m_En_evaluate.2.1 194 = .ok (.iconst 2, 1) := by decide +kernel
theorem d_En_evaluate_195 : decode m_En_evaluate.2.1 195 = .ok (.if_icmp .lt 25, 3) := by decide +kernel
theorem d_En_evaluate_198 : decode m_En_evaluate.2.1 198 = .ok (.aload_n 0, 1) := by decide +kernel
theorem d_En_evaluate_199 : decode m_En_evaluate.2.1 199 = .ok (.getfield 12, 3) := by decide +kernel
theorem d_En_evaluate_202 : decode m_En_evaluate.2.1 202 = .ok (.iload 5, 2) := by decide +kernel
theorem d_En_evaluate_204 : decode m_En_evaluate.2.1 204 = .ok (.iload 6, 2) := by decide +kernel
theorem d_En_evaluate_206 : decode m_En_evaluate.2.1 206 = .ok (.bipush 16, 2) := by decide +kernel
theorem d_En_evaluate_208 : decode m_En_evaluate.2.1 208 = .ok (.isub, 1) := by decide +kernel
theorem d_En_evaluate_209 : decode m_En_evaluate.2.1 209 = .ok (.iload 6, 2) := by decide +kernel
theorem d_En_evaluate_211 : decode m_En_evaluate.2.1 211 = .ok (.bipush 8, 2) := by decide +kernel
theorem d_En_evaluate_213 : decode m_En_evaluate.2.1 213 = .ok (.isub, 1) := by decide +kernel
theorem d_En_evaluate_214 : decode m_En_evaluate.2.1 214 = .ok (.invokevirtual 153, 3) := by decide +kernel
theorem d_En_evaluate_217 : decode m_En_evaluate.2.1 217 = .ok (.iinc 3 (-1), 3) := by decide +kernel
theorem d_En_evaluate_220 : decode m_En_evaluate.2.1 220 = .ok (.iinc 4 1, 3) := by decide +kernel
theorem d_En_evaluate_223 : decode m_En_evaluate.2.1 223 = .ok (.goto (-218), 3) := by decide +kernel
theorem d_En_evaluate_226 : decode m_En_evaluate.2.1 226 = .ok (.return_, 1) := by decide +kernel
theorem d_En_fetch_0 : decode m_En_fetch.2.1 0 = .ok (.iload_n 1, 1) := by decide +kernel
theorem d_En_fetch_1 : decode m_En_fetch.2.1 1 = .ok (.bipush 23, 2) := by decide +kernel
theorem d_En_fetch_3 : decode m_En_fetch.2.1 3 = .ok (.if_icmp .ne 15, 3) := by decide +kernel
theorem d_En_fetch_6 : decode m_En_fetch.2.1 6 = .ok (.aload_n 0, 1) := by decide +kernel
theorem d_En_fetch_7 : decode m_En_fetch.2.1 7 = .ok (.getfield 12, 3) := by decide +kernel
theorem d_En_fetch_10 : decode m_En_fetch.2.1 10 = .ok (.iload_n 3, 1) := by decide +kernel
theorem d_En_fetch_11 : decode m_En_fetch.2.1 11 = .ok (.iload_n 2, 1) := by decide +kernel
theorem d_En_fetch_12 : decode m_En_fetch.2.1 12 = .ok (.invokevirtual 156, 3) := by decide +kernel
theorem d_En_fetch_15 : decode m_En_fetch.2.1 15 = .ok (.goto 44, 3) := by decide +kernel
theorem d_En_fetch_18 : decode m_En_fetch.2.1 18 = .ok (.iload_n 1, 1) := by decide +kernel
theorem d_En_fetch_19 : decode m_En_fetch.2.1 19 = .ok (.bipush 24, 2) := by decide +kernel
theorem d_En_fetch_21 : decode m_En_fetch.2.1 21 = .ok (.if_icmp .ne 22, 3) := by decide +kernel
theorem d_En_fetch_24 : decode m_En_fetch.2.1 24 = .ok (.aload_n 0, 1) := by decide +kernel
theorem d_En_fetch_25 : decode m_En_fetch.2.1 25 = .ok (.getfield 12, 3) := by decide +kernel
theorem d_En_fetch_28 : decode m_En_fetch.2.1 28 = .ok (.iload_n 3, 1) := by decide +kernel
theorem d_En_fetch_29 : decode m_En_fetch.2.1 29 = .ok (.aload_n 0, 1) := by decide +kernel
theorem d_En_fetch_30 : decode m_En_fetch.2.1 30 = .ok (.getfield 18, 3) := by decide +kernel
theorem d_En_fetch_33 : decode m_En_fetch.2.1 33 = .ok (.iload_n 2, 1) := by decide +kernel
theorem d_En_fetch_34 : decode m_En_fetch.2.1 34 = .ok (.bipush 8, 2) := by decide +kernel
theorem d_En_fetch_36 : decode m_En_fetch.2.1 36 = .ok (.imul, 1) := by decide +kernel
theorem d_En_fetch_37 : decode m_En_fetch.2.1 37 = .ok (.invokevirtual 159, 3) := by decide +kernel
theorem d_En_fetch_40 : decode m_En_fetch.2.1 40 = .ok (.goto 19, 3) := by decide +kernel
theorem d_En_fetch_43 : decode m_En_fetch.2.1 43 = .ok (.aload_n 0, 1) := by decide +kernel
theorem d_En_fetch_44 : decode m_En_fetch.2.1 44 = .ok (.getfield 12, 3) := by decide +kernel
theorem d_En_fetch_47 : decode m_En_fetch.2.1 47 = .ok (.iload_n 3, 1) := by decide +kernel
theorem d_En_fetch_48 : decode m_En_fetch.2.1 48 = .ok (.aload_n 0, 1) := by decide +kernel
theorem d_En_fetch_49 : decode m_En_fetch.2.1 49 = .ok (.getfield 22, 3) := by decide +kernel
theorem d_En_fetch_52 : decode m_En_fetch.2.1 52 = .ok (.iload_n 2, 1) := by decide +kernel
theorem d_En_fetch_53 : decode m_En_fetch.2.1 53 = .ok (.bipush 8, 2) := by decide +kernel
theorem d_En_fetch_55 : decode m_En_fetch.2.1 55 = .ok (.imul, 1) := by decide +kernel
theorem d_En_fetch_56 : decode m_En_fetch.2.1 56 = .ok (.invokevirtual 159, 3) := by decide +kernel
theorem d_En_fetch_59 : decode m_En_fetch.2.1 59 = .ok (.return_, 1) := by decide +kernel
theorem d_En_perform_0 : decode m_En_perform.2.1 0 = .ok (.aload_n 0, 1) := by decide +kernel
theorem d_En_perform_1 : decode m_En_perform.2.1 1 = .ok (.getfield 50, 3) := by decide +kernel
theorem d_En_perform_4 : decode m_En_perform.2.1 4 = .ok (.getfield 163, 3) := by decide +kernel
theorem d_En_perform_7 : decode m_En_perform.2.1 7 = .ok (.iload_n 1, 1) := by decide +kernel
theorem d_En_perform_8 : decode m_En_perform.2.1 8 = .ok (.iaload, 1) := by decide +kernel
theorem d_En_perform_9 : decode m_En_perform.2.1 9 = .ok (.tableswitch 203 1 8 #[47, 78, 94, 123, 138, 145, 152, 188], 47) := by decide +kernel
theorem d_En_perform_56 : decode m_En_perform.2.1 56 = .ok (.aload_n 0, 1) := by decide +kernel
theorem d_En_perform_57 : decode m_En_perform.2.1 57 = .ok (.getfield 12, 3) := by decide +kernel
theorem d_En_perform_60 : decode m_En_perform.2.1 60 = .ok (.getfield 166, 3) := by decide +kernel
theorem d_En_perform_63 : decode m_En_perform.2.1 63 = .ok (.iconst 0, 1) := by decide +kernel
theorem d_En_perform_64 : decode m_En_perform.2.1 64 = .ok (.aload_n 0, 1) := by decide +kernel
theorem d_En_perform_65 : decode m_En_perform.2.1 65 = .ok (.getfield 22, 3) := by decide +kernel
theorem d_En_perform_68 : decode m_En_perform.2.1 68 = .ok (.iload_n 2, 1) := by decide +kernel
theorem d_En_perform_69 : decode m_En_perform.2.1 69 = .ok (.bipush 8, 2) := by decide +kernel
theorem d_En_perform_71 : decode m_En_perform.2.1 71 = .ok (.imul, 1) := by decide +kernel
theorem d_En_perform_72 : decode m_En_perform.2.1 72 = .ok (.aload_n 0, 1) := by decide +kernel
theorem d_En_perform_73 : decode m_En_perform.2.1 73 = .ok (.getfield 50, 3) := by decide +kernel
theorem d_En_perform_76 : decode m_En_perform.2.1 76 = .ok (.getfield 169, 3) := by decide +kernel
theorem d_En_perform_79 : decode m_En_perform.2.1 79 = .ok (.iload_n 2, 1) := by decide +kernel
theorem d_En_perform_80 : decode m_En_perform.2.1 80 = .ok (.iaload, 1) := by decide +kernel
theorem d_En_perform_81 : decode m_En_perform.2.1 81 = .ok (.invokestatic 172, 3) := by decide +kernel
theorem d_En_perform_84 : decode m_En_perform.2.1 84 = .ok (.goto 142, 3) := by decide +kernel
theorem d_En_perform_87 : decode m_En_perform.2.1 87 = .ok (.aload_n 0, 1) := by decide +kernel
theorem d_En_perform_88 : decode m_En_perform.2.1 88 = .ok (.iload_n 2, 1) := by decide +kernel
theorem d_En_perform_89 : decode m_En_perform.2.1 89 = .ok (.aload_n 0, 1) := by decide +kernel
theorem d_En_perform_90 : decode m_En_perform.2.1 90 = .ok (.getfield 12, 3) := by decide +kernel
theorem d_En_perform_93 : decode m_En_perform.2.1 93 = .ok (.iconst 0, 1) := by decide +kernel
theorem d_En_perform_94 : decode m_En_perform.2.1 94 = .ok (.invokevirtual 178, 3) := by decide +kernel
theorem d_En_perform_97 : decode m_En_perform.2.1 97 = .ok (.invokevirtual 182, 3) := by decide +kernel
theorem d_En_perform_100 : decode m_En_perform.2.1 100 = .ok (.goto 126, 3) := by decide +kernel
theorem d_En_perform_103 : decode m_En_perform.2.1 103 = .ok (.aload_n 0, 1) := by decide +kernel
theorem d_En_perform_104 : decode m_En_perform.2.1 104 = .ok (.aload_n 0, 1) := by decide +kernel
theorem d_En_perform_105 : decode m_En_perform.2.1 105 = .ok (.getfield 12, 3) := by decide +kernel
theorem d_En_perform_108 : decode m_En_perform.2.1 108 = .ok (.getfield 46, 3) := by decide +kernel
theorem d_En_perform_111 : decode m_En_perform.2.1 111 = .ok (.aload_n 0, 1) := by decide +kernel
theorem d_En_perform_112 : decode m_En_perform.2.1 112 = .ok (.getfield 68, 3) := by decide +kernel
theorem d_En_perform_115 : decode m_En_perform.2.1 115 = .ok (.aload_n 0, 1) := by decide +kernel
theorem d_En_perform_116 : decode m_En_perform.2.1 116 = .ok (.getfield 12, 3) := by decide +kernel
theorem d_En_perform_119 : decode m_En_perform.2.1 119 = .ok (.iconst 0, 1) := by decide +kernel
theorem d_En_perform_120 : decode m_En_perform.2.1 120 = .ok (.invokevirtual 178, 3) := by decide +kernel
theorem d_En_perform_123 : decode m_En_perform.2.1 123 = .ok (.invokevirtual 185, 3) := by decide +kernel
theorem d_En_perform_126 : decode m_En_perform.2.1 126 = .ok (.putfield 68, 3) := by decide +kernel
theorem d_En_perform_129 : decode m_En_perform.2.1 129 = .ok (.goto 97, 3) := by decide +kernel
theorem d_En_perform_132 : decode m_En_perform.2.1 132 = .ok (.aload_n 0, 1) := by decide +kernel
theorem d_En_perform_133 : decode m_En_perform.2.1 133 = .ok (.aload_n 0, 1) := by decide +kernel
theorem d_En_perform_134 : decode m_En_perform.2.1 134 = .ok (.getfield 12, 3) := by decide +kernel
theorem d_En_perform_137 : decode m_En_perform.2.1 137 = .ok (.iconst 0, 1) := by decide +kernel
theorem d_En_perform_138 : decode m_En_perform.2.1 138 = .ok (.invokevirtual 178, 3) := by decide +kernel
theorem d_En_perform_141 : decode m_En_perform.2.1 141 = .ok (.invokevirtual 188, 3) := by decide +kernel
theorem d_En_perform_144 : decode m_En_perform.2.1 144 = .ok (.goto 82, 3) := by decide +kernel
theorem d_En_perform_147 : decode m_En_perform.2.1 147 = .ok (.aload_n 0, 1) := by decide +kernel
theorem d_En_perform_148 : decode m_En_perform.2.1 148 = .ok (.invokevirtual 191, 3) := by decide +kernel
theorem d_En_perform_151 : decode m_En_perform.2.1 151 = .ok (.goto 75, 3) := by decide +kernel
theorem d_En_perform_154 : decode m_En_perform.2.1 154 = .ok (.aload_n 0, 1) := by decide +kernel
theorem d_En_perform_155 : decode m_En_perform.2.1 155 = .ok (.invokevirtual 194, 3) := by decide +kernel
theorem d_En_perform_158 : decode m_En_perform.2.1 158 = .ok (.goto 68, 3) := by decide +kernel
theorem d_En_perform_161 : decode m_En_perform.2.1 161 = .ok (.aload_n 0, 1) := by decide +kernel
theorem d_En_perform_162 : decode m_En_perform.2.1 162 = .ok (.getfield 40, 3) := by decide +kernel
theorem d_En_perform_165 : decode m_En_perform.2.1 165 = .ok (.aload_n 0, 1) := by decide +kernel
theorem d_En_perform_166 : decode m_En_perform.2.1 166 = .ok (.getfield 50, 3) := by decide +kernel
theorem d_En_perform_169 : decode m_En_perform.2.1 169 = .ok (.getfield 197, 3) := by decide +kernel
theorem d_En_perform_172 : decode m_En_perform.2.1 172 = .ok (.iload_n 1, 1) := by decide +kernel
theorem d_En_perform_173 : decode m_En_perform.2.1 173 = .ok (.iaload, 1) := by decide +kernel
theorem d_En_perform_174 : decode m_En_perform.2.1 174 = .ok (.aload_n 0, 1) := by decide +kernel
theorem d_En_perform_175 : decode m_En_perform.2.1 175 = .ok (.getfield 50, 3) := by decide +kernel
theorem d_En_perform_178 : decode m_En_perform.2.1 178 = .ok (.getfield 200, 3) := by decide +kernel
theorem d_En_perform_181 : decode m_En_perform.2.1 181 = .ok (.ifCond .ne 11, 3) := by decide +kernel
theorem d_En_perform_184 : decode m_En_perform.2.1 184 = .ok (.iload_n 2, 1) := by decide +kernel
theorem d_En_perform_185 : decode m_En_perform.2.1 185 = .ok (.iconst 1, 1) := by decide +kernel
theorem d_En_perform_186 : decode m_En_perform.2.1 186 = .ok (.invokestatic 203, 3) := by decide +kernel
theorem d_En_perform_189 : decode m_En_perform.2.1 189 = .ok (.goto 4, 3) := by decide +kernel
theorem d_En_perform_192 : decode m_En_perform.2.1 192 = .ok (.iload_n 2, 1) := by decide +kernel
theorem d_En_perform_193 : decode m_En_perform.2.1 193 = .ok (.iastore, 1) := by decide +kernel
theorem d_En_perform_194 : decode m_En_perform.2.1 194 = .ok (.goto 32, 3) := by decide +kernel
theorem d_En_perform_197 : decode m_En_perform.2.1 197 = .ok (.aload_n 0, 1) := by decide +kernel
theorem d_En_perform_198 : decode m_En_perform.2.1 198 = .ok (.iload_n 1, 1) := by decide +kernel
theorem d_En_perform_199 : decode m_En_perform.2.1 199 = .ok (.iload_n 2, 1) := by decide +kernel
theorem d_En_perform_200 : decode m_En_perform.2.1 200 = .ok (.aload_n 0, 1) := by decide +kernel
theorem d_En_perform_201 : decode m_En_perform.2.1 201 = .ok (.getfield 12, 3) := by decide +kernel
theorem d_En_perform_204 : decode m_En_perform.2.1 204 = .ok (.iconst 0, 1) := by decide +kernel
theorem d_En_perform_205 : decode m_En_perform.2.1 205 = .ok (.invokevirtual 178, 3) := by decide +kernel
theorem d_En_perform_208 : decode m_En_perform.2.1 208 = .ok (.invokevirtual 208, 3) := by decide +kernel
theorem d_En_perform_211 : decode m_En_perform.2.1 211 = .ok (.ireturn, 1) := by decide +kernel
theorem d_En_perform_212 : decode m_En_perform.2.1 212 = .ok (.aload_n 0, 1) := by decide +kernel
theorem d_En_perform_213 : decode m_En_perform.2.1 213 = .ok (.invokevirtual 194, 3) := by decide +kernel
theorem d_En_perform_216 : decode m_En_perform.2.1 216 = .ok (.aload_n 0, 1) := by decide +kernel
theorem d_En_perform_217 : decode m_En_perform.2.1 217 = .ok (.getfield 50, 3) := by decide +kernel
theorem d_En_perform_220 : decode m_En_perform.2.1 220 = .ok (.getfield 197, 3) := by decide +kernel
theorem d_En_perform_223 : decode m_En_perform.2.1 223 = .ok (.iload_n 1, 1) := by decide +kernel
theorem d_En_perform_224 : decode m_En_perform.2.1 224 = .ok (.iaload, 1) := by decide +kernel
theorem d_En_perform_225 : decode m_En_perform.2.1 225 = .ok (.ireturn, 1) := by decide +kernel
theorem d_En_perform_226 : decode m_En_perform.2.1 226 = .ok (.iload_n 1, 1) := by decide +kernel
theorem d_En_perform_227 : decode m_En_perform.2.1 227 = .ok (.iconst 1, 1) := by decide +kernel
theorem d_En_perform_228 : decode m_En_perform.2.1 228 = .ok (.iadd, 1) := by decide +kernel
theorem d_En_perform_229 : decode m_En_perform.2.1 229 = .ok (.ireturn, 1) := by decide +kernel
theorem d_En_claim_0 : decode m_En_claim.2.1 0 = .ok (.aload_n 0, 1) := by decide +kernel
theorem d_En_claim_1 : decode m_En_claim.2.1 1 = .ok (.getfield 12, 3) := by decide +kernel
theorem d_En_claim_4 : decode m_En_claim.2.1 4 = .ok (.getfield 46, 3) := by decide +kernel
theorem d_En_claim_7 : decode m_En_claim.2.1 7 = .ok (.aload_n 0, 1) := by decide +kernel
theorem d_En_claim_8 : decode m_En_claim.2.1 8 = .ok (.getfield 68, 3) := by decide +kernel
theorem d_En_claim_11 : decode m_En_claim.2.1 11 = .ok (.iload_n 2, 1) := by decide +kernel
theorem d_En_claim_12 : decode m_En_claim.2.1 12 = .ok (.iconst 1, 1) := by decide +kernel
theorem d_En_claim_13 : decode m_En_claim.2.1 13 = .ok (.ixor, 1) := by decide +kernel
theorem d_En_claim_14 : decode m_En_claim.2.1 14 = .ok (.invokevirtual 185, 3) := by decide +kernel
theorem d_En_claim_17 : decode m_En_claim.2.1 17 = .ok (.istore_n 3, 1) := by decide +kernel
theorem d_En_claim_18 : decode m_En_claim.2.1 18 = .ok (.aload_n 0, 1) := by decide +kernel
theorem d_En_claim_19 : decode m_En_claim.2.1 19 = .ok (.getfield 25, 3) := by decide +kernel
theorem d_En_claim_22 : decode m_En_claim.2.1 22 = .ok (.iload_n 1, 1) := by decide +kernel
theorem d_En_claim_23 : decode m_En_claim.2.1 23 = .ok (.aload_n 0, 1) := by decide +kernel
theorem d_En_claim_24 : decode m_En_claim.2.1 24 = .ok (.getfield 12, 3) := by decide +kernel
theorem d_En_claim_27 : decode m_En_claim.2.1 27 = .ok (.getfield 46, 3) := by decide +kernel
theorem d_En_claim_30 : decode m_En_claim.2.1 30 = .ok (.aload_n 0, 1) := by decide +kernel
theorem d_En_claim_31 : decode m_En_claim.2.1 31 = .ok (.getfield 25, 3) := by decide +kernel
theorem d_En_claim_34 : decode m_En_claim.2.1 34 = .ok (.iload_n 1, 1) := by decide +kernel
theorem d_En_claim_35 : decode m_En_claim.2.1 35 = .ok (.iaload, 1) := by decide +kernel
theorem d_En_claim_36 : decode m_En_claim.2.1 36 = .ok (.iload_n 3, 1) := by decide +kernel
theorem d_En_claim_37 : decode m_En_claim.2.1 37 = .ok (.invokevirtual 107, 3) := by decide +kernel
theorem d_En_claim_40 : decode m_En_claim.2.1 40 = .ok (.iastore, 1) := by decide +kernel
theorem d_En_claim_41 : decode m_En_claim.2.1 41 = .ok (.aload_n 0, 1) := by decide +kernel
theorem d_En_claim_42 : decode m_En_claim.2.1 42 = .ok (.aload_n 0, 1) := by decide +kernel
theorem d_En_claim_43 : decode m_En_claim.2.1 43 = .ok (.getfield 12, 3) := by decide +kernel
theorem d_En_claim_46 : decode m_En_claim.2.1 46 = .ok (.getfield 46, 3) := by decide +kernel
theorem d_En_claim_49 : decode m_En_claim.2.1 49 = .ok (.aload_n 0, 1) := by decide +kernel
theorem d_En_claim_50 : decode m_En_claim.2.1 50 = .ok (.getfield 68, 3) := by decide +kernel
theorem d_En_claim_53 : decode m_En_claim.2.1 53 = .ok (.iload_n 2, 1) := by decide +kernel
theorem d_En_claim_54 : decode m_En_claim.2.1 54 = .ok (.invokevirtual 185, 3) := by decide +kernel
theorem d_En_claim_57 : decode m_En_claim.2.1 57 = .ok (.putfield 68, 3) := by decide +kernel
theorem d_En_claim_60 : decode m_En_claim.2.1 60 = .ok (.return_, 1) := by decide +kernel
theorem d_En_fork_0 : decode m_En_fork.2.1 0 = .ok (.aload_n 0, 1) := by decide +kernel
theorem d_En_fork_1 : decode m_En_fork.2.1 1 = .ok (.getfield 22, 3) := by decide +kernel
theorem d_En_fork_4 : decode m_En_fork.2.1 4 = .ok (.iconst 0, 1) := by decide +kernel
theorem d_En_fork_5 : decode m_En_fork.2.1 5 = .ok (.aload_n 0, 1) := by decide +kernel
theorem d_En_fork_6 : decode m_En_fork.2.1 6 = .ok (.getfield 28, 3) := by decide +kernel
theorem d_En_fork_9 : decode m_En_fork.2.1 9 = .ok (.aload_n 0, 1) := by decide +kernel
theorem d_En_fork_10 : decode m_En_fork.2.1 10 = .ok (.getfield 72, 3) := by decide +kernel
theorem d_En_fork_13 : decode m_En_fork.2.1 13 = .ok (.bipush 96, 2) := by decide +kernel
theorem d_En_fork_15 : decode m_En_fork.2.1 15 = .ok (.imul, 1) := by decide +kernel
theorem d_En_fork_16 : decode m_En_fork.2.1 16 = .ok (.bipush 96, 2) := by decide +kernel
theorem d_En_fork_18 : decode m_En_fork.2.1 18 = .ok (.invokestatic 172, 3) := by decide +kernel
theorem d_En_fork_21 : decode m_En_fork.2.1 21 = .ok (.aload_n 0, 1) := by decide +kernel
theorem d_En_fork_22 : decode m_En_fork.2.1 22 = .ok (.getfield 31, 3) := by decide +kernel
theorem d_En_fork_25 : decode m_En_fork.2.1 25 = .ok (.aload_n 0, 1) := by decide +kernel
theorem d_En_fork_26 : decode m_En_fork.2.1 26 = .ok (.getfield 72, 3) := by decide +kernel
theorem d_En_fork_29 : decode m_En_fork.2.1 29 = .ok (.aload_n 0, 1) := by decide +kernel
theorem d_En_fork_30 : decode m_En_fork.2.1 30 = .ok (.getfield 12, 3) := by decide +kernel
theorem d_En_fork_33 : decode m_En_fork.2.1 33 = .ok (.getfield 46, 3) := by decide +kernel
theorem d_En_fork_36 : decode m_En_fork.2.1 36 = .ok (.aload_n 0, 1) := by decide +kernel
theorem d_En_fork_37 : decode m_En_fork.2.1 37 = .ok (.getfield 68, 3) := by decide +kernel
theorem d_En_fork_40 : decode m_En_fork.2.1 40 = .ok (.iload_n 1, 1) := by decide +kernel
theorem d_En_fork_41 : decode m_En_fork.2.1 41 = .ok (.iconst 1, 1) := by decide +kernel
theorem d_En_fork_42 : decode m_En_fork.2.1 42 = .ok (.ixor, 1) := by decide +kernel
theorem d_En_fork_43 : decode m_En_fork.2.1 43 = .ok (.invokevirtual 185, 3) := by decide +kernel
theorem d_En_fork_46 : decode m_En_fork.2.1 46 = .ok (.iastore, 1) := by decide +kernel
theorem d_En_fork_47 : decode m_En_fork.2.1 47 = .ok (.aload_n 0, 1) := by decide +kernel
theorem d_En_fork_48 : decode m_En_fork.2.1 48 = .ok (.getfield 34, 3) := by decide +kernel
theorem d_En_fork_51 : decode m_En_fork.2.1 51 = .ok (.aload_n 0, 1) := by decide +kernel
theorem d_En_fork_52 : decode m_En_fork.2.1 52 = .ok (.getfield 72, 3) := by decide +kernel
theorem d_En_fork_55 : decode m_En_fork.2.1 55 = .ok (.aload_n 0, 1) := by decide +kernel
theorem d_En_fork_56 : decode m_En_fork.2.1 56 = .ok (.getfield 68, 3) := by decide +kernel
theorem d_En_fork_59 : decode m_En_fork.2.1 59 = .ok (.iastore, 1) := by decide +kernel
theorem d_En_fork_60 : decode m_En_fork.2.1 60 = .ok (.aload_n 0, 1) := by decide +kernel
theorem d_En_fork_61 : decode m_En_fork.2.1 61 = .ok (.getfield 37, 3) := by decide +kernel
theorem d_En_fork_64 : decode m_En_fork.2.1 64 = .ok (.aload_n 0, 1) := by decide +kernel
theorem d_En_fork_65 : decode m_En_fork.2.1 65 = .ok (.getfield 72, 3) := by decide +kernel
theorem d_En_fork_68 : decode m_En_fork.2.1 68 = .ok (.iload_n 1, 1) := by decide +kernel
theorem d_En_fork_69 : decode m_En_fork.2.1 69 = .ok (.iastore, 1) := by decide +kernel
theorem d_En_fork_70 : decode m_En_fork.2.1 70 = .ok (.aload_n 0, 1) := by decide +kernel
theorem d_En_fork_71 : decode m_En_fork.2.1 71 = .ok (.aload_n 0, 1) := by decide +kernel
theorem d_En_fork_72 : decode m_En_fork.2.1 72 = .ok (.getfield 12, 3) := by decide +kernel
theorem d_En_fork_75 : decode m_En_fork.2.1 75 = .ok (.getfield 46, 3) := by decide +kernel
theorem d_En_fork_78 : decode m_En_fork.2.1 78 = .ok (.aload_n 0, 1) := by decide +kernel
theorem d_En_fork_79 : decode m_En_fork.2.1 79 = .ok (.getfield 68, 3) := by decide +kernel
theorem d_En_fork_82 : decode m_En_fork.2.1 82 = .ok (.iload_n 1, 1) := by decide +kernel
theorem d_En_fork_83 : decode m_En_fork.2.1 83 = .ok (.invokevirtual 185, 3) := by decide +kernel
theorem d_En_fork_86 : decode m_En_fork.2.1 86 = .ok (.putfield 68, 3) := by decide +kernel
theorem d_En_fork_89 : decode m_En_fork.2.1 89 = .ok (.aload_n 0, 1) := by decide +kernel
theorem d_En_fork_90 : decode m_En_fork.2.1 90 = .ok (.dup, 1) := by decide +kernel
theorem d_En_fork_91 : decode m_En_fork.2.1 91 = .ok (.getfield 72, 3) := by decide +kernel
theorem d_En_fork_94 : decode m_En_fork.2.1 94 = .ok (.iconst 1, 1) := by decide +kernel
theorem d_En_fork_95 : decode m_En_fork.2.1 95 = .ok (.iadd, 1) := by decide +kernel
theorem d_En_fork_96 : decode m_En_fork.2.1 96 = .ok (.putfield 72, 3) := by decide +kernel
theorem d_En_fork_99 : decode m_En_fork.2.1 99 = .ok (.aload_n 0, 1) := by decide +kernel
theorem d_En_fork_100 : decode m_En_fork.2.1 100 = .ok (.iconst 0, 1) := by decide +kernel
theorem d_En_fork_101 : decode m_En_fork.2.1 101 = .ok (.putfield 75, 3) := by decide +kernel
theorem d_En_fork_104 : decode m_En_fork.2.1 104 = .ok (.return_, 1) := by decide +kernel
theorem d_En_swap_0 : decode m_En_swap.2.1 0 = .ok (.aload_n 0, 1) := by decide +kernel
theorem d_En_swap_1 : decode m_En_swap.2.1 1 = .ok (.getfield 72, 3) := by decide +kernel
theorem d_En_swap_4 : decode m_En_swap.2.1 4 = .ok (.iconst 1, 1) := by decide +kernel
theorem d_En_swap_5 : decode m_En_swap.2.1 5 = .ok (.isub, 1) := by decide +kernel
theorem d_En_swap_6 : decode m_En_swap.2.1 6 = .ok (.istore_n 1, 1) := by decide +kernel
theorem d_En_swap_7 : decode m_En_swap.2.1 7 = .ok (.iconst 0, 1) := by decide +kernel
theorem d_En_swap_8 : decode m_En_swap.2.1 8 = .ok (.istore_n 2, 1) := by decide +kernel
theorem d_En_swap_9 : decode m_En_swap.2.1 9 = .ok (.iload_n 2, 1) := by decide +kernel
theorem d_En_swap_10 : decode m_En_swap.2.1 10 = .ok (.bipush 96, 2) := by decide +kernel
theorem d_En_swap_12 : decode m_En_swap.2.1 12 = .ok (.if_icmp .ge 45, 3) := by decide +kernel
theorem d_En_swap_15 : decode m_En_swap.2.1 15 = .ok (.aload_n 0, 1) := by decide +kernel
theorem d_En_swap_16 : decode m_En_swap.2.1 16 = .ok (.getfield 28, 3) := by decide +kernel
theorem d_En_swap_19 : decode m_En_swap.2.1 19 = .ok (.iload_n 1, 1) := by decide +kernel
theorem d_En_swap_20 : decode m_En_swap.2.1 20 = .ok (.bipush 96, 2) := by decide +kernel
theorem d_En_swap_22 : decode m_En_swap.2.1 22 = .ok (.imul, 1) := by decide +kernel
theorem d_En_swap_23 : decode m_En_swap.2.1 23 = .ok (.iload_n 2, 1) := by decide +kernel
theorem d_En_swap_24 : decode m_En_swap.2.1 24 = .ok (.iadd, 1) := by decide +kernel
theorem d_En_swap_25 : decode m_En_swap.2.1 25 = .ok (.iaload, 1) := by decide +kernel
theorem d_En_swap_26 : decode m_En_swap.2.1 26 = .ok (.istore_n 3, 1) := by decide +kernel
theorem d_En_swap_27 : decode m_En_swap.2.1 27 = .ok (.aload_n 0, 1) := by decide +kernel
theorem d_En_swap_28 : decode m_En_swap.2.1 28 = .ok (.getfield 28, 3) := by decide +kernel
theorem d_En_swap_31 : decode m_En_swap.2.1 31 = .ok (.iload_n 1, 1) := by decide +kernel
theorem d_En_swap_32 : decode m_En_swap.2.1 32 = .ok (.bipush 96, 2) := by decide +kernel
theorem d_En_swap_34 : decode m_En_swap.2.1 34 = .ok (.imul, 1) := by decide +kernel
theorem d_En_swap_35 : decode m_En_swap.2.1 35 = .ok (.iload_n 2, 1) := by decide +kernel
theorem d_En_swap_36 : decode m_En_swap.2.1 36 = .ok (.iadd, 1) := by decide +kernel
theorem d_En_swap_37 : decode m_En_swap.2.1 37 = .ok (.aload_n 0, 1) := by decide +kernel
theorem d_En_swap_38 : decode m_En_swap.2.1 38 = .ok (.getfield 22, 3) := by decide +kernel
theorem d_En_swap_41 : decode m_En_swap.2.1 41 = .ok (.iload_n 2, 1) := by decide +kernel
theorem d_En_swap_42 : decode m_En_swap.2.1 42 = .ok (.iaload, 1) := by decide +kernel
theorem d_En_swap_43 : decode m_En_swap.2.1 43 = .ok (.iastore, 1) := by decide +kernel
theorem d_En_swap_44 : decode m_En_swap.2.1 44 = .ok (.aload_n 0, 1) := by decide +kernel
theorem d_En_swap_45 : decode m_En_swap.2.1 45 = .ok (.getfield 22, 3) := by decide +kernel
theorem d_En_swap_48 : decode m_En_swap.2.1 48 = .ok (.iload_n 2, 1) := by decide +kernel
theorem d_En_swap_49 : decode m_En_swap.2.1 49 = .ok (.iload_n 3, 1) := by decide +kernel
theorem d_En_swap_50 : decode m_En_swap.2.1 50 = .ok (.iastore, 1) := by decide +kernel
theorem d_En_swap_51 : decode m_En_swap.2.1 51 = .ok (.iinc 2 1, 3) := by decide +kernel
theorem d_En_swap_54 : decode m_En_swap.2.1 54 = .ok (.goto (-45), 3) := by decide +kernel
theorem d_En_swap_57 : decode m_En_swap.2.1 57 = .ok (.aload_n 0, 1) := by decide +kernel
theorem d_En_swap_58 : decode m_En_swap.2.1 58 = .ok (.getfield 31, 3) := by decide +kernel
theorem d_En_swap_61 : decode m_En_swap.2.1 61 = .ok (.iload_n 1, 1) := by decide +kernel
theorem d_En_swap_62 : decode m_En_swap.2.1 62 = .ok (.iaload, 1) := by decide +kernel
theorem d_En_swap_63 : decode m_En_swap.2.1 63 = .ok (.istore_n 2, 1) := by decide +kernel
theorem d_En_swap_64 : decode m_En_swap.2.1 64 = .ok (.aload_n 0, 1) := by decide +kernel
theorem d_En_swap_65 : decode m_En_swap.2.1 65 = .ok (.getfield 31, 3) := by decide +kernel
theorem d_En_swap_68 : decode m_En_swap.2.1 68 = .ok (.iload_n 1, 1) := by decide +kernel
theorem d_En_swap_69 : decode m_En_swap.2.1 69 = .ok (.aload_n 0, 1) := by decide +kernel
theorem d_En_swap_70 : decode m_En_swap.2.1 70 = .ok (.getfield 68, 3) := by decide +kernel
theorem d_En_swap_73 : decode m_En_swap.2.1 73 = .ok (.iastore, 1) := by decide +kernel
theorem d_En_swap_74 : decode m_En_swap.2.1 74 = .ok (.aload_n 0, 1) := by decide +kernel
theorem d_En_swap_75 : decode m_En_swap.2.1 75 = .ok (.iload_n 2, 1) := by decide +kernel
theorem d_En_swap_76 : decode m_En_swap.2.1 76 = .ok (.putfield 68, 3) := by decide +kernel
theorem d_En_swap_79 : decode m_En_swap.2.1 79 = .ok (.aload_n 0, 1) := by decide +kernel
theorem d_En_swap_80 : decode m_En_swap.2.1 80 = .ok (.getfield 37, 3) := by decide +kernel
theorem d_En_swap_83 : decode m_En_swap.2.1 83 = .ok (.iload_n 1, 1) := by decide +kernel
theorem d_En_swap_84 : decode m_En_swap.2.1 84 = .ok (.dup2, 1) := by decide +kernel
theorem d_En_swap_85 : decode m_En_swap.2.1 85 = .ok (.iaload, 1) := by decide +kernel
theorem d_En_swap_86 : decode m_En_swap.2.1 86 = .ok (.iconst 1, 1) := by decide +kernel
theorem d_En_swap_87 : decode m_En_swap.2.1 87 = .ok (.ixor, 1) := by decide +kernel
theorem d_En_swap_88 : decode m_En_swap.2.1 88 = .ok (.iastore, 1) := by decide +kernel
theorem d_En_swap_89 : decode m_En_swap.2.1 89 = .ok (.aload_n 0, 1) := by decide +kernel
theorem d_En_swap_90 : decode m_En_swap.2.1 90 = .ok (.iconst 0, 1) := by decide +kernel
theorem d_En_swap_91 : decode m_En_swap.2.1 91 = .ok (.putfield 75, 3) := by decide +kernel
theorem d_En_swap_94 : decode m_En_swap.2.1 94 = .ok (.return_, 1) := by decide +kernel
theorem d_En_join_0 : decode m_En_join.2.1 0 = .ok (.aload_n 0, 1) := by decide +kernel
theorem d_En_join_1 : decode m_En_join.2.1 1 = .ok (.dup, 1) := by decide +kernel
theorem d_En_join_2 : decode m_En_join.2.1 2 = .ok (.getfield 72, 3) := by decide +kernel
theorem d_En_join_5 : decode m_En_join.2.1 5 = .ok (.iconst 1, 1) := by decide +kernel
theorem d_En_join_6 : decode m_En_join.2.1 6 = .ok (.isub, 1) := by decide +kernel
theorem d_En_join_7 : decode m_En_join.2.1 7 = .ok (.putfield 72, 3) := by decide +kernel
theorem d_En_join_10 : decode m_En_join.2.1 10 = .ok (.iconst 0, 1) := by decide +kernel
theorem d_En_join_11 : decode m_En_join.2.1 11 = .ok (.istore_n 1, 1) := by decide +kernel
theorem d_En_join_12 : decode m_En_join.2.1 12 = .ok (.iload_n 1, 1) := by decide +kernel
theorem d_En_join_13 : decode m_En_join.2.1 13 = .ok (.bipush 96, 2) := by decide +kernel
theorem d_En_join_15 : decode m_En_join.2.1 15 = .ok (.if_icmp .ge 54, 3) := by decide +kernel
theorem d_En_join_18 : decode m_En_join.2.1 18 = .ok (.aload_n 0, 1) := by decide +kernel
theorem d_En_join_19 : decode m_En_join.2.1 19 = .ok (.getfield 22, 3) := by decide +kernel
theorem d_En_join_22 : decode m_En_join.2.1 22 = .ok (.iload_n 1, 1) := by decide +kernel
theorem d_En_join_23 : decode m_En_join.2.1 23 = .ok (.aload_n 0, 1) := by decide +kernel
theorem d_En_join_24 : decode m_En_join.2.1 24 = .ok (.getfield 12, 3) := by decide +kernel
theorem d_En_join_27 : decode m_En_join.2.1 27 = .ok (.getfield 46, 3) := by decide +kernel
theorem d_En_join_30 : decode m_En_join.2.1 30 = .ok (.aload_n 0, 1) := by decide +kernel
theorem d_En_join_31 : decode m_En_join.2.1 31 = .ok (.getfield 37, 3) := by decide +kernel
theorem d_En_join_34 : decode m_En_join.2.1 34 = .ok (.aload_n 0, 1) := by decide +kernel
theorem d_En_join_35 : decode m_En_join.2.1 35 = .ok (.getfield 72, 3) := by decide +kernel
theorem d_En_join_38 : decode m_En_join.2.1 38 = .ok (.iaload, 1) := by decide +kernel
theorem d_En_join_39 : decode m_En_join.2.1 39 = .ok (.aload_n 0, 1) := by decide +kernel
theorem d_En_join_40 : decode m_En_join.2.1 40 = .ok (.getfield 22, 3) := by decide +kernel
theorem d_En_join_43 : decode m_En_join.2.1 43 = .ok (.iload_n 1, 1) := by decide +kernel
theorem d_En_join_44 : decode m_En_join.2.1 44 = .ok (.iaload, 1) := by decide +kernel
theorem d_En_join_45 : decode m_En_join.2.1 45 = .ok (.aload_n 0, 1) := by decide +kernel
theorem d_En_join_46 : decode m_En_join.2.1 46 = .ok (.getfield 28, 3) := by decide +kernel
theorem d_En_join_49 : decode m_En_join.2.1 49 = .ok (.aload_n 0, 1) := by decide +kernel
theorem d_En_join_50 : decode m_En_join.2.1 50 = .ok (.getfield 72, 3) := by decide +kernel
theorem d_En_join_53 : decode m_En_join.2.1 53 = .ok (.bipush 96, 2) := by decide +kernel
theorem d_En_join_55 : decode m_En_join.2.1 55 = .ok (.imul, 1) := by decide +kernel
theorem d_En_join_56 : decode m_En_join.2.1 56 = .ok (.iload_n 1, 1) := by decide +kernel
theorem d_En_join_57 : decode m_En_join.2.1 57 = .ok (.iadd, 1) := by decide +kernel
theorem d_En_join_58 : decode m_En_join.2.1 58 = .ok (.iaload, 1) := by decide +kernel
theorem d_En_join_59 : decode m_En_join.2.1 59 = .ok (.invokevirtual 215, 3) := by decide +kernel
theorem d_En_join_62 : decode m_En_join.2.1 62 = .ok (.iastore, 1) := by decide +kernel
theorem d_En_join_63 : decode m_En_join.2.1 63 = .ok (.iinc 1 1, 3) := by decide +kernel
theorem d_En_join_66 : decode m_En_join.2.1 66 = .ok (.goto (-54), 3) := by decide +kernel
theorem d_En_join_69 : decode m_En_join.2.1 69 = .ok (.aload_n 0, 1) := by decide +kernel
theorem d_En_join_70 : decode m_En_join.2.1 70 = .ok (.aload_n 0, 1) := by decide +kernel
theorem d_En_join_71 : decode m_En_join.2.1 71 = .ok (.aload_n 0, 1) := by decide +kernel
theorem d_En_join_72 : decode m_En_join.2.1 72 = .ok (.getfield 34, 3) := by decide +kernel
theorem d_En_join_75 : decode m_En_join.2.1 75 = .ok (.aload_n 0, 1) := by decide +kernel
theorem d_En_join_76 : decode m_En_join.2.1 76 = .ok (.getfield 72, 3) := by decide +kernel
theorem d_En_join_79 : decode m_En_join.2.1 79 = .ok (.iaload, 1) := by decide +kernel
theorem d_En_join_80 : decode m_En_join.2.1 80 = .ok (.aload_n 0, 1) := by decide +kernel
theorem d_En_join_81 : decode m_En_join.2.1 81 = .ok (.getfield 37, 3) := by decide +kernel
theorem d_En_join_84 : decode m_En_join.2.1 84 = .ok (.aload_n 0, 1) := by decide +kernel
theorem d_En_join_85 : decode m_En_join.2.1 85 = .ok (.getfield 72, 3) := by decide +kernel
theorem d_En_join_88 : decode m_En_join.2.1 88 = .ok (.iaload, 1) := by decide +kernel
theorem d_En_join_89 : decode m_En_join.2.1 89 = .ok (.invokevirtual 218, 3) := by decide +kernel
theorem d_En_join_92 : decode m_En_join.2.1 92 = .ok (.putfield 68, 3) := by decide +kernel
theorem d_En_join_95 : decode m_En_join.2.1 95 = .ok (.aload_n 0, 1) := by decide +kernel
theorem d_En_join_96 : decode m_En_join.2.1 96 = .ok (.iconst 0, 1) := by decide +kernel
theorem d_En_join_97 : decode m_En_join.2.1 97 = .ok (.putfield 75, 3) := by decide +kernel
theorem d_En_join_100 : decode m_En_join.2.1 100 = .ok (.return_, 1) := by decide +kernel
theorem d_En_joined_0 : decode m_En_joined.2.1 0 = .ok (.aload_n 0, 1) := by decide +kernel
theorem d_En_joined_1 : decode m_En_joined.2.1 1 = .ok (.getfield 68, 3) := by decide +kernel
theorem d_En_joined_4 : decode m_En_joined.2.1 4 = .ok (.aload_n 0, 1) := by decide +kernel
theorem d_En_joined_5 : decode m_En_joined.2.1 5 = .ok (.getfield 12, 3) := by decide +kernel
theorem d_En_joined_8 : decode m_En_joined.2.1 8 = .ok (.getfield 46, 3) := by decide +kernel
theorem d_En_joined_11 : decode m_En_joined.2.1 11 = .ok (.iload_n 1, 1) := by decide +kernel
theorem d_En_joined_12 : decode m_En_joined.2.1 12 = .ok (.iload_n 2, 1) := by decide +kernel
theorem d_En_joined_13 : decode m_En_joined.2.1 13 = .ok (.invokevirtual 185, 3) := by decide +kernel
theorem d_En_joined_16 : decode m_En_joined.2.1 16 = .ok (.if_icmp .ne 7, 3) := by decide +kernel
theorem d_En_joined_19 : decode m_En_joined.2.1 19 = .ok (.iconst 1, 1) := by decide +kernel
theorem d_En_joined_20 : decode m_En_joined.2.1 20 = .ok (.goto 4, 3) := by decide +kernel
theorem d_En_joined_23 : decode m_En_joined.2.1 23 = .ok (.iconst 0, 1) := by decide +kernel
theorem d_En_joined_24 : decode m_En_joined.2.1 24 = .ok (.istore_n 3, 1) := by decide +kernel
theorem d_En_joined_25 : decode m_En_joined.2.1 25 = .ok (.aload_n 0, 1) := by decide +kernel
theorem d_En_joined_26 : decode m_En_joined.2.1 26 = .ok (.getfield 31, 3) := by decide +kernel
theorem d_En_joined_29 : decode m_En_joined.2.1 29 = .ok (.aload_n 0, 1) := by decide +kernel
theorem d_En_joined_30 : decode m_En_joined.2.1 30 = .ok (.getfield 72, 3) := by decide +kernel
theorem d_En_joined_33 : decode m_En_joined.2.1 33 = .ok (.iaload, 1) := by decide +kernel
theorem d_En_joined_34 : decode m_En_joined.2.1 34 = .ok (.aload_n 0, 1) := by decide +kernel
theorem d_En_joined_35 : decode m_En_joined.2.1 35 = .ok (.getfield 12, 3) := by decide +kernel
theorem d_En_joined_38 : decode m_En_joined.2.1 38 = .ok (.getfield 46, 3) := by decide +kernel
theorem d_En_joined_41 : decode m_En_joined.2.1 41 = .ok (.iload_n 1, 1) := by decide +kernel
theorem d_En_joined_42 : decode m_En_joined.2.1 42 = .ok (.iload_n 2, 1) := by decide +kernel
theorem d_En_joined_43 : decode m_En_joined.2.1 43 = .ok (.iconst 1, 1) := by decide +kernel
theorem d_En_joined_44 : decode m_En_joined.2.1 44 = .ok (.ixor, 1) := by decide +kernel
theorem d_En_joined_45 : decode m_En_joined.2.1 45 = .ok (.invokevirtual 185, 3) := by decide +kernel
theorem d_En_joined_48 : decode m_En_joined.2.1 48 = .ok (.if_icmp .ne 7, 3) := by decide +kernel
theorem d_En_joined_51 : decode m_En_joined.2.1 51 = .ok (.iconst 1, 1) := by decide +kernel
theorem d_En_joined_52 : decode m_En_joined.2.1 52 = .ok (.goto 4, 3) := by decide +kernel
theorem d_En_joined_55 : decode m_En_joined.2.1 55 = .ok (.iconst 0, 1) := by decide +kernel
theorem d_En_joined_56 : decode m_En_joined.2.1 56 = .ok (.istore 4, 2) := by decide +kernel
theorem d_En_joined_58 : decode m_En_joined.2.1 58 = .ok (.iload_n 3, 1) := by decide +kernel
theorem d_En_joined_59 : decode m_En_joined.2.1 59 = .ok (.ifCond .eq 12, 3) := by decide +kernel
theorem d_En_joined_62 : decode m_En_joined.2.1 62 = .ok (.iload 4, 2) := by decide +kernel
theorem d_En_joined_64 : decode m_En_joined.2.1 64 = .ok (.ifCond .eq 7, 3) := by decide +kernel
theorem d_En_joined_67 : decode m_En_joined.2.1 67 = .ok (.iload_n 1, 1) := by decide +kernel
theorem d_En_joined_68 : decode m_En_joined.2.1 68 = .ok (.goto 26, 3) := by decide +kernel
theorem d_En_joined_71 : decode m_En_joined.2.1 71 = .ok (.aload_n 0, 1) := by decide +kernel
theorem d_En_joined_72 : decode m_En_joined.2.1 72 = .ok (.getfield 12, 3) := by decide +kernel
theorem d_En_joined_75 : decode m_En_joined.2.1 75 = .ok (.getfield 46, 3) := by decide +kernel
theorem d_En_joined_78 : decode m_En_joined.2.1 78 = .ok (.aload_n 0, 1) := by decide +kernel
theorem d_En_joined_79 : decode m_En_joined.2.1 79 = .ok (.getfield 68, 3) := by decide +kernel
theorem d_En_joined_82 : decode m_En_joined.2.1 82 = .ok (.aload_n 0, 1) := by decide +kernel
theorem d_En_joined_83 : decode m_En_joined.2.1 83 = .ok (.getfield 31, 3) := by decide +kernel
theorem d_En_joined_86 : decode m_En_joined.2.1 86 = .ok (.aload_n 0, 1) := by decide +kernel
theorem d_En_joined_87 : decode m_En_joined.2.1 87 = .ok (.getfield 72, 3) := by decide +kernel
theorem d_En_joined_90 : decode m_En_joined.2.1 90 = .ok (.iaload, 1) := by decide +kernel
theorem d_En_joined_91 : decode m_En_joined.2.1 91 = .ok (.invokevirtual 107, 3) := by decide +kernel
theorem d_En_joined_94 : decode m_En_joined.2.1 94 = .ok (.ireturn, 1) := by decide +kernel
theorem d_En_turn_0 : decode m_En_turn.2.1 0 = .ok (.aload_n 0, 1) := by decide +kernel
theorem d_En_turn_1 : decode m_En_turn.2.1 1 = .ok (.getfield 40, 3) := by decide +kernel
theorem d_En_turn_4 : decode m_En_turn.2.1 4 = .ok (.iload_n 2, 1) := by decide +kernel
theorem d_En_turn_5 : decode m_En_turn.2.1 5 = .ok (.iaload, 1) := by decide +kernel
theorem d_En_turn_6 : decode m_En_turn.2.1 6 = .ok (.ifCond .ne 18, 3) := by decide +kernel
theorem d_En_turn_9 : decode m_En_turn.2.1 9 = .ok (.aload_n 0, 1) := by decide +kernel
theorem d_En_turn_10 : decode m_En_turn.2.1 10 = .ok (.iload_n 3, 1) := by decide +kernel
theorem d_En_turn_11 : decode m_En_turn.2.1 11 = .ok (.invokevirtual 212, 3) := by decide +kernel
theorem d_En_turn_14 : decode m_En_turn.2.1 14 = .ok (.aload_n 0, 1) := by decide +kernel
theorem d_En_turn_15 : decode m_En_turn.2.1 15 = .ok (.getfield 50, 3) := by decide +kernel
theorem d_En_turn_18 : decode m_En_turn.2.1 18 = .ok (.getfield 197, 3) := by decide +kernel
theorem d_En_turn_21 : decode m_En_turn.2.1 21 = .ok (.iload_n 1, 1) := by decide +kernel
theorem d_En_turn_22 : decode m_En_turn.2.1 22 = .ok (.iaload, 1) := by decide +kernel
theorem d_En_turn_23 : decode m_En_turn.2.1 23 = .ok (.ireturn, 1) := by decide +kernel
theorem d_En_turn_24 : decode m_En_turn.2.1 24 = .ok (.aload_n 0, 1) := by decide +kernel
theorem d_En_turn_25 : decode m_En_turn.2.1 25 = .ok (.getfield 40, 3) := by decide +kernel
theorem d_En_turn_28 : decode m_En_turn.2.1 28 = .ok (.iload_n 2, 1) := by decide +kernel
theorem d_En_turn_29 : decode m_En_turn.2.1 29 = .ok (.dup2, 1) := by decide +kernel
theorem d_En_turn_30 : decode m_En_turn.2.1 30 = .ok (.iaload, 1) := by decide +kernel
theorem d_En_turn_31 : decode m_En_turn.2.1 31 = .ok (.iconst 1, 1) := by decide +kernel
theorem d_En_turn_32 : decode m_En_turn.2.1 32 = .ok (.isub, 1) := by decide +kernel
theorem d_En_turn_33 : decode m_En_turn.2.1 33 = .ok (.iastore, 1) := by decide +kernel
theorem d_En_turn_34 : decode m_En_turn.2.1 34 = .ok (.aload_n 0, 1) := by decide +kernel
theorem d_En_turn_35 : decode m_En_turn.2.1 35 = .ok (.iload_n 3, 1) := by decide +kernel
theorem d_En_turn_36 : decode m_En_turn.2.1 36 = .ok (.invokevirtual 188, 3) := by decide +kernel
theorem d_En_turn_39 : decode m_En_turn.2.1 39 = .ok (.iload_n 1, 1) := by decide +kernel
theorem d_En_turn_40 : decode m_En_turn.2.1 40 = .ok (.iconst 1, 1) := by decide +kernel
theorem d_En_turn_41 : decode m_En_turn.2.1 41 = .ok (.iadd, 1) := by decide +kernel
theorem d_En_turn_42 : decode m_En_turn.2.1 42 = .ok (.ireturn, 1) := by decide +kernel
theorem d_En_deny_0 : decode m_En_deny.2.1 0 = .ok (.iconst 0, 1) := by decide +kernel
theorem d_En_deny_1 : decode m_En_deny.2.1 1 = .ok (.istore_n 2, 1) := by decide +kernel
theorem d_En_deny_2 : decode m_En_deny.2.1 2 = .ok (.iload_n 2, 1) := by decide +kernel
theorem d_En_deny_3 : decode m_En_deny.2.1 3 = .ok (.aload_n 0, 1) := by decide +kernel
theorem d_En_deny_4 : decode m_En_deny.2.1 4 = .ok (.getfield 75, 3) := by decide +kernel
theorem d_En_deny_7 : decode m_En_deny.2.1 7 = .ok (.if_icmp .ge 20, 3) := by decide +kernel
theorem d_En_deny_10 : decode m_En_deny.2.1 10 = .ok (.aload_n 0, 1) := by decide +kernel
theorem d_En_deny_11 : decode m_En_deny.2.1 11 = .ok (.getfield 43, 3) := by decide +kernel
theorem d_En_deny_14 : decode m_En_deny.2.1 14 = .ok (.iload_n 2, 1) := by decide +kernel
theorem d_En_deny_15 : decode m_En_deny.2.1 15 = .ok (.iaload, 1) := by decide +kernel
theorem d_En_deny_16 : decode m_En_deny.2.1 16 = .ok (.iload_n 1, 1) := by decide +kernel
theorem d_En_deny_17 : decode m_En_deny.2.1 17 = .ok (.if_icmp .ne 4, 3) := by decide +kernel
theorem d_En_deny_20 : decode m_En_deny.2.1 20 = .ok (.return_, 1) := by decide +kernel
theorem d_En_deny_21 : decode m_En_deny.2.1 21 = .ok (.iinc 2 1, 3) := by decide +kernel
theorem d_En_deny_24 : decode m_En_deny.2.1 24 = .ok (.goto (-22), 3) := by decide +kernel
theorem d_En_deny_27 : decode m_En_deny.2.1 27 = .ok (.aload_n 0, 1) := by decide +kernel
theorem d_En_deny_28 : decode m_En_deny.2.1 28 = .ok (.getfield 75, 3) := by decide +kernel
theorem d_En_deny_31 : decode m_En_deny.2.1 31 = .ok (.bipush 32, 2) := by decide +kernel
theorem d_En_deny_33 : decode m_En_deny.2.1 33 = .ok (.if_icmp .ne 8, 3) := by decide +kernel
theorem d_En_deny_36 : decode m_En_deny.2.1 36 = .ok (.aload_n 0, 1) := by decide +kernel
theorem d_En_deny_37 : decode m_En_deny.2.1 37 = .ok (.iconst 0, 1) := by decide +kernel
theorem d_En_deny_38 : decode m_En_deny.2.1 38 = .ok (.putfield 75, 3) := by decide +kernel
theorem d_En_deny_41 : decode m_En_deny.2.1 41 = .ok (.aload_n 0, 1) := by decide +kernel
theorem d_En_deny_42 : decode m_En_deny.2.1 42 = .ok (.getfield 43, 3) := by decide +kernel
theorem d_En_deny_45 : decode m_En_deny.2.1 45 = .ok (.aload_n 0, 1) := by decide +kernel
theorem d_En_deny_46 : decode m_En_deny.2.1 46 = .ok (.getfield 75, 3) := by decide +kernel
theorem d_En_deny_49 : decode m_En_deny.2.1 49 = .ok (.iload_n 1, 1) := by decide +kernel
theorem d_En_deny_50 : decode m_En_deny.2.1 50 = .ok (.iastore, 1) := by decide +kernel
theorem d_En_deny_51 : decode m_En_deny.2.1 51 = .ok (.aload_n 0, 1) := by decide +kernel
theorem d_En_deny_52 : decode m_En_deny.2.1 52 = .ok (.dup, 1) := by decide +kernel
theorem d_En_deny_53 : decode m_En_deny.2.1 53 = .ok (.getfield 75, 3) := by decide +kernel
theorem d_En_deny_56 : decode m_En_deny.2.1 56 = .ok (.iconst 1, 1) := by decide +kernel
theorem d_En_deny_57 : decode m_En_deny.2.1 57 = .ok (.iadd, 1) := by decide +kernel
theorem d_En_deny_58 : decode m_En_deny.2.1 58 = .ok (.putfield 75, 3) := by decide +kernel
theorem d_En_deny_61 : decode m_En_deny.2.1 61 = .ok (.aload_n 0, 1) := by decide +kernel
theorem d_En_deny_62 : decode m_En_deny.2.1 62 = .ok (.aload_n 0, 1) := by decide +kernel
theorem d_En_deny_63 : decode m_En_deny.2.1 63 = .ok (.getfield 12, 3) := by decide +kernel
theorem d_En_deny_66 : decode m_En_deny.2.1 66 = .ok (.getfield 46, 3) := by decide +kernel
theorem d_En_deny_69 : decode m_En_deny.2.1 69 = .ok (.aload_n 0, 1) := by decide +kernel
theorem d_En_deny_70 : decode m_En_deny.2.1 70 = .ok (.getfield 68, 3) := by decide +kernel
theorem d_En_deny_73 : decode m_En_deny.2.1 73 = .ok (.iload_n 1, 1) := by decide +kernel
theorem d_En_deny_74 : decode m_En_deny.2.1 74 = .ok (.iconst 1, 1) := by decide +kernel
theorem d_En_deny_75 : decode m_En_deny.2.1 75 = .ok (.ixor, 1) := by decide +kernel
theorem d_En_deny_76 : decode m_En_deny.2.1 76 = .ok (.invokevirtual 185, 3) := by decide +kernel
theorem d_En_deny_79 : decode m_En_deny.2.1 79 = .ok (.putfield 68, 3) := by decide +kernel
theorem d_En_deny_82 : decode m_En_deny.2.1 82 = .ok (.return_, 1) := by decide +kernel
theorem d_En_dropQuestion_0 : decode m_En_dropQuestion.2.1 0 = .ok (.aload_n 0, 1) := by decide +kernel
theorem d_En_dropQuestion_1 : decode m_En_dropQuestion.2.1 1 = .ok (.getfield 12, 3) := by decide +kernel
theorem d_En_dropQuestion_4 : decode m_En_dropQuestion.2.1 4 = .ok (.getfield 46, 3) := by decide +kernel
theorem d_En_dropQuestion_7 : decode m_En_dropQuestion.2.1 7 = .ok (.aload_n 0, 1) := by decide +kernel
theorem d_En_dropQuestion_8 : decode m_En_dropQuestion.2.1 8 = .ok (.getfield 113, 3) := by decide +kernel
theorem d_En_dropQuestion_11 : decode m_En_dropQuestion.2.1 11 = .ok (.invokevirtual 123, 3) := by decide +kernel
theorem d_En_dropQuestion_14 : decode m_En_dropQuestion.2.1 14 = .ok (.return_, 1) := by decide +kernel
theorem d_En_difference_0 : decode m_En_difference.2.1 0 = .ok (.iconst 1, 1) := by decide +kernel
theorem d_En_difference_1 : decode m_En_difference.2.1 1 = .ok (.istore_n 3, 1) := by decide +kernel
theorem d_En_difference_2 : decode m_En_difference.2.1 2 = .ok (.iconst 0, 1) := by decide +kernel
theorem d_En_difference_3 : decode m_En_difference.2.1 3 = .ok (.istore 4, 2) := by decide +kernel
theorem d_En_difference_5 : decode m_En_difference.2.1 5 = .ok (.iload 4, 2) := by decide +kernel
theorem d_En_difference_7 : decode m_En_difference.2.1 7 = .ok (.bipush 8, 2) := by decide +kernel
theorem d_En_difference_9 : decode m_En_difference.2.1 9 = .ok (.if_icmp .ge 55, 3) := by decide +kernel
theorem d_En_difference_12 : decode m_En_difference.2.1 12 = .ok (.aload_n 0, 1) := by decide +kernel
theorem d_En_difference_13 : decode m_En_difference.2.1 13 = .ok (.getfield 12, 3) := by decide +kernel
theorem d_En_difference_16 : decode m_En_difference.2.1 16 = .ok (.getfield 46, 3) := by decide +kernel
theorem d_En_difference_19 : decode m_En_difference.2.1 19 = .ok (.iload_n 3, 1) := by decide +kernel
theorem d_En_difference_20 : decode m_En_difference.2.1 20 = .ok (.aload_n 0, 1) := by decide +kernel
theorem d_En_difference_21 : decode m_En_difference.2.1 21 = .ok (.getfield 12, 3) := by decide +kernel
theorem d_En_difference_24 : decode m_En_difference.2.1 24 = .ok (.getfield 46, 3) := by decide +kernel
theorem d_En_difference_27 : decode m_En_difference.2.1 27 = .ok (.aload_n 0, 1) := by decide +kernel
theorem d_En_difference_28 : decode m_En_difference.2.1 28 = .ok (.getfield 22, 3) := by decide +kernel
theorem d_En_difference_31 : decode m_En_difference.2.1 31 = .ok (.iload_n 1, 1) := by decide +kernel
theorem d_En_difference_32 : decode m_En_difference.2.1 32 = .ok (.bipush 8, 2) := by decide +kernel
theorem d_En_difference_34 : decode m_En_difference.2.1 34 = .ok (.imul, 1) := by decide +kernel
theorem d_En_difference_35 : decode m_En_difference.2.1 35 = .ok (.iload 4, 2) := by decide +kernel
theorem d_En_difference_37 : decode m_En_difference.2.1 37 = .ok (.iadd, 1) := by decide +kernel
theorem d_En_difference_38 : decode m_En_difference.2.1 38 = .ok (.iaload, 1) := by decide +kernel
theorem d_En_difference_39 : decode m_En_difference.2.1 39 = .ok (.aload_n 0, 1) := by decide +kernel
theorem d_En_difference_40 : decode m_En_difference.2.1 40 = .ok (.getfield 22, 3) := by decide +kernel
theorem d_En_difference_43 : decode m_En_difference.2.1 43 = .ok (.iload_n 2, 1) := by decide +kernel
theorem d_En_difference_44 : decode m_En_difference.2.1 44 = .ok (.bipush 8, 2) := by decide +kernel
theorem d_En_difference_46 : decode m_En_difference.2.1 46 = .ok (.imul, 1) := by decide +kernel
theorem d_En_difference_47 : decode m_En_difference.2.1 47 = .ok (.iload 4, 2) := by decide +kernel
theorem d_En_difference_49 : decode m_En_difference.2.1 49 = .ok (.iadd, 1) := by decide +kernel
theorem d_En_difference_50 : decode m_En_difference.2.1 50 = .ok (.iaload, 1) := by decide +kernel
theorem d_En_difference_51 : decode m_En_difference.2.1 51 = .ok (.invokevirtual 127, 3) := by decide +kernel
theorem d_En_difference_54 : decode m_En_difference.2.1 54 = .ok (.invokevirtual 107, 3) := by decide +kernel
theorem d_En_difference_57 : decode m_En_difference.2.1 57 = .ok (.istore_n 3, 1) := by decide +kernel
theorem d_En_difference_58 : decode m_En_difference.2.1 58 = .ok (.iinc 4 1, 3) := by decide +kernel
theorem d_En_difference_61 : decode m_En_difference.2.1 61 = .ok (.goto (-56), 3) := by decide +kernel
theorem d_En_difference_64 : decode m_En_difference.2.1 64 = .ok (.iload_n 3, 1) := by decide +kernel
theorem d_En_difference_65 : decode m_En_difference.2.1 65 = .ok (.ireturn, 1) := by decide +kernel
theorem f_En_84 : q_FR "ProofHall$Encoder" 84 2 14 := ⟨"[I", by decide, ⟨_, _, _, rfl, by decide, rfl, Or.inl (List.mem_of_getElem? (i := 241) (by decide +kernel))⟩⟩
theorem f_En_87 : q_FR "ProofHall$Encoder" 87 2 15 := ⟨"[I", by decide, ⟨_, _, _, rfl, by decide, rfl, Or.inl (List.mem_of_getElem? (i := 244) (by decide +kernel))⟩⟩
theorem cd_En_evaluate : q_cd m_En_evaluate := ⟨by decide +kernel, List.mem_of_getElem? (i := 11) (by decide +kernel), Or.inl ⟨rfl, List.mem_of_getElem? (i := 1025) (by decide +kernel)⟩⟩
theorem cV_En_90 : q_CV "ProofHall$Encoder" 90 7 m_En_evaluate 2 := ⟨⟨cd_En_evaluate, by decide, by decide, by decide, by decide +kernel⟩, Or.inl (List.mem_of_getElem? (i := 1022) (by decide +kernel)), List.mem_of_getElem? (i := 1024) (by decide +kernel), _, _, _, rfl, by decide +kernel⟩
theorem f_En_101 : q_F "ProofHall$Encoder" 101 7 6 "I" := ⟨_, _, _, rfl, by decide, rfl, Or.inl (List.mem_of_getElem? (i := 425) (by decide +kernel))⟩
theorem cV_En_107 : q_CV "ProofHall$Encoder" 107 5 m_Ci_or 2 := ⟨⟨cd_Ci_or, by decide, by decide, by decide, by decide +kernel⟩, Or.inl (List.mem_of_getElem? (i := 1137) (by decide +kernel)), List.mem_of_getElem? (i := 1094) (by decide +kernel), _, _, _, rfl, List.mem_append_right _ (List.mem_of_getElem? (i := 1095) (by decide +kernel))⟩
theorem f_En_94 : q_FR "ProofHall$Encoder" 94 2 13 := ⟨"[I", by decide, ⟨_, _, _, rfl, by decide, rfl, Or.inl (List.mem_of_getElem? (i := 237) (by decide +kernel))⟩⟩
theorem cd_En_perform : q_cd m_En_perform := ⟨by decide +kernel, List.mem_of_getElem? (i := 11) (by decide +kernel), Or.inl ⟨rfl, List.mem_of_getElem? (i := 1129) (by decide +kernel)⟩⟩
theorem cV_En_97 : q_CV "ProofHall$Encoder" 97 7 m_En_perform 2 := ⟨⟨cd_En_perform, by decide, by decide, by decide, by decide +kernel⟩, Or.inl (List.mem_of_getElem? (i := 1126) (by decide +kernel)), List.mem_of_getElem? (i := 1128) (by decide +kernel), _, _, _, rfl, by decide +kernel⟩
theorem f_En_116 : q_FR "ProofHall$Encoder" 116 2 2 := ⟨"[I", by decide, ⟨_, _, _, rfl, by decide, rfl, Or.inl (List.mem_of_getElem? (i := 201) (by decide +kernel))⟩⟩
theorem cd_Ci_leaf : q_cd m_Ci_leaf := ⟨by decide +kernel, List.mem_of_getElem? (i := 13) (by decide +kernel), Or.inl ⟨rfl, List.mem_of_getElem? (i := 1020) (by decide +kernel)⟩⟩
theorem cV_En_119 : q_CV "ProofHall$Encoder" 119 5 m_Ci_leaf 0 := ⟨⟨cd_Ci_leaf, by decide, by decide, by decide, by decide +kernel⟩, Or.inl (List.mem_of_getElem? (i := 1017) (by decide +kernel)), List.mem_of_getElem? (i := 1018) (by decide +kernel), _, _, _, rfl, List.mem_append_right _ (List.mem_of_getElem? (i := 1019) (by decide +kernel))⟩
theorem f_En_130 : q_FR "ProofHall$Encoder" 130 2 18 := ⟨"[I", by decide, ⟨_, _, _, rfl, by decide, rfl, Or.inl (List.mem_of_getElem? (i := 253) (by decide +kernel))⟩⟩
theorem f_En_133 : q_FR "ProofHall$Encoder" 133 2 19 := ⟨"[I", by decide, ⟨_, _, _, rfl, by decide, rfl, Or.inl (List.mem_of_getElem? (i := 257) (by decide +kernel))⟩⟩
theorem cd_En_fetch : q_cd m_En_fetch := ⟨by decide +kernel, List.mem_of_getElem? (i := 11) (by decide +kernel), Or.inl ⟨rfl, List.mem_of_getElem? (i := 1029) (by decide +kernel)⟩⟩
theorem cV_En_136 : q_CV "ProofHall$Encoder" 136 7 m_En_fetch 3 := ⟨⟨cd_En_fetch, by decide, by decide, by decide, by decide +kernel⟩, Or.inl (List.mem_of_getElem? (i := 1026) (by decide +kernel)), List.mem_of_getElem? (i := 1028) (by decide +kernel), _, _, _, rfl, by decide +kernel⟩
theorem cd_Wo_choose : q_cd m_Wo_choose := ⟨by decide +kernel, List.mem_of_getElem? (i := 12) (by decide +kernel), Or.inl ⟨rfl, List.mem_of_getElem? (i := 1044) (by decide +kernel)⟩⟩
theorem cV_En_140 : q_CV "ProofHall$Encoder" 140 6 m_Wo_choose 3 := ⟨⟨cd_Wo_choose, by decide, by decide, by decide, by decide +kernel⟩, Or.inl (List.mem_of_getElem? (i := 1041) (by decide +kernel)), List.mem_of_getElem? (i := 1042) (by decide +kernel), _, _, _, rfl, List.mem_append_right _ (List.mem_of_getElem? (i := 1043) (by decide +kernel))⟩
theorem f_En_143 : q_FR "ProofHall$Encoder" 143 2 20 := ⟨"[I", by decide, ⟨_, _, _, rfl, by decide, rfl, Or.inl (List.mem_of_getElem? (i := 261) (by decide +kernel))⟩⟩
theorem cd_Wo_single : q_cd m_Wo_single := ⟨by decide +kernel, List.mem_of_getElem? (i := 12) (by decide +kernel), Or.inl ⟨rfl, List.mem_of_getElem? (i := 1078) (by decide +kernel)⟩⟩
theorem cV_En_146 : q_CV "ProofHall$Encoder" 146 6 m_Wo_single 3 := ⟨⟨cd_Wo_single, by decide, by decide, by decide, by decide +kernel⟩, Or.inl (List.mem_of_getElem? (i := 1075) (by decide +kernel)), List.mem_of_getElem? (i := 1076) (by decide +kernel), _, _, _, rfl, List.mem_append_right _ (List.mem_of_getElem? (i := 1077) (by decide +kernel))⟩
theorem cd_Wo_arithmetic : q_cd m_Wo_arithmetic := ⟨by decide +kernel, List.mem_of_getElem? (i := 12) (by decide +kernel), Or.inl ⟨rfl, List.mem_of_getElem? (i := 1088) (by decide +kernel)⟩⟩
theorem cV_En_149 : q_CV "ProofHall$Encoder" 149 6 m_Wo_arithmetic 4 := ⟨⟨cd_Wo_arithmetic, by decide, by decide, by decide, by decide +kernel⟩, Or.inl (List.mem_of_getElem? (i := 1085) (by decide +kernel)), List.mem_of_getElem? (i := 1086) (by decide +kernel), _, _, _, rfl, List.mem_append_right _ (List.mem_of_getElem? (i := 1087) (by decide +kernel))⟩
theorem cd_Wo_logic : q_cd m_Wo_logic := ⟨by decide +kernel, List.mem_of_getElem? (i := 12) (by decide +kernel), Or.inl ⟨rfl, List.mem_of_getElem? (i := 1113) (by decide +kernel)⟩⟩
theorem cV_En_153 : q_CV "ProofHall$Encoder" 153 6 m_Wo_logic 3 := ⟨⟨cd_Wo_logic, by decide, by decide, by decide, by decide +kernel⟩, Or.inl (List.mem_of_getElem? (i := 1110) (by decide +kernel)), List.mem_of_getElem? (i := 1111) (by decide +kernel), _, _, _, rfl, List.mem_append_right _ (List.mem_of_getElem? (i := 1112) (by decide +kernel))⟩
theorem cd_Wo_load : q_cd m_Wo_load := ⟨by decide +kernel, List.mem_of_getElem? (i := 12) (by decide +kernel), Or.inl ⟨rfl, List.mem_of_getElem? (i := 1037) (by decide +kernel)⟩⟩
theorem cV_En_159 : q_CV "ProofHall$Encoder" 159 6 m_Wo_load 3 := ⟨⟨cd_Wo_load, by decide, by decide, by decide, by decide +kernel⟩, Or.inl (List.mem_of_getElem? (i := 1034) (by decide +kernel)), List.mem_of_getElem? (i := 1035) (by decide +kernel), _, _, _, rfl, List.mem_append_right _ (List.mem_of_getElem? (i := 1036) (by decide +kernel))⟩
theorem cV_En_156 : q_CV "ProofHall$Encoder" 156 6 m_Wo_loadNumber 2 := ⟨⟨cd_Wo_loadNumber, by decide, by decide, by decide, by decide +kernel⟩, Or.inl (List.mem_of_getElem? (i := 1030) (by decide +kernel)), List.mem_of_getElem? (i := 1031) (by decide +kernel), _, _, _, rfl, List.mem_append_right _ (List.mem_of_getElem? (i := 1032) (by decide +kernel))⟩
theorem f_En_163 : q_FR "ProofHall$Encoder" 163 2 12 := ⟨"[I", by decide, ⟨_, _, _, rfl, by decide, rfl, Or.inl (List.mem_of_getElem? (i := 235) (by decide +kernel))⟩⟩
theorem f_En_166 : q_FR "ProofHall$Encoder" 166 6 1 := ⟨"[I", by decide, ⟨_, _, _, rfl, by decide, rfl, Or.inl (List.mem_of_getElem? (i := 402) (by decide +kernel))⟩⟩
theorem f_En_169 : q_FR "ProofHall$Encoder" 169 2 5 := ⟨"[I", by decide, ⟨_, _, _, rfl, by decide, rfl, Or.inl (List.mem_of_getElem? (i := 212) (by decide +kernel))⟩⟩
theorem cV_En_178 : q_CV "ProofHall$Encoder" 178 6 m_Wo_truth 1 := ⟨⟨cd_Wo_truth, by decide, by decide, by decide, by decide +kernel⟩, Or.inl (List.mem_of_getElem? (i := 1131) (by decide +kernel)), List.mem_of_getElem? (i := 1046) (by decide +kernel), _, _, _, rfl, List.mem_append_right _ (List.mem_of_getElem? (i := 1047) (by decide +kernel))⟩
theorem f_En_68 : q_F "ProofHall$Encoder" 68 7 4 "I" := ⟨_, _, _, rfl, by decide, rfl, Or.inl (List.mem_of_getElem? (i := 420) (by decide +kernel))⟩
theorem cd_En_swap : q_cd m_En_swap := ⟨by decide +kernel, List.mem_of_getElem? (i := 11) (by decide +kernel), Or.inl ⟨rfl, List.mem_of_getElem? (i := 1145) (by decide +kernel)⟩⟩
theorem cV_En_191 : q_CV "ProofHall$Encoder" 191 7 m_En_swap 0 := ⟨⟨cd_En_swap, by decide, by decide, by decide, by decide +kernel⟩, Or.inl (List.mem_of_getElem? (i := 1142) (by decide +kernel)), List.mem_of_getElem? (i := 1144) (by decide +kernel), _, _, _, rfl, by decide +kernel⟩
theorem cd_En_join : q_cd m_En_join := ⟨by decide +kernel, List.mem_of_getElem? (i := 11) (by decide +kernel), Or.inl ⟨rfl, List.mem_of_getElem? (i := 1149) (by decide +kernel)⟩⟩
theorem cV_En_194 : q_CV "ProofHall$Encoder" 194 7 m_En_join 0 := ⟨⟨cd_En_join, by decide, by decide, by decide, by decide +kernel⟩, Or.inl (List.mem_of_getElem? (i := 1146) (by decide +kernel)), List.mem_of_getElem? (i := 1148) (by decide +kernel), _, _, _, rfl, by decide +kernel⟩
theorem f_En_40 : q_FR "ProofHall$Encoder" 40 7 13 := ⟨"[I", by decide, ⟨_, _, _, rfl, by decide, rfl, Or.inl (List.mem_of_getElem? (i := 433) (by decide +kernel))⟩⟩
theorem f_En_197 : q_FR "ProofHall$Encoder" 197 2 16 := ⟨"[I", by decide, ⟨_, _, _, rfl, by decide, rfl, Or.inl (List.mem_of_getElem? (i := 247) (by decide +kernel))⟩⟩
theorem f_En_200 : q_F "ProofHall$Encoder" 200 2 4 "I" := ⟨_, _, _, rfl, by decide, rfl, Or.inl (List.mem_of_getElem? (i := 207) (by decide +kernel))⟩
theorem cd_En_claim : q_cd m_En_claim := ⟨by decide +kernel, List.mem_of_getElem? (i := 11) (by decide +kernel), Or.inl ⟨rfl, List.mem_of_getElem? (i := 1135) (by decide +kernel)⟩⟩
theorem cV_En_182 : q_CV "ProofHall$Encoder" 182 7 m_En_claim 2 := ⟨⟨cd_En_claim, by decide, by decide, by decide, by decide +kernel⟩, Or.inl (List.mem_of_getElem? (i := 1132) (by decide +kernel)), List.mem_of_getElem? (i := 1134) (by decide +kernel), _, _, _, rfl, by decide +kernel⟩
theorem cV_En_185 : q_CV "ProofHall$Encoder" 185 5 m_Ci_and 2 := ⟨⟨cd_Ci_and, by decide, by decide, by decide, by decide +kernel⟩, Or.inl (List.mem_of_getElem? (i := 1136) (by decide +kernel)), List.mem_of_getElem? (i := 1054) (by decide +kernel), _, _, _, rfl, List.mem_append_right _ (List.mem_of_getElem? (i := 1055) (by decide +kernel))⟩
theorem cd_En_fork : q_cd m_En_fork := ⟨by decide +kernel, List.mem_of_getElem? (i := 11) (by decide +kernel), Or.inl ⟨rfl, List.mem_of_getElem? (i := 1141) (by decide +kernel)⟩⟩
theorem cV_En_188 : q_CV "ProofHall$Encoder" 188 7 m_En_fork 1 := ⟨⟨cd_En_fork, by decide, by decide, by decide, by decide +kernel⟩, Or.inl (List.mem_of_getElem? (i := 1138) (by decide +kernel)), List.mem_of_getElem? (i := 1140) (by decide +kernel), _, _, _, rfl, by decide +kernel⟩
theorem cd_En_turn : q_cd m_En_turn := ⟨by decide +kernel, List.mem_of_getElem? (i := 11) (by decide +kernel), Or.inl ⟨rfl, List.mem_of_getElem? (i := 1159) (by decide +kernel)⟩⟩
theorem cV_En_208 : q_CV "ProofHall$Encoder" 208 7 m_En_turn 3 := ⟨⟨cd_En_turn, by decide, by decide, by decide, by decide +kernel⟩, Or.inl (List.mem_of_getElem? (i := 1156) (by decide +kernel)), List.mem_of_getElem? (i := 1158) (by decide +kernel), _, _, _, rfl, by decide +kernel⟩
theorem f_En_28 : q_FR "ProofHall$Encoder" 28 7 8 := ⟨"[I", by decide, ⟨_, _, _, rfl, by decide, rfl, Or.inl (List.mem_of_getElem? (i := 428) (by decide +kernel))⟩⟩
theorem f_En_72 : q_F "ProofHall$Encoder" 72 7 12 "I" := ⟨_, _, _, rfl, by decide, rfl, Or.inl (List.mem_of_getElem? (i := 432) (by decide +kernel))⟩
theorem f_En_31 : q_FR "ProofHall$Encoder" 31 7 9 := ⟨"[I", by decide, ⟨_, _, _, rfl, by decide, rfl, Or.inl (List.mem_of_getElem? (i := 429) (by decide +kernel))⟩⟩
theorem f_En_34 : q_FR "ProofHall$Encoder" 34 7 10 := ⟨"[I", by decide, ⟨_, _, _, rfl, by decide, rfl, Or.inl (List.mem_of_getElem? (i := 430) (by decide +kernel))⟩⟩
theorem f_En_37 : q_FR "ProofHall$Encoder" 37 7 11 := ⟨"[I", by decide, ⟨_, _, _, rfl, by decide, rfl, Or.inl (List.mem_of_getElem? (i := 431) (by decide +kernel))⟩⟩
theorem cd_En_joined : q_cd m_En_joined := ⟨by decide +kernel, List.mem_of_getElem? (i := 11) (by decide +kernel), Or.inl ⟨rfl, List.mem_of_getElem? (i := 1154) (by decide +kernel)⟩⟩
theorem cV_En_218 : q_CV "ProofHall$Encoder" 218 7 m_En_joined 2 := ⟨⟨cd_En_joined, by decide, by decide, by decide, by decide +kernel⟩, Or.inl (List.mem_of_getElem? (i := 1151) (by decide +kernel)), List.mem_of_getElem? (i := 1153) (by decide +kernel), _, _, _, rfl, by decide +kernel⟩
theorem cV_En_215 : q_CV "ProofHall$Encoder" 215 5 m_Ci_pick 3 := ⟨⟨cd_Ci_pick, by decide, by decide, by decide, by decide +kernel⟩, Or.inl (List.mem_of_getElem? (i := 1150) (by decide +kernel)), List.mem_of_getElem? (i := 1067) (by decide +kernel), _, _, _, rfl, List.mem_append_right _ (List.mem_of_getElem? (i := 1068) (by decide +kernel))⟩
theorem cd_En_deny : q_cd m_En_deny := ⟨by decide +kernel, List.mem_of_getElem? (i := 11) (by decide +kernel), Or.inl ⟨rfl, List.mem_of_getElem? (i := 1163) (by decide +kernel)⟩⟩
theorem cV_En_212 : q_CV "ProofHall$Encoder" 212 7 m_En_deny 1 := ⟨⟨cd_En_deny, by decide, by decide, by decide, by decide +kernel⟩, Or.inl (List.mem_of_getElem? (i := 1160) (by decide +kernel)), List.mem_of_getElem? (i := 1162) (by decide +kernel), _, _, _, rfl, by decide +kernel⟩
theorem f_En_75 : q_F "ProofHall$Encoder" 75 7 15 "I" := ⟨_, _, _, rfl, by decide, rfl, Or.inl (List.mem_of_getElem? (i := 435) (by decide +kernel))⟩
theorem f_En_43 : q_FR "ProofHall$Encoder" 43 7 14 := ⟨"[I", by decide, ⟨_, _, _, rfl, by decide, rfl, Or.inl (List.mem_of_getElem? (i := 434) (by decide +kernel))⟩⟩
theorem f_En_113 : q_F "ProofHall$Encoder" 113 7 7 "I" := ⟨_, _, _, rfl, by decide, rfl, Or.inl (List.mem_of_getElem? (i := 427) (by decide +kernel))⟩
theorem cd_Ci_cutBack : q_cd m_Ci_cutBack := ⟨by decide +kernel, List.mem_of_getElem? (i := 13) (by decide +kernel), Or.inl ⟨rfl, List.mem_of_getElem? (i := 1186) (by decide +kernel)⟩⟩
theorem cV_En_123 : q_CV "ProofHall$Encoder" 123 5 m_Ci_cutBack 1 := ⟨⟨cd_Ci_cutBack, by decide, by decide, by decide, by decide +kernel⟩, Or.inl (List.mem_of_getElem? (i := 1183) (by decide +kernel)), List.mem_of_getElem? (i := 1184) (by decide +kernel), _, _, _, rfl, List.mem_append_right _ (List.mem_of_getElem? (i := 1185) (by decide +kernel))⟩
theorem cV_En_127 : q_CV "ProofHall$Encoder" 127 5 m_Ci_xor 2 := ⟨⟨cd_Ci_xor, by decide, by decide, by decide, by decide +kernel⟩, Or.inl (List.mem_of_getElem? (i := 1445) (by decide +kernel)), List.mem_of_getElem? (i := 1071) (by decide +kernel), _, _, _, rfl, List.mem_append_right _ (List.mem_of_getElem? (i := 1072) (by decide +kernel))⟩
set_option maxHeartbeats 2000000 in
theorem b_En_circuit_0 {ω : q_W} {σ : q_H} {Q : q_R → q_H → Prop} {d mc ms : Nat}  {p : Nat} (hp : p = 16 ∨ p = 29) (r481 : q_r σ 48 1 = p) (hE : q_E σ) (h : (Q (.inl (some (.ref 50))) σ)) : J ω m_En_circuit d mc ms 0 0 0 [(0, .ref 48)] [] σ Q := by
  refine j_aload_n d_En_circuit_0 0 rfl ?_
  refine j_getR 49 f_En_12 d_En_circuit_1 (tg_48 hE) (q_okE hE (by decide)) (rf_48_0 hE) (by decide) ?_
  refine j_getR 50 f_En_46 d_En_circuit_4 (tg_49 hE) (q_okE hE (by decide)) (rf_49_0 hE) (by decide) ?_
  exact j_aret d_En_circuit_7 rfl (Or.inl ⟨_, rfl⟩) (Nat.zero_le _) (Nat.zero_le _) h
set_option maxHeartbeats 2000000 in
theorem b_En_encode_0 {ω : q_W} {σ : q_H} {Q : q_R → q_H → Prop} {d mc ms : Nat}  {p : Nat} (hp : p = 16 ∨ p = 29) (r481 : q_r σ 48 1 = p) (hE : q_E σ) (h : (J ω m_Ci_clear d 0 0 0 0 0 [(0, .ref 50)] [] (zr σ 48 1 p) (q_kv (fun τ => J ω m_En_encode (d + 1) mc ms 0 0 15 [(0, .ref 48)] [] τ Q)))) : J ω m_En_encode (d + 1) mc ms 0 0 0 [(0, .ref 48), (1, .ref p)] [] σ Q := by
  refine j_aload_n d_En_encode_0 0 rfl ?_
  refine j_aload_n d_En_encode_1 1 rfl ?_
  refine zj_putR (g_En_50 _) d_En_encode_2 (tg_48 hE) (q_okE hE (by decide)) (by omega) ?_
  refine j_aload_n d_En_encode_5 0 rfl ?_
  refine j_getR 49 f_En_12 d_En_encode_6 (tg_48 (zr_E hE (by decide))) (q_okE (zr_E hE (by decide)) (by decide)) (rf_48_0 (zr_E hE (by decide))) (by decide) ?_
  refine j_getR 50 f_En_46 d_En_encode_9 (tg_49 (zr_E hE (by decide))) (q_okE (zr_E hE (by decide)) (by decide)) (rf_49_0 (zr_E hE (by decide))) (by decide) ?_
  refine j_callV m_Ci_clear [] [] d 0 0 cV_En_54 d_En_encode_12 rfl rfl (tg_50 (zr_E hE (by decide))) (q_okE (zr_E hE (by decide)) (by decide)) (Nat.le_of_ble_eq_true rfl) (Nat.le_refl _) (Nat.le_of_ble_eq_true rfl) (Nat.zero_le _) (Nat.zero_le _) h (fun v τ h => ?_) (fun x τ h => ?_)
  · obtain ⟨e1, h⟩ := h; cases e1; exact j_sel [0] rfl h
  · obtain ⟨e1, h⟩ := h; cases e1
set_option maxHeartbeats 2000000 in
theorem b_En_encode_15 {ω : q_W} {σ : q_H} {Q : q_R → q_H → Prop} {d mc ms : Nat}  {p : Nat} (hp : p = 16 ∨ p = 29) (r481 : q_r σ 48 1 = p) (hE : q_E σ) (h : (J ω m_En_makeInputs d 0 0 0 0 0 [(0, .ref 48)] [] σ (q_kv (fun τ => J ω m_En_encode (d + 1) mc ms 0 0 19 [(0, .ref 48)] [] τ Q)))) : J ω m_En_encode (d + 1) mc ms 0 0 15 [(0, .ref 48)] [] σ Q := by
  refine j_aload_n d_En_encode_15 0 rfl ?_
  refine j_callV m_En_makeInputs [] [] d 0 0 cV_En_59 d_En_encode_16 rfl rfl (tg_48 hE) (q_okE hE (by decide)) (Nat.le_of_ble_eq_true rfl) (Nat.le_refl _) (Nat.le_of_ble_eq_true rfl) (Nat.zero_le _) (Nat.zero_le _) h (fun v τ h => ?_) (fun x τ h => ?_)
  · obtain ⟨e1, h⟩ := h; cases e1; exact j_sel [0] rfl h
  · obtain ⟨e1, h⟩ := h; cases e1
set_option maxHeartbeats 2000000 in
theorem b_En_encode_19 {ω : q_W} {σ : q_H} {Q : q_R → q_H → Prop} {d mc ms : Nat}  {p : Nat} (hp : p = 16 ∨ p = 29) (r481 : q_r σ 48 1 = p) (hE : q_E σ) (h : (J ω m_En_encode (d + 1) mc ms 0 0 54 [(0, .ref 48), (2, .int (zI 0)), (3, .int (zI 0))] [] (zs (zs (zs (zfl (zfl σ 62 96 1) 63 512 1) 48 4 0) 48 12 0) 48 15 0) Q)) : J ω m_En_encode (d + 1) mc ms 0 0 19 [(0, .ref 48)] [] σ Q := by
  refine j_aload_n d_En_encode_19 0 rfl ?_
  refine j_getR 62 f_En_22 d_En_encode_20 (tg_48 hE) (q_okE hE (by decide)) (rf_48_3 hE) (by decide) ?_
  refine j_iconst (v := zI 1) d_En_encode_23 (by decide) ?_
  refine j_callS m_JA_fill [.ref 62, .int (zI 1)] [] 0 0 0 cS_En_62 d_En_encode_24 rfl rfl (Nat.le_of_ble_eq_true rfl) (Nat.succ_le_succ (Nat.zero_le _)) (Nat.le_of_ble_eq_true rfl) (Nat.zero_le _) (Nat.zero_le _) (c_JA_fill (tg_62 hE) (q_okE hE (by decide)) (by decide) (by decide) _) (fun v τ h => ?_) (fun x τ h => absurd h.1 (by simp))
  obtain ⟨e1, e2⟩ := h; cases e1; rw [e2]
  refine j_aload_n d_En_encode_27 0 rfl ?_
  refine j_getR 63 f_En_25 d_En_encode_28 (tg_48 (zfl_E hE)) (q_okE (zfl_E hE) (by decide)) (rf_48_5 (zfl_E hE)) (by decide) ?_
  refine j_iconst (v := zI 1) d_En_encode_31 (by decide) ?_
  refine j_callS m_JA_fill [.ref 63, .int (zI 1)] [] 0 0 0 cS_En_62 d_En_encode_32 rfl rfl (Nat.le_of_ble_eq_true rfl) (Nat.succ_le_succ (Nat.zero_le _)) (Nat.le_of_ble_eq_true rfl) (Nat.zero_le _) (Nat.zero_le _) (c_JA_fill (tg_63 (zfl_E hE)) (q_okE (zfl_E hE) (by decide)) (by decide) (by decide) _) (fun v τ h => ?_) (fun x τ h => absurd h.1 (by simp))
  obtain ⟨e1, e2⟩ := h; cases e1; rw [e2]
  refine j_aload_n d_En_encode_35 0 rfl ?_
  refine j_iconst (v := zI 0) d_En_encode_36 (by decide) ?_
  refine zj_putI (g_En_68 _) d_En_encode_37 (tg_48 (zfl_E (zfl_E hE))) (q_okE (zfl_E (zfl_E hE)) (by decide)) ?_
  refine j_aload_n d_En_encode_40 0 rfl ?_
  refine j_iconst (v := zI 0) d_En_encode_41 (by decide) ?_
  refine zj_putI (g_En_72 _) d_En_encode_42 (tg_48 (zs_E (zfl_E (zfl_E hE)))) (q_okE (zs_E (zfl_E (zfl_E hE))) (by decide)) ?_
  refine j_aload_n d_En_encode_45 0 rfl ?_
  refine j_iconst (v := zI 0) d_En_encode_46 (by decide) ?_
  refine zj_putI (g_En_75 _) d_En_encode_47 (tg_48 (zs_E (zs_E (zfl_E (zfl_E hE))))) (q_okE (zs_E (zs_E (zfl_E (zfl_E hE)))) (by decide)) ?_
  refine j_iconst (v := zI 0) d_En_encode_50 (by decide) ?_
  refine j_istore_n (L' := [(2, .int (zI 0)), (0, .ref 48)]) d_En_encode_51 (by decide) rfl ?_
  refine j_iconst (v := zI 0) d_En_encode_52 (by decide) ?_
  refine j_istore_n (L' := [(3, .int (zI 0)), (2, .int (zI 0)), (0, .ref 48)]) d_En_encode_53 (by decide) rfl ?_
  exact j_sel [2, 1, 0] rfl h
set_option maxHeartbeats 2000000 in
theorem b_En_encode_54 {ω : q_W} {σ : q_H} {Q : q_R → q_H → Prop} {d mc ms : Nat} {x2 : Int} {x3 : Int} {p : Nat} (hp : p = 16 ∨ p = 29) (r481 : q_r σ 48 1 = p) (hE : q_E σ) (h : inR x3 ∧ q_imp (x3 ≥ 1000000) ((J ω m_En_encode (d + 1) mc ms 0 0 121 [(0, .ref 48), (3, .int (zI 0))] [] (zs σ 48 6 1) Q)) ∧ q_imp (x3 < 1000000) (inR x2 ∧ q_imp (x2 ≥ (z σ p 11)) ((J ω m_En_encode (d + 1) mc ms 0 0 121 [(0, .ref 48), (3, .int (zI 0))] [] (zs σ 48 6 1) Q)) ∧ q_imp (x2 < (z σ p 11)) ((0 ≤ x2 ∧ x2 < 2048) ∧ (J ω m_En_evaluate d 0 0 0 0 0 [(0, .ref 48), (1, .int (zI (z σ (p + 7) x2.toNat))), (2, .int (zI (z σ (p + 8) x2.toNat)))] [] σ (q_kv (fun τ => J ω m_En_encode (d + 1) mc ms 0 0 93 [(0, .ref 48), (2, .int (zI x2)), (3, .int (zI x3))] [] τ Q)))))) : J ω m_En_encode (d + 1) mc ms 0 0 54 [(0, .ref 48), (2, .int (zI x2)), (3, .int (zI x3))] [] σ Q := by
  refine j_iload_n d_En_encode_54 2 rfl ?_
  refine j_ldc (v := 1000000) k_En_78 d_En_encode_55 ?_
  refine j_topE (v := zI 1000000) (by decide) ?_
  obtain ⟨r1, h⟩ := h
  obtain ⟨h1, h2⟩ := h
  refine zj_icmp_ge 114 d_En_encode_57 (by decide) r1 ⟨by decide, by decide⟩ (fun k2 => ?_) (fun k2 => ?_)
  · have h := h1 k2
    refine j_aload_n d_En_encode_114 0 rfl ?_
    refine j_iconst (v := zI 1) d_En_encode_115 (by decide) ?_
    refine zj_putI (g_En_101 _) d_En_encode_116 (tg_48 hE) (q_okE hE (by decide)) ?_
    refine j_iconst (v := zI 0) d_En_encode_119 (by decide) ?_
    refine j_istore_n (L' := [(3, .int (zI 0)), (0, .ref 48), (2, .int (zI x2))]) d_En_encode_120 (by decide) rfl ?_
    exact j_sel [1, 0] rfl h
  · have h := h2 k2
    refine j_iload_n d_En_encode_60 1 rfl ?_
    refine j_aload_n d_En_encode_61 0 rfl ?_
    refine j_getR p f_En_50 d_En_encode_62 (tg_48 hE) (q_okE hE (by decide)) (r481) (by omega) ?_
    refine zj_getI (z σ p 11) f_En_79 d_En_encode_65 (tY_p_0 hE hp) (q_okE hE (by omega)) (q_z _ _ _) ?_
    obtain ⟨r3, h⟩ := h
    obtain ⟨h1, h2⟩ := h
    refine zj_icmp_ge 114 d_En_encode_68 (by decide) r3 (z_R _ _ _) (fun k4 => ?_) (fun k4 => ?_)
    · have h := h1 k4
      refine j_aload_n d_En_encode_114 0 rfl ?_
      refine j_iconst (v := zI 1) d_En_encode_115 (by decide) ?_
      refine zj_putI (g_En_101 _) d_En_encode_116 (tg_48 hE) (q_okE hE (by decide)) ?_
      refine j_iconst (v := zI 0) d_En_encode_119 (by decide) ?_
      refine j_istore_n (L' := [(3, .int (zI 0)), (0, .ref 48), (2, .int (zI x2))]) d_En_encode_120 (by decide) rfl ?_
      exact j_sel [1, 0] rfl h
    · have h := h2 k4
      refine j_aload_n d_En_encode_71 0 rfl ?_
      refine j_aload_n d_En_encode_72 0 rfl ?_
      refine j_getR p f_En_50 d_En_encode_73 (tg_48 hE) (q_okE hE (by decide)) (r481) (by omega) ?_
      refine j_getR (p + 7) f_En_84 d_En_encode_76 (tY_p_0 hE hp) (q_okE hE (by omega)) (rY_p_14 hE hp) (by omega) ?_
      refine j_iload_n d_En_encode_79 1 rfl ?_
      obtain ⟨c5, h⟩ := h
      refine zj_iald (z σ (p + 7) x2.toNat) d_En_encode_80 (tY_p_7 hE hp) (q_okE hE (by omega)) c5 (by decide) (q_z _ _ _) ?_
      refine j_aload_n d_En_encode_81 0 rfl ?_
      refine j_getR p f_En_50 d_En_encode_82 (tg_48 hE) (q_okE hE (by decide)) (r481) (by omega) ?_
      refine j_getR (p + 8) f_En_87 d_En_encode_85 (tY_p_0 hE hp) (q_okE hE (by omega)) (rY_p_15 hE hp) (by omega) ?_
      refine j_iload_n d_En_encode_88 1 rfl ?_
      refine zj_iald (z σ (p + 8) x2.toNat) d_En_encode_89 (tY_p_8 hE hp) (q_okE hE (by omega)) c5 (by decide) (q_z _ _ _) ?_
      refine j_callV m_En_evaluate [.int (zI (z σ (p + 7) x2.toNat)), .int (zI (z σ (p + 8) x2.toNat))] [] d 0 0 cV_En_90 d_En_encode_90 rfl rfl (tg_48 hE) (q_okE hE (by decide)) (Nat.le_of_ble_eq_true rfl) (Nat.le_refl _) (Nat.le_of_ble_eq_true rfl) (Nat.zero_le _) (Nat.zero_le _) h (fun v τ h => ?_) (fun x τ h => ?_)
      · obtain ⟨e1, h⟩ := h; cases e1; exact j_sel [0, 1, 2] rfl h
      · obtain ⟨e1, h⟩ := h; cases e1
set_option maxHeartbeats 2000000 in
theorem b_En_encode_121 {ω : q_W} {σ : q_H} {Q : q_R → q_H → Prop} {d mc ms : Nat} {x3 : Int} {p : Nat} (hp : p = 16 ∨ p = 29) (r481 : q_r σ 48 1 = p) (hE : q_E σ) (h : inR x3 ∧ q_imp (x3 ≥ (z σ p 7)) ((Q (.inl none) (zs σ 48 7 (z σ 50 7)))) ∧ q_imp (x3 < (z σ p 7)) ((0 ≤ x3 ∧ x3 < 512) ∧ (J ω m_Ci_or d 0 0 0 0 0 [(0, .ref 50), (1, .int (zI (z σ 48 6))), (2, .int (zI (z σ 63 x3.toNat)))] [] σ (q_ki (fun v τ => J ω m_En_encode (d + 1) mc ms 0 0 153 [(0, .ref 48), (3, .int (zI x3))] [.int (zI v), .ref 48] τ Q))))) : J ω m_En_encode (d + 1) mc ms 0 0 121 [(0, .ref 48), (3, .int (zI x3))] [] σ Q := by
  refine j_iload_n d_En_encode_121 1 rfl ?_
  refine j_aload_n d_En_encode_122 0 rfl ?_
  refine j_getR p f_En_50 d_En_encode_123 (tg_48 hE) (q_okE hE (by decide)) (r481) (by omega) ?_
  refine zj_getI (z σ p 7) f_En_104 d_En_encode_126 (tY_p_0 hE hp) (q_okE hE (by omega)) (q_z _ _ _) ?_
  obtain ⟨r6, h⟩ := h
  obtain ⟨h1, h2⟩ := h
  refine zj_icmp_ge 162 d_En_encode_129 (by decide) r6 (z_R _ _ _) (fun k7 => ?_) (fun k7 => ?_)
  · have h := h1 k7
    refine j_aload_n d_En_encode_162 0 rfl ?_
    refine j_aload_n d_En_encode_163 0 rfl ?_
    refine j_getR 49 f_En_12 d_En_encode_164 (tg_48 hE) (q_okE hE (by decide)) (rf_48_0 hE) (by decide) ?_
    refine j_getR 50 f_En_46 d_En_encode_167 (tg_49 hE) (q_okE hE (by decide)) (rf_49_0 hE) (by decide) ?_
    refine zj_getI (z σ 50 7) f_En_110 d_En_encode_170 (tg_50 hE) (q_okE hE (by decide)) (q_z _ _ _) ?_
    refine zj_putI (g_En_113 _) d_En_encode_173 (tg_48 hE) (q_okE hE (by decide)) ?_
    exact j_vret d_En_encode_176 rfl (Nat.zero_le _) (Nat.zero_le _) h
  · have h := h2 k7
    refine j_aload_n d_En_encode_132 0 rfl ?_
    refine j_aload_n d_En_encode_133 0 rfl ?_
    refine j_getR 49 f_En_12 d_En_encode_134 (tg_48 hE) (q_okE hE (by decide)) (rf_48_0 hE) (by decide) ?_
    refine j_getR 50 f_En_46 d_En_encode_137 (tg_49 hE) (q_okE hE (by decide)) (rf_49_0 hE) (by decide) ?_
    refine j_aload_n d_En_encode_140 0 rfl ?_
    refine zj_getI (z σ 48 6) f_En_101 d_En_encode_141 (tg_48 hE) (q_okE hE (by decide)) (q_z _ _ _) ?_
    refine j_aload_n d_En_encode_144 0 rfl ?_
    refine j_getR 63 f_En_25 d_En_encode_145 (tg_48 hE) (q_okE hE (by decide)) (rf_48_5 hE) (by decide) ?_
    refine j_iload_n d_En_encode_148 1 rfl ?_
    obtain ⟨c8, h⟩ := h
    refine zj_iald (z σ 63 x3.toNat) d_En_encode_149 (tg_63 hE) (q_okE hE (by decide)) c8 (by decide) (q_z _ _ _) ?_
    refine j_callV m_Ci_or [.int (zI (z σ 48 6)), .int (zI (z σ 63 x3.toNat))] [.ref 48] d 0 0 cV_En_107 d_En_encode_150 rfl rfl (tg_50 hE) (q_okE hE (by decide)) (Nat.le_of_ble_eq_true rfl) (Nat.le_refl _) (Nat.le_of_ble_eq_true rfl) (Nat.zero_le _) (Nat.zero_le _) h (fun v τ h => ?_) (fun x τ h => ?_)
    · obtain ⟨v, hv, e1, h⟩ := h; cases e1; exact j_sel [0, 1] rfl h
    · obtain ⟨v, hv, e1, h⟩ := h; cases e1
set_option maxHeartbeats 2000000 in
theorem b_En_encode_93 {ω : q_W} {σ : q_H} {Q : q_R → q_H → Prop} {d mc ms : Nat} {x2 : Int} {x3 : Int} {p : Nat} (hp : p = 16 ∨ p = 29) (r481 : q_r σ 48 1 = p) (hE : q_E σ) (h : (0 ≤ x2 ∧ x2 < 2048) ∧ (J ω m_En_perform d 0 0 0 0 0 [(0, .ref 48), (1, .int (zI x2)), (2, .int (zI (z σ (p + 6) x2.toNat)))] [] σ (q_ki (fun v τ => J ω m_En_encode (d + 1) mc ms 0 0 107 [(0, .ref 48), (3, .int (zI x3))] [.int (zI v)] τ Q)))) : J ω m_En_encode (d + 1) mc ms 0 0 93 [(0, .ref 48), (2, .int (zI x2)), (3, .int (zI x3))] [] σ Q := by
  refine j_aload_n d_En_encode_93 0 rfl ?_
  refine j_iload_n d_En_encode_94 1 rfl ?_
  refine j_aload_n d_En_encode_95 0 rfl ?_
  refine j_getR p f_En_50 d_En_encode_96 (tg_48 hE) (q_okE hE (by decide)) (r481) (by omega) ?_
  refine j_getR (p + 6) f_En_94 d_En_encode_99 (tY_p_0 hE hp) (q_okE hE (by omega)) (rY_p_13 hE hp) (by omega) ?_
  refine j_iload_n d_En_encode_102 1 rfl ?_
  obtain ⟨c9, h⟩ := h
  refine zj_iald (z σ (p + 6) x2.toNat) d_En_encode_103 (tY_p_6 hE hp) (q_okE hE (by omega)) c9 (by decide) (q_z _ _ _) ?_
  refine j_callV m_En_perform [.int (zI x2), .int (zI (z σ (p + 6) x2.toNat))] [] d 0 0 cV_En_97 d_En_encode_104 rfl rfl (tg_48 hE) (q_okE hE (by decide)) (Nat.le_of_ble_eq_true rfl) (Nat.le_refl _) (Nat.le_of_ble_eq_true rfl) (Nat.zero_le _) (Nat.zero_le _) h (fun v τ h => ?_) (fun x τ h => ?_)
  · obtain ⟨v, hv, e1, h⟩ := h; cases e1; exact j_sel [0, 2] rfl h
  · obtain ⟨v, hv, e1, h⟩ := h; cases e1
set_option maxHeartbeats 2000000 in
theorem b_En_encode_153 {ω : q_W} {σ : q_H} {Q : q_R → q_H → Prop} {d mc ms : Nat} {x3 : Int} {y0 : Int} {p : Nat} (hp : p = 16 ∨ p = 29) (r481 : q_r σ 48 1 = p) (hE : q_E σ) (h : (J ω m_En_encode (d + 1) mc ms 0 0 121 [(0, .ref 48), (3, .int (zI (x3 + 1)))] [] (zs σ 48 6 y0) Q)) : J ω m_En_encode (d + 1) mc ms 0 0 153 [(0, .ref 48), (3, .int (zI x3))] [.int (zI y0), .ref 48] σ Q := by
  refine zj_putI (g_En_101 _) d_En_encode_153 (tg_48 hE) (q_okE hE (by decide)) ?_
  refine zj_iinc (L' := [(3, .int (zI (x3 + 1))), (0, .ref 48)]) (x3 + 1) d_En_encode_156 1 rfl (by omega) (by decide) rfl ?_
  refine j_goto 121 d_En_encode_159 (by decide) ?_
  exact j_sel [1, 0] rfl h
set_option maxHeartbeats 2000000 in
theorem b_En_encode_107 {ω : q_W} {σ : q_H} {Q : q_R → q_H → Prop} {d mc ms : Nat} {x3 : Int} {y0 : Int} {p : Nat} (hp : p = 16 ∨ p = 29) (r481 : q_r σ 48 1 = p) (hE : q_E σ) (h : (J ω m_En_encode (d + 1) mc ms 0 0 54 [(0, .ref 48), (2, .int (zI y0)), (3, .int (zI (x3 + 1)))] [] σ Q)) : J ω m_En_encode (d + 1) mc ms 0 0 107 [(0, .ref 48), (3, .int (zI x3))] [.int (zI y0)] σ Q := by
  refine j_istore_n (L' := [(2, .int (zI y0)), (0, .ref 48), (3, .int (zI x3))]) d_En_encode_107 (by decide) rfl ?_
  refine zj_iinc (L' := [(3, .int (zI (x3 + 1))), (2, .int (zI y0)), (0, .ref 48)]) (x3 + 1) d_En_encode_108 2 rfl (by omega) (by decide) rfl ?_
  refine j_goto 54 d_En_encode_111 (by decide) ?_
  exact j_sel [2, 1, 0] rfl h
set_option maxHeartbeats 2000000 in
theorem b_En_makeInputs_0 {ω : q_W} {σ : q_H} {Q : q_R → q_H → Prop} {d mc ms : Nat}  {p : Nat} (hp : p = 16 ∨ p = 29) (r481 : q_r σ 48 1 = p) (hE : q_E σ) (h : (J ω m_En_makeInputs (d + 1) mc ms 0 0 10 [(0, .ref 48), (1, .int (zI 0))] [] (zfl σ 61 96 1) Q)) : J ω m_En_makeInputs (d + 1) mc ms 0 0 0 [(0, .ref 48)] [] σ Q := by
  refine j_aload_n d_En_makeInputs_0 0 rfl ?_
  refine j_getR 61 f_En_18 d_En_makeInputs_1 (tg_48 hE) (q_okE hE (by decide)) (rf_48_2 hE) (by decide) ?_
  refine j_iconst (v := zI 1) d_En_makeInputs_4 (by decide) ?_
  refine j_callS m_JA_fill [.ref 61, .int (zI 1)] [] 0 0 0 cS_En_62 d_En_makeInputs_5 rfl rfl (Nat.le_of_ble_eq_true rfl) (Nat.succ_le_succ (Nat.zero_le _)) (Nat.le_of_ble_eq_true rfl) (Nat.zero_le _) (Nat.zero_le _) (c_JA_fill (tg_61 hE) (q_okE hE (by decide)) (by decide) (by decide) _) (fun v τ h => ?_) (fun x τ h => absurd h.1 (by simp))
  obtain ⟨e1, e2⟩ := h; cases e1; rw [e2]
  refine j_iconst (v := zI 0) d_En_makeInputs_8 (by decide) ?_
  refine j_istore_n (L' := [(1, .int (zI 0)), (0, .ref 48)]) d_En_makeInputs_9 (by decide) rfl ?_
  exact j_sel [1, 0] rfl h
set_option maxHeartbeats 2000000 in
theorem b_En_makeInputs_10 {ω : q_W} {σ : q_H} {Q : q_R → q_H → Prop} {d mc ms : Nat} {x1 : Int} {p : Nat} (hp : p = 16 ∨ p = 29) (r481 : q_r σ 48 1 = p) (hE : q_E σ) (h : inR x1 ∧ q_imp (x1 ≥ (z σ p 0)) ((Q (.inl none) σ)) ∧ q_imp (x1 < (z σ p 0)) ((J ω m_En_makeInputs (d + 1) mc ms 0 0 23 [(0, .ref 48), (1, .int (zI x1)), (2, .int (zI 0))] [] σ Q))) : J ω m_En_makeInputs (d + 1) mc ms 0 0 10 [(0, .ref 48), (1, .int (zI x1))] [] σ Q := by
  refine j_iload_n d_En_makeInputs_10 1 rfl ?_
  refine j_aload_n d_En_makeInputs_11 0 rfl ?_
  refine j_getR p f_En_50 d_En_makeInputs_12 (tg_48 hE) (q_okE hE (by decide)) (r481) (by omega) ?_
  refine zj_getI (z σ p 0) f_En_114 d_En_makeInputs_15 (tY_p_0 hE hp) (q_okE hE (by omega)) (q_z _ _ _) ?_
  obtain ⟨r1, h⟩ := h
  obtain ⟨h1, h2⟩ := h
  refine zj_icmp_ge 69 d_En_makeInputs_18 (by decide) r1 (z_R _ _ _) (fun k2 => ?_) (fun k2 => ?_)
  · have h := h1 k2
    exact j_vret d_En_makeInputs_69 rfl (Nat.zero_le _) (Nat.zero_le _) h
  · have h := h2 k2
    refine j_iconst (v := zI 0) d_En_makeInputs_21 (by decide) ?_
    refine j_istore_n (L' := [(2, .int (zI 0)), (0, .ref 48), (1, .int (zI x1))]) d_En_makeInputs_22 (by decide) rfl ?_
    exact j_sel [1, 2, 0] rfl h
set_option maxHeartbeats 2000000 in
theorem b_En_makeInputs_23 {ω : q_W} {σ : q_H} {Q : q_R → q_H → Prop} {d mc ms : Nat} {x1 : Int} {x2 : Int} {p : Nat} (hp : p = 16 ∨ p = 29) (r481 : q_r σ 48 1 = p) (hE : q_E σ) (h : (0 ≤ x1 ∧ x1 < 12) ∧ inR x2 ∧ q_imp (x2 ≥ (z σ (p + 1) x1.toNat)) ((J ω m_En_makeInputs (d + 1) mc ms 0 0 10 [(0, .ref 48), (1, .int (zI (x1 + 1)))] [] σ Q)) ∧ q_imp (x2 < (z σ (p + 1) x1.toNat)) ((J ω m_Ci_leaf d 0 0 0 0 0 [(0, .ref 50)] [] σ (q_ki (fun v τ => J ω m_En_makeInputs (d + 1) mc ms 0 0 56 [(0, .ref 48), (1, .int (zI x1)), (2, .int (zI x2))] [.int (zI v), .int (zI ((x1 * 8) + x2)), .ref 61] τ Q))))) : J ω m_En_makeInputs (d + 1) mc ms 0 0 23 [(0, .ref 48), (1, .int (zI x1)), (2, .int (zI x2))] [] σ Q := by
  refine j_iload_n d_En_makeInputs_23 2 rfl ?_
  refine j_aload_n d_En_makeInputs_24 0 rfl ?_
  refine j_getR p f_En_50 d_En_makeInputs_25 (tg_48 hE) (q_okE hE (by decide)) (r481) (by omega) ?_
  refine j_getR (p + 1) f_En_116 d_En_makeInputs_28 (tY_p_0 hE hp) (q_okE hE (by omega)) (rY_p_2 hE hp) (by omega) ?_
  refine j_iload_n d_En_makeInputs_31 1 rfl ?_
  obtain ⟨c3, h⟩ := h
  refine zj_iald (z σ (p + 1) x1.toNat) d_En_makeInputs_32 (tY_p_1 hE hp) (q_okE hE (by omega)) c3 (by decide) (q_z _ _ _) ?_
  obtain ⟨r4, h⟩ := h
  obtain ⟨h1, h2⟩ := h
  refine zj_icmp_ge 63 d_En_makeInputs_33 (by decide) r4 (z_R _ _ _) (fun k5 => ?_) (fun k5 => ?_)
  · have h := h1 k5
    refine zj_iinc (L' := [(1, .int (zI (x1 + 1))), (0, .ref 48), (2, .int (zI x2))]) (x1 + 1) d_En_makeInputs_63 1 rfl (by omega) (by decide) rfl ?_
    refine j_goto 10 d_En_makeInputs_66 (by decide) ?_
    exact j_sel [1, 0] rfl h
  · have h := h2 k5
    refine j_aload_n d_En_makeInputs_36 0 rfl ?_
    refine j_getR 61 f_En_18 d_En_makeInputs_37 (tg_48 hE) (q_okE hE (by decide)) (rf_48_2 hE) (by decide) ?_
    refine j_iload_n d_En_makeInputs_40 1 rfl ?_
    refine j_bipush (v := zI 8) d_En_makeInputs_41 (by decide) ?_
    refine zj_imul (x1 * 8) rfl d_En_makeInputs_43 ?_
    refine j_iload_n d_En_makeInputs_44 2 rfl ?_
    refine zj_iadd ((x1 * 8) + x2) rfl d_En_makeInputs_45 ?_
    refine j_aload_n d_En_makeInputs_46 0 rfl ?_
    refine j_getR 49 f_En_12 d_En_makeInputs_47 (tg_48 hE) (q_okE hE (by decide)) (rf_48_0 hE) (by decide) ?_
    refine j_getR 50 f_En_46 d_En_makeInputs_50 (tg_49 hE) (q_okE hE (by decide)) (rf_49_0 hE) (by decide) ?_
    refine j_callV m_Ci_leaf [] [.int (zI ((x1 * 8) + x2)), .ref 61] d 0 0 cV_En_119 d_En_makeInputs_53 rfl rfl (tg_50 hE) (q_okE hE (by decide)) (Nat.le_of_ble_eq_true rfl) (Nat.le_refl _) (Nat.le_of_ble_eq_true rfl) (Nat.zero_le _) (Nat.zero_le _) h (fun v τ h => ?_) (fun x τ h => ?_)
    · obtain ⟨v, hv, e1, h⟩ := h; cases e1; exact j_sel [0, 1, 2] rfl h
    · obtain ⟨v, hv, e1, h⟩ := h; cases e1
set_option maxHeartbeats 2000000 in
theorem b_En_makeInputs_56 {ω : q_W} {σ : q_H} {Q : q_R → q_H → Prop} {d mc ms : Nat} {x1 : Int} {x2 : Int} {y0 : Int} {y1 : Int} {p : Nat} (hp : p = 16 ∨ p = 29) (r481 : q_r σ 48 1 = p) (hE : q_E σ) (h : (0 ≤ y1 ∧ y1 < 96) ∧ (J ω m_En_makeInputs (d + 1) mc ms 0 0 23 [(0, .ref 48), (1, .int (zI x1)), (2, .int (zI (x2 + 1)))] [] (zs σ 61 y1.toNat y0) Q)) : J ω m_En_makeInputs (d + 1) mc ms 0 0 56 [(0, .ref 48), (1, .int (zI x1)), (2, .int (zI x2))] [.int (zI y0), .int (zI y1), .ref 61] σ Q := by
  obtain ⟨c6, h⟩ := h
  refine zj_iast d_En_makeInputs_56 (tg_61 hE) (q_okE hE (by decide)) c6 (by decide) ?_
  refine zj_iinc (L' := [(2, .int (zI (x2 + 1))), (0, .ref 48), (1, .int (zI x1))]) (x2 + 1) d_En_makeInputs_57 2 rfl (by omega) (by decide) rfl ?_
  refine j_goto 23 d_En_makeInputs_60 (by decide) ?_
  exact j_sel [1, 2, 0] rfl h
set_option maxHeartbeats 2000000 in
theorem b_En_evaluate_0 {ω : q_W} {σ : q_H} {Q : q_R → q_H → Prop} {d mc ms : Nat} {x1 : Int} {x2 : Int} {p : Nat} (hp : p = 16 ∨ p = 29) (r481 : q_r σ 48 1 = p) (hE : q_E σ) (h : (J ω m_En_evaluate (d + 1) mc ms 0 0 5 [(0, .ref 48), (2, .int (zI x2)), (3, .int (zI 0)), (4, .int (zI x1))] [] σ Q)) : J ω m_En_evaluate (d + 1) mc ms 0 0 0 [(0, .ref 48), (1, .int (zI x1)), (2, .int (zI x2))] [] σ Q := by
  refine j_iconst (v := zI 0) d_En_evaluate_0 (by decide) ?_
  refine j_istore_n (L' := [(3, .int (zI 0)), (0, .ref 48), (1, .int (zI x1)), (2, .int (zI x2))]) d_En_evaluate_1 (by decide) rfl ?_
  refine j_iload_n d_En_evaluate_2 2 rfl ?_
  refine j_istore (L' := [(4, .int (zI x1)), (3, .int (zI 0)), (0, .ref 48), (1, .int (zI x1)), (2, .int (zI x2))]) d_En_evaluate_3 (by decide) rfl ?_
  exact j_sel [2, 4, 1, 0] rfl h
set_option maxHeartbeats 2000000 in
theorem b_En_evaluate_5 {ω : q_W} {σ : q_H} {Q : q_R → q_H → Prop} {d mc ms : Nat} {x2 : Int} {x3 : Int} {x4 : Int} {p : Nat} (hp : p = 16 ∨ p = 29) (r481 : q_r σ 48 1 = p) (hE : q_E σ) (h : inR x4 ∧ inR x2 ∧ q_imp (x4 ≥ x2) ((Q (.inl none) σ)) ∧ q_imp (x4 < x2) ((0 ≤ x4 ∧ x4 < 4096) ∧ q_imp ((z σ (p + 10) x4.toNat) < 23) ((J ω m_En_evaluate (d + 1) mc ms 0 0 67 [(0, .ref 48), (2, .int (zI x2)), (3, .int (zI x3)), (4, .int (zI x4)), (5, .int (zI (z σ (p + 10) x4.toNat))), (6, .int (zI (x3 * 8)))] [] σ Q)) ∧ q_imp ((z σ (p + 10) x4.toNat) ≥ 23) (inR x3 ∧ q_imp (x3 ≥ 400) ((J ω m_En_evaluate (d + 1) mc ms 0 0 67 [(0, .ref 48), (2, .int (zI x2)), (3, .int (zI x3)), (4, .int (zI x4)), (5, .int (zI (z σ (p + 10) x4.toNat))), (6, .int (zI (x3 * 8)))] [] σ Q)) ∧ q_imp (x3 < 400) ((J ω m_En_fetch d 0 0 0 0 0 [(0, .ref 48), (1, .int (zI (z σ (p + 10) x4.toNat))), (2, .int (zI (z σ (p + 11) x4.toNat))), (3, .int (zI (x3 * 8)))] [] σ (q_kv (fun τ => J ω m_En_evaluate (d + 1) mc ms 0 0 61 [(0, .ref 48), (2, .int (zI x2)), (3, .int (zI x3)), (4, .int (zI x4))] [] τ Q))))))) : J ω m_En_evaluate (d + 1) mc ms 0 0 5 [(0, .ref 48), (2, .int (zI x2)), (3, .int (zI x3)), (4, .int (zI x4))] [] σ Q := by
  refine j_iload d_En_evaluate_5 3 rfl ?_
  refine j_iload_n d_En_evaluate_7 1 rfl ?_
  obtain ⟨r1, h⟩ := h
  obtain ⟨r2, h⟩ := h
  obtain ⟨h1, h2⟩ := h
  refine zj_icmp_ge 226 d_En_evaluate_8 (by decide) r1 r2 (fun k3 => ?_) (fun k3 => ?_)
  · have h := h1 k3
    exact j_vret d_En_evaluate_226 rfl (Nat.zero_le _) (Nat.zero_le _) h
  · have h := h2 k3
    refine j_aload_n d_En_evaluate_11 0 rfl ?_
    refine j_getR p f_En_50 d_En_evaluate_12 (tg_48 hE) (q_okE hE (by decide)) (r481) (by omega) ?_
    refine j_getR (p + 10) f_En_130 d_En_evaluate_15 (tY_p_0 hE hp) (q_okE hE (by omega)) (rY_p_18 hE hp) (by omega) ?_
    refine j_iload d_En_evaluate_18 3 rfl ?_
    obtain ⟨c4, h⟩ := h
    refine zj_iald (z σ (p + 10) x4.toNat) d_En_evaluate_20 (tY_p_10 hE hp) (q_okE hE (by omega)) c4 (by decide) (q_z _ _ _) ?_
    refine j_istore (L' := [(5, .int (zI (z σ (p + 10) x4.toNat))), (0, .ref 48), (2, .int (zI x2)), (3, .int (zI x3)), (4, .int (zI x4))]) d_En_evaluate_21 (by decide) rfl ?_
    refine j_iload_n d_En_evaluate_23 3 rfl ?_
    refine j_bipush (v := zI 8) d_En_evaluate_24 (by decide) ?_
    refine zj_imul (x3 * 8) rfl d_En_evaluate_26 ?_
    refine j_istore (L' := [(6, .int (zI (x3 * 8))), (5, .int (zI (z σ (p + 10) x4.toNat))), (0, .ref 48), (2, .int (zI x2)), (3, .int (zI x3)), (4, .int (zI x4))]) d_En_evaluate_27 (by decide) rfl ?_
    refine j_iload d_En_evaluate_29 1 rfl ?_
    refine j_bipush (v := zI 23) d_En_evaluate_31 (by decide) ?_
    obtain ⟨h1, h2⟩ := h
    refine zj_icmp_lt 67 d_En_evaluate_33 (by decide) (z_R _ _ _) ⟨by decide, by decide⟩ (fun k5 => ?_) (fun k5 => ?_)
    · have h := h1 k5
      exact j_sel [2, 3, 4, 5, 1, 0] rfl h
    · have h := h2 k5
      refine j_iload_n d_En_evaluate_36 4 rfl ?_
      refine j_sipush (v := zI 400) d_En_evaluate_37 (by decide) ?_
      obtain ⟨r6, h⟩ := h
      obtain ⟨h1, h2⟩ := h
      refine zj_icmp_ge 67 d_En_evaluate_40 (by decide) r6 ⟨by decide, by decide⟩ (fun k7 => ?_) (fun k7 => ?_)
      · have h := h1 k7
        exact j_sel [2, 3, 4, 5, 1, 0] rfl h
      · have h := h2 k7
        refine j_aload_n d_En_evaluate_43 2 rfl ?_
        refine j_iload d_En_evaluate_44 1 rfl ?_
        refine j_aload_n d_En_evaluate_46 2 rfl ?_
        refine j_getR p f_En_50 d_En_evaluate_47 (tg_48 hE) (q_okE hE (by decide)) (r481) (by omega) ?_
        refine j_getR (p + 11) f_En_133 d_En_evaluate_50 (tY_p_0 hE hp) (q_okE hE (by omega)) (rY_p_19 hE hp) (by omega) ?_
        refine j_iload d_En_evaluate_53 5 rfl ?_
        refine zj_iald (z σ (p + 11) x4.toNat) d_En_evaluate_55 (tY_p_11 hE hp) (q_okE hE (by omega)) c4 (by decide) (q_z _ _ _) ?_
        refine j_iload d_En_evaluate_56 0 rfl ?_
        refine j_callV m_En_fetch [.int (zI (z σ (p + 10) x4.toNat)), .int (zI (z σ (p + 11) x4.toNat)), .int (zI (x3 * 8))] [] d 0 0 cV_En_136 d_En_evaluate_58 rfl rfl (tg_48 hE) (q_okE hE (by decide)) (Nat.le_of_ble_eq_true rfl) (Nat.le_refl _) (Nat.le_of_ble_eq_true rfl) (Nat.zero_le _) (Nat.zero_le _) h (fun v τ h => ?_) (fun x τ h => ?_)
        · obtain ⟨e1, h⟩ := h; cases e1; exact j_sel [2, 3, 4, 5] rfl h
        · obtain ⟨e1, h⟩ := h; cases e1
set_option maxHeartbeats 2000000 in
theorem b_En_evaluate_67 {ω : q_W} {σ : q_H} {Q : q_R → q_H → Prop} {d mc ms : Nat} {x2 : Int} {x3 : Int} {x4 : Int} {x5 : Int} {x6 : Int} {p : Nat} (hp : p = 16 ∨ p = 29) (r481 : q_r σ 48 1 = p) (hE : q_E σ) (h : inR x5 ∧ q_imp (x5 ≠ 22) ((J ω m_En_evaluate (d + 1) mc ms 0 0 107 [(0, .ref 48), (2, .int (zI x2)), (3, .int (zI x3)), (4, .int (zI x4)), (5, .int (zI x5)), (6, .int (zI x6))] [] σ Q)) ∧ q_imp (x5 = 22) (inR x3 ∧ q_imp (x3 < 3) ((J ω m_En_evaluate (d + 1) mc ms 0 0 107 [(0, .ref 48), (2, .int (zI x2)), (3, .int (zI x3)), (4, .int (zI x4)), (5, .int (zI x5)), (6, .int (zI x6))] [] σ Q)) ∧ q_imp (x3 ≥ 3) ((J ω m_Wo_choose d 0 0 0 0 0 [(0, .ref 49), (1, .int (zI (x6 - 24))), (2, .int (zI (x6 - 16))), (3, .int (zI (x6 - 8)))] [] σ (q_kv (fun τ => J ω m_En_evaluate (d + 1) mc ms 0 0 101 [(0, .ref 48), (2, .int (zI x2)), (3, .int (zI x3)), (4, .int (zI x4))] [] τ Q)))))) : J ω m_En_evaluate (d + 1) mc ms 0 0 67 [(0, .ref 48), (2, .int (zI x2)), (3, .int (zI x3)), (4, .int (zI x4)), (5, .int (zI x5)), (6, .int (zI x6))] [] σ Q := by
  refine j_iload d_En_evaluate_67 4 rfl ?_
  refine j_bipush (v := zI 22) d_En_evaluate_69 (by decide) ?_
  obtain ⟨r8, h⟩ := h
  obtain ⟨h1, h2⟩ := h
  refine zj_icmp_ne 107 d_En_evaluate_71 (by decide) r8 ⟨by decide, by decide⟩ (fun k9 => ?_) (fun k9 => ?_)
  · have h := h1 k9
    exact j_sel [0, 1, 2, 3, 4, 5] rfl h
  · have h := h2 k9
    refine j_iload_n d_En_evaluate_74 2 rfl ?_
    refine j_iconst (v := zI 3) d_En_evaluate_75 (by decide) ?_
    obtain ⟨r10, h⟩ := h
    obtain ⟨h1, h2⟩ := h
    refine zj_icmp_lt 107 d_En_evaluate_76 (by decide) r10 ⟨by decide, by decide⟩ (fun k11 => ?_) (fun k11 => ?_)
    · have h := h1 k11
      exact j_sel [0, 1, 2, 3, 4, 5] rfl h
    · have h := h2 k11
      refine j_aload_n d_En_evaluate_79 0 rfl ?_
      refine j_getR 49 f_En_12 d_En_evaluate_80 (tg_48 hE) (q_okE hE (by decide)) (rf_48_0 hE) (by decide) ?_
      refine j_iload d_En_evaluate_83 5 rfl ?_
      refine j_bipush (v := zI 24) d_En_evaluate_85 (by decide) ?_
      refine zj_isub (x6 - 24) (by omega) d_En_evaluate_87 ?_
      refine j_iload d_En_evaluate_88 5 rfl ?_
      refine j_bipush (v := zI 16) d_En_evaluate_90 (by decide) ?_
      refine zj_isub (x6 - 16) (by omega) d_En_evaluate_92 ?_
      refine j_iload d_En_evaluate_93 5 rfl ?_
      refine j_bipush (v := zI 8) d_En_evaluate_95 (by decide) ?_
      refine zj_isub (x6 - 8) (by omega) d_En_evaluate_97 ?_
      refine j_callV m_Wo_choose [.int (zI (x6 - 24)), .int (zI (x6 - 16)), .int (zI (x6 - 8))] [] d 0 0 cV_En_140 d_En_evaluate_98 rfl rfl (tg_49 hE) (q_okE hE (by decide)) (Nat.le_of_ble_eq_true rfl) (Nat.le_refl _) (Nat.le_of_ble_eq_true rfl) (Nat.zero_le _) (Nat.zero_le _) h (fun v τ h => ?_) (fun x τ h => ?_)
      · obtain ⟨e1, h⟩ := h; cases e1; exact j_sel [0, 1, 2, 3] rfl h
      · obtain ⟨e1, h⟩ := h; cases e1
set_option maxHeartbeats 2000000 in
theorem b_En_evaluate_61 {ω : q_W} {σ : q_H} {Q : q_R → q_H → Prop} {d mc ms : Nat} {x2 : Int} {x3 : Int} {x4 : Int} {p : Nat} (hp : p = 16 ∨ p = 29) (r481 : q_r σ 48 1 = p) (hE : q_E σ) (h : (J ω m_En_evaluate (d + 1) mc ms 0 0 5 [(0, .ref 48), (2, .int (zI x2)), (3, .int (zI (x3 + 1))), (4, .int (zI (x4 + 1)))] [] σ Q)) : J ω m_En_evaluate (d + 1) mc ms 0 0 61 [(0, .ref 48), (2, .int (zI x2)), (3, .int (zI x3)), (4, .int (zI x4))] [] σ Q := by
  refine zj_iinc (L' := [(3, .int (zI (x3 + 1))), (0, .ref 48), (2, .int (zI x2)), (4, .int (zI x4))]) (x3 + 1) d_En_evaluate_61 2 rfl (by omega) (by decide) rfl ?_
  refine j_goto 220 d_En_evaluate_64 (by decide) ?_
  refine zj_iinc (L' := [(4, .int (zI (x4 + 1))), (3, .int (zI (x3 + 1))), (0, .ref 48), (2, .int (zI x2))]) (x4 + 1) d_En_evaluate_220 3 rfl (by omega) (by decide) rfl ?_
  refine j_goto 5 d_En_evaluate_223 (by decide) ?_
  exact j_sel [2, 3, 1, 0] rfl h
set_option maxHeartbeats 2000000 in
theorem b_En_evaluate_107 {ω : q_W} {σ : q_H} {Q : q_R → q_H → Prop} {d mc ms : Nat} {x2 : Int} {x3 : Int} {x4 : Int} {x5 : Int} {x6 : Int} {p : Nat} (hp : p = 16 ∨ p = 29) (r481 : q_r σ 48 1 = p) (hE : q_E σ) (h : inR x5 ∧ q_imp (x5 < 19) ((J ω m_En_evaluate (d + 1) mc ms 0 0 146 [(0, .ref 48), (2, .int (zI x2)), (3, .int (zI x3)), (4, .int (zI x4)), (5, .int (zI x5)), (6, .int (zI x6))] [] σ Q)) ∧ q_imp (x5 ≥ 19) (inR x3 ∧ q_imp (x3 < 1) ((J ω m_En_evaluate (d + 1) mc ms 0 0 146 [(0, .ref 48), (2, .int (zI x2)), (3, .int (zI x3)), (4, .int (zI x4)), (5, .int (zI x5)), (6, .int (zI x6))] [] σ Q)) ∧ q_imp (x3 ≥ 1) ((0 ≤ x4 ∧ x4 < 4096) ∧ (J ω m_Wo_single d 0 0 0 0 0 [(0, .ref 49), (1, .int (zI x5)), (2, .int (zI (x6 - 8))), (3, .int (zI (z σ (p + 12) x4.toNat)))] [] σ (q_kv (fun τ => J ω m_En_evaluate (d + 1) mc ms 0 0 143 [(0, .ref 48), (2, .int (zI x2)), (3, .int (zI x3)), (4, .int (zI x4))] [] τ Q)))))) : J ω m_En_evaluate (d + 1) mc ms 0 0 107 [(0, .ref 48), (2, .int (zI x2)), (3, .int (zI x3)), (4, .int (zI x4)), (5, .int (zI x5)), (6, .int (zI x6))] [] σ Q := by
  refine j_iload d_En_evaluate_107 4 rfl ?_
  refine j_bipush (v := zI 19) d_En_evaluate_109 (by decide) ?_
  obtain ⟨r12, h⟩ := h
  obtain ⟨h1, h2⟩ := h
  refine zj_icmp_lt 146 d_En_evaluate_111 (by decide) r12 ⟨by decide, by decide⟩ (fun k13 => ?_) (fun k13 => ?_)
  · have h := h1 k13
    exact j_sel [0, 1, 2, 3, 4, 5] rfl h
  · have h := h2 k13
    refine j_iload_n d_En_evaluate_114 2 rfl ?_
    refine j_iconst (v := zI 1) d_En_evaluate_115 (by decide) ?_
    obtain ⟨r14, h⟩ := h
    obtain ⟨h1, h2⟩ := h
    refine zj_icmp_lt 146 d_En_evaluate_116 (by decide) r14 ⟨by decide, by decide⟩ (fun k15 => ?_) (fun k15 => ?_)
    · have h := h1 k15
      exact j_sel [0, 1, 2, 3, 4, 5] rfl h
    · have h := h2 k15
      refine j_aload_n d_En_evaluate_119 0 rfl ?_
      refine j_getR 49 f_En_12 d_En_evaluate_120 (tg_48 hE) (q_okE hE (by decide)) (rf_48_0 hE) (by decide) ?_
      refine j_iload d_En_evaluate_123 4 rfl ?_
      refine j_iload d_En_evaluate_125 5 rfl ?_
      refine j_bipush (v := zI 8) d_En_evaluate_127 (by decide) ?_
      refine zj_isub (x6 - 8) (by omega) d_En_evaluate_129 ?_
      refine j_aload_n d_En_evaluate_130 0 rfl ?_
      refine j_getR p f_En_50 d_En_evaluate_131 (tg_48 hE) (q_okE hE (by decide)) (r481) (by omega) ?_
      refine j_getR (p + 12) f_En_143 d_En_evaluate_134 (tY_p_0 hE hp) (q_okE hE (by omega)) (rY_p_20 hE hp) (by omega) ?_
      refine j_iload d_En_evaluate_137 3 rfl ?_
      obtain ⟨c16, h⟩ := h
      refine zj_iald (z σ (p + 12) x4.toNat) d_En_evaluate_139 (tY_p_12 hE hp) (q_okE hE (by omega)) c16 (by decide) (q_z _ _ _) ?_
      refine j_callV m_Wo_single [.int (zI x5), .int (zI (x6 - 8)), .int (zI (z σ (p + 12) x4.toNat))] [] d 0 0 cV_En_146 d_En_evaluate_140 rfl rfl (tg_49 hE) (q_okE hE (by decide)) (Nat.le_of_ble_eq_true rfl) (Nat.le_refl _) (Nat.le_of_ble_eq_true rfl) (Nat.zero_le _) (Nat.zero_le _) h (fun v τ h => ?_) (fun x τ h => ?_)
      · obtain ⟨e1, h⟩ := h; cases e1; exact j_sel [0, 1, 2, 3] rfl h
      · obtain ⟨e1, h⟩ := h; cases e1
set_option maxHeartbeats 2000000 in
theorem b_En_evaluate_101 {ω : q_W} {σ : q_H} {Q : q_R → q_H → Prop} {d mc ms : Nat} {x2 : Int} {x3 : Int} {x4 : Int} {p : Nat} (hp : p = 16 ∨ p = 29) (r481 : q_r σ 48 1 = p) (hE : q_E σ) (h : (J ω m_En_evaluate (d + 1) mc ms 0 0 5 [(0, .ref 48), (2, .int (zI x2)), (3, .int (zI (x3 - 2))), (4, .int (zI (x4 + 1)))] [] σ Q)) : J ω m_En_evaluate (d + 1) mc ms 0 0 101 [(0, .ref 48), (2, .int (zI x2)), (3, .int (zI x3)), (4, .int (zI x4))] [] σ Q := by
  refine zj_iinc (L' := [(3, .int (zI (x3 - 2))), (0, .ref 48), (2, .int (zI x2)), (4, .int (zI x4))]) (x3 - 2) d_En_evaluate_101 2 rfl (by omega) (by decide) rfl ?_
  refine j_goto 220 d_En_evaluate_104 (by decide) ?_
  refine zj_iinc (L' := [(4, .int (zI (x4 + 1))), (3, .int (zI (x3 - 2))), (0, .ref 48), (2, .int (zI x2))]) (x4 + 1) d_En_evaluate_220 3 rfl (by omega) (by decide) rfl ?_
  refine j_goto 5 d_En_evaluate_223 (by decide) ?_
  exact j_sel [2, 3, 1, 0] rfl h
set_option maxHeartbeats 2000000 in
theorem b_En_evaluate_146 {ω : q_W} {σ : q_H} {Q : q_R → q_H → Prop} {d mc ms : Nat} {x2 : Int} {x3 : Int} {x4 : Int} {x5 : Int} {x6 : Int} {p : Nat} (hp : p = 16 ∨ p = 29) (r481 : q_r σ 48 1 = p) (hE : q_E σ) (h : inR x5 ∧ q_imp (x5 < 12) ((J ω m_En_evaluate (d + 1) mc ms 0 0 193 [(0, .ref 48), (2, .int (zI x2)), (3, .int (zI x3)), (4, .int (zI x4)), (5, .int (zI x5)), (6, .int (zI x6))] [] σ Q)) ∧ q_imp (x5 ≥ 12) (inR x3 ∧ q_imp (x3 < 2) ((J ω m_En_evaluate (d + 1) mc ms 0 0 193 [(0, .ref 48), (2, .int (zI x2)), (3, .int (zI x3)), (4, .int (zI x4)), (5, .int (zI x5)), (6, .int (zI x6))] [] σ Q)) ∧ q_imp (x3 ≥ 2) ((0 ≤ x4 ∧ x4 < 4096) ∧ (J ω m_Wo_arithmetic d 0 0 0 0 0 [(0, .ref 49), (1, .int (zI x5)), (2, .int (zI (x6 - 16))), (3, .int (zI (x6 - 8))), (4, .int (zI (z σ (p + 12) x4.toNat)))] [] σ (q_kv (fun τ => J ω m_En_evaluate (d + 1) mc ms 0 0 187 [(0, .ref 48), (2, .int (zI x2)), (3, .int (zI x3)), (4, .int (zI x4))] [] τ Q)))))) : J ω m_En_evaluate (d + 1) mc ms 0 0 146 [(0, .ref 48), (2, .int (zI x2)), (3, .int (zI x3)), (4, .int (zI x4)), (5, .int (zI x5)), (6, .int (zI x6))] [] σ Q := by
  refine j_iload d_En_evaluate_146 4 rfl ?_
  refine j_bipush (v := zI 12) d_En_evaluate_148 (by decide) ?_
  obtain ⟨r17, h⟩ := h
  obtain ⟨h1, h2⟩ := h
  refine zj_icmp_lt 193 d_En_evaluate_150 (by decide) r17 ⟨by decide, by decide⟩ (fun k18 => ?_) (fun k18 => ?_)
  · have h := h1 k18
    exact j_sel [0, 1, 2, 3, 4, 5] rfl h
  · have h := h2 k18
    refine j_iload_n d_En_evaluate_153 2 rfl ?_
    refine j_iconst (v := zI 2) d_En_evaluate_154 (by decide) ?_
    obtain ⟨r19, h⟩ := h
    obtain ⟨h1, h2⟩ := h
    refine zj_icmp_lt 193 d_En_evaluate_155 (by decide) r19 ⟨by decide, by decide⟩ (fun k20 => ?_) (fun k20 => ?_)
    · have h := h1 k20
      exact j_sel [0, 1, 2, 3, 4, 5] rfl h
    · have h := h2 k20
      refine j_aload_n d_En_evaluate_158 0 rfl ?_
      refine j_getR 49 f_En_12 d_En_evaluate_159 (tg_48 hE) (q_okE hE (by decide)) (rf_48_0 hE) (by decide) ?_
      refine j_iload d_En_evaluate_162 4 rfl ?_
      refine j_iload d_En_evaluate_164 5 rfl ?_
      refine j_bipush (v := zI 16) d_En_evaluate_166 (by decide) ?_
      refine zj_isub (x6 - 16) (by omega) d_En_evaluate_168 ?_
      refine j_iload d_En_evaluate_169 5 rfl ?_
      refine j_bipush (v := zI 8) d_En_evaluate_171 (by decide) ?_
      refine zj_isub (x6 - 8) (by omega) d_En_evaluate_173 ?_
      refine j_aload_n d_En_evaluate_174 0 rfl ?_
      refine j_getR p f_En_50 d_En_evaluate_175 (tg_48 hE) (q_okE hE (by decide)) (r481) (by omega) ?_
      refine j_getR (p + 12) f_En_143 d_En_evaluate_178 (tY_p_0 hE hp) (q_okE hE (by omega)) (rY_p_20 hE hp) (by omega) ?_
      refine j_iload d_En_evaluate_181 3 rfl ?_
      obtain ⟨c21, h⟩ := h
      refine zj_iald (z σ (p + 12) x4.toNat) d_En_evaluate_183 (tY_p_12 hE hp) (q_okE hE (by omega)) c21 (by decide) (q_z _ _ _) ?_
      refine j_callV m_Wo_arithmetic [.int (zI x5), .int (zI (x6 - 16)), .int (zI (x6 - 8)), .int (zI (z σ (p + 12) x4.toNat))] [] d 0 0 cV_En_149 d_En_evaluate_184 rfl rfl (tg_49 hE) (q_okE hE (by decide)) (Nat.le_of_ble_eq_true rfl) (Nat.le_refl _) (Nat.le_of_ble_eq_true rfl) (Nat.zero_le _) (Nat.zero_le _) h (fun v τ h => ?_) (fun x τ h => ?_)
      · obtain ⟨e1, h⟩ := h; cases e1; exact j_sel [0, 1, 2, 3] rfl h
      · obtain ⟨e1, h⟩ := h; cases e1
set_option maxHeartbeats 2000000 in
theorem b_En_evaluate_143 {ω : q_W} {σ : q_H} {Q : q_R → q_H → Prop} {d mc ms : Nat} {x2 : Int} {x3 : Int} {x4 : Int} {p : Nat} (hp : p = 16 ∨ p = 29) (r481 : q_r σ 48 1 = p) (hE : q_E σ) (h : (J ω m_En_evaluate (d + 1) mc ms 0 0 5 [(0, .ref 48), (2, .int (zI x2)), (3, .int (zI x3)), (4, .int (zI (x4 + 1)))] [] σ Q)) : J ω m_En_evaluate (d + 1) mc ms 0 0 143 [(0, .ref 48), (2, .int (zI x2)), (3, .int (zI x3)), (4, .int (zI x4))] [] σ Q := by
  refine j_goto 220 d_En_evaluate_143 (by decide) ?_
  refine zj_iinc (L' := [(4, .int (zI (x4 + 1))), (0, .ref 48), (2, .int (zI x2)), (3, .int (zI x3))]) (x4 + 1) d_En_evaluate_220 3 rfl (by omega) (by decide) rfl ?_
  refine j_goto 5 d_En_evaluate_223 (by decide) ?_
  exact j_sel [1, 2, 3, 0] rfl h
set_option maxHeartbeats 2000000 in
theorem b_En_evaluate_193 {ω : q_W} {σ : q_H} {Q : q_R → q_H → Prop} {d mc ms : Nat} {x2 : Int} {x3 : Int} {x4 : Int} {x5 : Int} {x6 : Int} {p : Nat} (hp : p = 16 ∨ p = 29) (r481 : q_r σ 48 1 = p) (hE : q_E σ) (h : inR x3 ∧ q_imp (x3 < 2) ((J ω m_En_evaluate (d + 1) mc ms 0 0 5 [(0, .ref 48), (2, .int (zI x2)), (3, .int (zI x3)), (4, .int (zI (x4 + 1)))] [] σ Q)) ∧ q_imp (x3 ≥ 2) ((J ω m_Wo_logic d 0 0 0 0 0 [(0, .ref 49), (1, .int (zI x5)), (2, .int (zI (x6 - 16))), (3, .int (zI (x6 - 8)))] [] σ (q_kv (fun τ => J ω m_En_evaluate (d + 1) mc ms 0 0 217 [(0, .ref 48), (2, .int (zI x2)), (3, .int (zI x3)), (4, .int (zI x4))] [] τ Q))))) : J ω m_En_evaluate (d + 1) mc ms 0 0 193 [(0, .ref 48), (2, .int (zI x2)), (3, .int (zI x3)), (4, .int (zI x4)), (5, .int (zI x5)), (6, .int (zI x6))] [] σ Q := by
  refine j_iload_n d_En_evaluate_193 2 rfl ?_
  refine j_iconst (v := zI 2) d_En_evaluate_194 (by decide) ?_
  obtain ⟨r22, h⟩ := h
  obtain ⟨h1, h2⟩ := h
  refine zj_icmp_lt 220 d_En_evaluate_195 (by decide) r22 ⟨by decide, by decide⟩ (fun k23 => ?_) (fun k23 => ?_)
  · have h := h1 k23
    refine zj_iinc (L' := [(4, .int (zI (x4 + 1))), (0, .ref 48), (2, .int (zI x2)), (3, .int (zI x3)), (5, .int (zI x5)), (6, .int (zI x6))]) (x4 + 1) d_En_evaluate_220 3 rfl (by omega) (by decide) rfl ?_
    refine j_goto 5 d_En_evaluate_223 (by decide) ?_
    exact j_sel [1, 2, 3, 0] rfl h
  · have h := h2 k23
    refine j_aload_n d_En_evaluate_198 0 rfl ?_
    refine j_getR 49 f_En_12 d_En_evaluate_199 (tg_48 hE) (q_okE hE (by decide)) (rf_48_0 hE) (by decide) ?_
    refine j_iload d_En_evaluate_202 4 rfl ?_
    refine j_iload d_En_evaluate_204 5 rfl ?_
    refine j_bipush (v := zI 16) d_En_evaluate_206 (by decide) ?_
    refine zj_isub (x6 - 16) (by omega) d_En_evaluate_208 ?_
    refine j_iload d_En_evaluate_209 5 rfl ?_
    refine j_bipush (v := zI 8) d_En_evaluate_211 (by decide) ?_
    refine zj_isub (x6 - 8) (by omega) d_En_evaluate_213 ?_
    refine j_callV m_Wo_logic [.int (zI x5), .int (zI (x6 - 16)), .int (zI (x6 - 8))] [] d 0 0 cV_En_153 d_En_evaluate_214 rfl rfl (tg_49 hE) (q_okE hE (by decide)) (Nat.le_of_ble_eq_true rfl) (Nat.le_refl _) (Nat.le_of_ble_eq_true rfl) (Nat.zero_le _) (Nat.zero_le _) h (fun v τ h => ?_) (fun x τ h => ?_)
    · obtain ⟨e1, h⟩ := h; cases e1; exact j_sel [0, 1, 2, 3] rfl h
    · obtain ⟨e1, h⟩ := h; cases e1
set_option maxHeartbeats 2000000 in
theorem b_En_evaluate_187 {ω : q_W} {σ : q_H} {Q : q_R → q_H → Prop} {d mc ms : Nat} {x2 : Int} {x3 : Int} {x4 : Int} {p : Nat} (hp : p = 16 ∨ p = 29) (r481 : q_r σ 48 1 = p) (hE : q_E σ) (h : (J ω m_En_evaluate (d + 1) mc ms 0 0 5 [(0, .ref 48), (2, .int (zI x2)), (3, .int (zI (x3 - 1))), (4, .int (zI (x4 + 1)))] [] σ Q)) : J ω m_En_evaluate (d + 1) mc ms 0 0 187 [(0, .ref 48), (2, .int (zI x2)), (3, .int (zI x3)), (4, .int (zI x4))] [] σ Q := by
  refine zj_iinc (L' := [(3, .int (zI (x3 - 1))), (0, .ref 48), (2, .int (zI x2)), (4, .int (zI x4))]) (x3 - 1) d_En_evaluate_187 2 rfl (by omega) (by decide) rfl ?_
  refine j_goto 220 d_En_evaluate_190 (by decide) ?_
  refine zj_iinc (L' := [(4, .int (zI (x4 + 1))), (3, .int (zI (x3 - 1))), (0, .ref 48), (2, .int (zI x2))]) (x4 + 1) d_En_evaluate_220 3 rfl (by omega) (by decide) rfl ?_
  refine j_goto 5 d_En_evaluate_223 (by decide) ?_
  exact j_sel [2, 3, 1, 0] rfl h
set_option maxHeartbeats 2000000 in
theorem b_En_evaluate_217 {ω : q_W} {σ : q_H} {Q : q_R → q_H → Prop} {d mc ms : Nat} {x2 : Int} {x3 : Int} {x4 : Int} {p : Nat} (hp : p = 16 ∨ p = 29) (r481 : q_r σ 48 1 = p) (hE : q_E σ) (h : (J ω m_En_evaluate (d + 1) mc ms 0 0 5 [(0, .ref 48), (2, .int (zI x2)), (3, .int (zI (x3 - 1))), (4, .int (zI (x4 + 1)))] [] σ Q)) : J ω m_En_evaluate (d + 1) mc ms 0 0 217 [(0, .ref 48), (2, .int (zI x2)), (3, .int (zI x3)), (4, .int (zI x4))] [] σ Q := by
  refine zj_iinc (L' := [(3, .int (zI (x3 - 1))), (0, .ref 48), (2, .int (zI x2)), (4, .int (zI x4))]) (x3 - 1) d_En_evaluate_217 2 rfl (by omega) (by decide) rfl ?_
  refine zj_iinc (L' := [(4, .int (zI (x4 + 1))), (3, .int (zI (x3 - 1))), (0, .ref 48), (2, .int (zI x2))]) (x4 + 1) d_En_evaluate_220 3 rfl (by omega) (by decide) rfl ?_
  refine j_goto 5 d_En_evaluate_223 (by decide) ?_
  exact j_sel [2, 3, 1, 0] rfl h
set_option maxHeartbeats 2000000 in
theorem b_En_fetch_0 {ω : q_W} {σ : q_H} {Q : q_R → q_H → Prop} {d mc ms : Nat} {x1 : Int} {x2 : Int} {x3 : Int} {p : Nat} (hp : p = 16 ∨ p = 29) (r481 : q_r σ 48 1 = p) (hE : q_E σ) (h : inR x1 ∧ q_imp (x1 ≠ 23) (q_imp (x1 ≠ 24) ((J ω m_Wo_load d 0 0 0 0 0 [(0, .ref 49), (1, .int (zI x3)), (2, .ref 62), (3, .int (zI (x2 * 8)))] [] σ (q_kv (fun τ => J ω m_En_fetch (d + 1) mc ms 0 0 59 [] [] τ Q)))) ∧ q_imp (x1 = 24) ((J ω m_Wo_load d 0 0 0 0 0 [(0, .ref 49), (1, .int (zI x3)), (2, .ref 61), (3, .int (zI (x2 * 8)))] [] σ (q_kv (fun τ => J ω m_En_fetch (d + 1) mc ms 0 0 40 [] [] τ Q))))) ∧ q_imp (x1 = 23) ((J ω m_Wo_loadNumber d 0 0 0 0 0 [(0, .ref 49), (1, .int (zI x3)), (2, .int (zI x2))] [] σ (q_kv (fun τ => J ω m_En_fetch (d + 1) mc ms 0 0 15 [] [] τ Q))))) : J ω m_En_fetch (d + 1) mc ms 0 0 0 [(0, .ref 48), (1, .int (zI x1)), (2, .int (zI x2)), (3, .int (zI x3))] [] σ Q := by
  refine j_iload_n d_En_fetch_0 1 rfl ?_
  refine j_bipush (v := zI 23) d_En_fetch_1 (by decide) ?_
  obtain ⟨r1, h⟩ := h
  obtain ⟨h1, h2⟩ := h
  refine zj_icmp_ne 18 d_En_fetch_3 (by decide) r1 ⟨by decide, by decide⟩ (fun k2 => ?_) (fun k2 => ?_)
  · have h := h1 k2
    refine j_iload_n d_En_fetch_18 1 rfl ?_
    refine j_bipush (v := zI 24) d_En_fetch_19 (by decide) ?_
    obtain ⟨h1, h2⟩ := h
    refine zj_icmp_ne 43 d_En_fetch_21 (by decide) r1 ⟨by decide, by decide⟩ (fun k3 => ?_) (fun k3 => ?_)
    · have h := h1 k3
      refine j_aload_n d_En_fetch_43 0 rfl ?_
      refine j_getR 49 f_En_12 d_En_fetch_44 (tg_48 hE) (q_okE hE (by decide)) (rf_48_0 hE) (by decide) ?_
      refine j_iload_n d_En_fetch_47 3 rfl ?_
      refine j_aload_n d_En_fetch_48 0 rfl ?_
      refine j_getR 62 f_En_22 d_En_fetch_49 (tg_48 hE) (q_okE hE (by decide)) (rf_48_3 hE) (by decide) ?_
      refine j_iload_n d_En_fetch_52 2 rfl ?_
      refine j_bipush (v := zI 8) d_En_fetch_53 (by decide) ?_
      refine zj_imul (x2 * 8) rfl d_En_fetch_55 ?_
      refine j_callV m_Wo_load [.int (zI x3), .ref 62, .int (zI (x2 * 8))] [] d 0 0 cV_En_159 d_En_fetch_56 rfl rfl (tg_49 hE) (q_okE hE (by decide)) (Nat.le_of_ble_eq_true rfl) (Nat.le_refl _) (Nat.le_of_ble_eq_true rfl) (Nat.zero_le _) (Nat.zero_le _) h (fun v τ h => ?_) (fun x τ h => ?_)
      · obtain ⟨e1, h⟩ := h; cases e1; exact j_sel [] rfl h
      · obtain ⟨e1, h⟩ := h; cases e1
    · have h := h2 k3
      refine j_aload_n d_En_fetch_24 0 rfl ?_
      refine j_getR 49 f_En_12 d_En_fetch_25 (tg_48 hE) (q_okE hE (by decide)) (rf_48_0 hE) (by decide) ?_
      refine j_iload_n d_En_fetch_28 3 rfl ?_
      refine j_aload_n d_En_fetch_29 0 rfl ?_
      refine j_getR 61 f_En_18 d_En_fetch_30 (tg_48 hE) (q_okE hE (by decide)) (rf_48_2 hE) (by decide) ?_
      refine j_iload_n d_En_fetch_33 2 rfl ?_
      refine j_bipush (v := zI 8) d_En_fetch_34 (by decide) ?_
      refine zj_imul (x2 * 8) rfl d_En_fetch_36 ?_
      refine j_callV m_Wo_load [.int (zI x3), .ref 61, .int (zI (x2 * 8))] [] d 0 0 cV_En_159 d_En_fetch_37 rfl rfl (tg_49 hE) (q_okE hE (by decide)) (Nat.le_of_ble_eq_true rfl) (Nat.le_refl _) (Nat.le_of_ble_eq_true rfl) (Nat.zero_le _) (Nat.zero_le _) h (fun v τ h => ?_) (fun x τ h => ?_)
      · obtain ⟨e1, h⟩ := h; cases e1; exact j_sel [] rfl h
      · obtain ⟨e1, h⟩ := h; cases e1
  · have h := h2 k2
    refine j_aload_n d_En_fetch_6 0 rfl ?_
    refine j_getR 49 f_En_12 d_En_fetch_7 (tg_48 hE) (q_okE hE (by decide)) (rf_48_0 hE) (by decide) ?_
    refine j_iload_n d_En_fetch_10 3 rfl ?_
    refine j_iload_n d_En_fetch_11 2 rfl ?_
    refine j_callV m_Wo_loadNumber [.int (zI x3), .int (zI x2)] [] d 0 0 cV_En_156 d_En_fetch_12 rfl rfl (tg_49 hE) (q_okE hE (by decide)) (Nat.le_of_ble_eq_true rfl) (Nat.le_refl _) (Nat.le_of_ble_eq_true rfl) (Nat.zero_le _) (Nat.zero_le _) h (fun v τ h => ?_) (fun x τ h => ?_)
    · obtain ⟨e1, h⟩ := h; cases e1; exact j_sel [] rfl h
    · obtain ⟨e1, h⟩ := h; cases e1
set_option maxHeartbeats 2000000 in
theorem b_En_fetch_59 {ω : q_W} {σ : q_H} {Q : q_R → q_H → Prop} {d mc ms : Nat}  {p : Nat} (hp : p = 16 ∨ p = 29) (r481 : q_r σ 48 1 = p) (hE : q_E σ) (h : (Q (.inl none) σ)) : J ω m_En_fetch (d + 1) mc ms 0 0 59 [] [] σ Q := by
  exact j_vret d_En_fetch_59 rfl (Nat.zero_le _) (Nat.zero_le _) h
set_option maxHeartbeats 2000000 in
theorem b_En_fetch_40 {ω : q_W} {σ : q_H} {Q : q_R → q_H → Prop} {d mc ms : Nat}  {p : Nat} (hp : p = 16 ∨ p = 29) (r481 : q_r σ 48 1 = p) (hE : q_E σ) (h : (Q (.inl none) σ)) : J ω m_En_fetch (d + 1) mc ms 0 0 40 [] [] σ Q := by
  refine j_goto 59 d_En_fetch_40 (by decide) ?_
  exact j_vret d_En_fetch_59 rfl (Nat.zero_le _) (Nat.zero_le _) h
set_option maxHeartbeats 2000000 in
theorem b_En_fetch_15 {ω : q_W} {σ : q_H} {Q : q_R → q_H → Prop} {d mc ms : Nat}  {p : Nat} (hp : p = 16 ∨ p = 29) (r481 : q_r σ 48 1 = p) (hE : q_E σ) (h : (Q (.inl none) σ)) : J ω m_En_fetch (d + 1) mc ms 0 0 15 [] [] σ Q := by
  refine j_goto 59 d_En_fetch_15 (by decide) ?_
  exact j_vret d_En_fetch_59 rfl (Nat.zero_le _) (Nat.zero_le _) h
theorem o_En_perform_9 {x : Int} (cs1 : ¬ x = 1) (cs2 : ¬ x = 2) (cs3 : ¬ x = 3) (cs4 : ¬ x = 4) (cs5 : ¬ x = 5) (cs6 : ¬ x = 6) (cs7 : ¬ x = 7) (cs8 : ¬ x = 8) : x < 1 ∨ 8 < x := by omega
set_option maxHeartbeats 2000000 in
theorem b_En_perform_0 {ω : q_W} {σ : q_H} {Q : q_R → q_H → Prop} {d mc ms : Nat} {x1 : Int} {x2 : Int} {p : Nat} (hp : p = 16 ∨ p = 29) (r481 : q_r σ 48 1 = p) (hE : q_E σ) (h : (0 ≤ x1 ∧ x1 < 2048) ∧ q_imp ((z σ (p + 5) x1.toNat) = 1) ((0 ≤ x2 ∧ x2 < 12) ∧ ((0 : Int) ≤ 0 ∧ (0 : Int) ≤ (x2 * 8) ∧ (0 : Int) ≤ (z σ (p + 3) x2.toNat) ∧ (0 : Int) + (z σ (p + 3) x2.toNat) ≤ ((3200 : Nat) : Int) ∧ ((x2 * 8) : Int) + (z σ (p + 3) x2.toNat) ≤ ((96 : Nat) : Int)) ∧ (Q (.inl (some (.int (zI (x1 + 1))))) (zcp σ 58 0 62 (x2 * 8).toNat (z σ (p + 3) x2.toNat).toNat))) ∧ q_imp ((z σ (p + 5) x1.toNat) = 2) ((J ω m_Wo_truth d 0 0 0 0 0 [(0, .ref 49), (1, .int (zI 0))] [] σ (q_ki (fun v τ => J ω m_En_perform (d + 1) mc ms 0 0 97 [(1, .int (zI x1))] [.int (zI v), .int (zI x2), .ref 48] τ Q)))) ∧ q_imp ((z σ (p + 5) x1.toNat) = 3) ((J ω m_Wo_truth d 0 0 0 0 0 [(0, .ref 49), (1, .int (zI 0))] [] σ (q_ki (fun v τ => J ω m_En_perform (d + 1) mc ms 0 0 123 [(1, .int (zI x1))] [.int (zI v), .int (zI (z σ 48 4)), .ref 50, .ref 48] τ Q)))) ∧ q_imp ((z σ (p + 5) x1.toNat) = 4) ((J ω m_Wo_truth d 0 0 0 0 0 [(0, .ref 49), (1, .int (zI 0))] [] σ (q_ki (fun v τ => J ω m_En_perform (d + 1) mc ms 0 0 141 [(1, .int (zI x1))] [.int (zI v), .ref 48] τ Q)))) ∧ q_imp ((z σ (p + 5) x1.toNat) = 5) ((J ω m_En_swap d 0 0 0 0 0 [(0, .ref 48)] [] σ (q_kv (fun τ => J ω m_En_perform (d + 1) mc ms 0 0 151 [(1, .int (zI x1))] [] τ Q)))) ∧ q_imp ((z σ (p + 5) x1.toNat) = 6) ((J ω m_En_join d 0 0 0 0 0 [(0, .ref 48)] [] σ (q_kv (fun τ => J ω m_En_perform (d + 1) mc ms 0 0 158 [(1, .int (zI x1))] [] τ Q)))) ∧ q_imp ((z σ (p + 5) x1.toNat) = 7) (q_imp ((z σ p 4) ≠ 0) ((0 ≤ (z σ (p + 9) x1.toNat) ∧ (z σ (p + 9) x1.toNat) < 32) ∧ (Q (.inl (some (.int (zI (x1 + 1))))) (zs σ 68 (z σ (p + 9) x1.toNat).toNat x2))) ∧ q_imp ((z σ p 4) = 0) (inR x2 ∧ (0 ≤ (z σ (p + 9) x1.toNat) ∧ (z σ (p + 9) x1.toNat) < 32) ∧ (Q (.inl (some (.int (zI (x1 + 1))))) (zs σ 68 (z σ (p + 9) x1.toNat).toNat (min x2 1))))) ∧ q_imp ((z σ (p + 5) x1.toNat) = 8) ((J ω m_Wo_truth d 0 0 0 0 0 [(0, .ref 49), (1, .int (zI 0))] [] σ (q_ki (fun v τ => J ω m_En_perform (d + 1) mc ms 0 0 208 [] [.int (zI v), .int (zI x2), .int (zI x1), .ref 48] τ Q)))) ∧ q_imp ((z σ (p + 5) x1.toNat) ≠ 1 ∧ (z σ (p + 5) x1.toNat) ≠ 2 ∧ (z σ (p + 5) x1.toNat) ≠ 3 ∧ (z σ (p + 5) x1.toNat) ≠ 4 ∧ (z σ (p + 5) x1.toNat) ≠ 5 ∧ (z σ (p + 5) x1.toNat) ≠ 6 ∧ (z σ (p + 5) x1.toNat) ≠ 7 ∧ (z σ (p + 5) x1.toNat) ≠ 8) ((J ω m_En_join d 0 0 0 0 0 [(0, .ref 48)] [] σ (q_kv (fun τ => J ω m_En_perform (d + 1) mc ms 0 0 216 [(0, .ref 48), (1, .int (zI x1))] [] τ Q))))) : J ω m_En_perform (d + 1) mc ms 0 0 0 [(0, .ref 48), (1, .int (zI x1)), (2, .int (zI x2))] [] σ Q := by
  refine j_aload_n d_En_perform_0 0 rfl ?_
  refine j_getR p f_En_50 d_En_perform_1 (tg_48 hE) (q_okE hE (by decide)) (r481) (by omega) ?_
  refine j_getR (p + 5) f_En_163 d_En_perform_4 (tY_p_0 hE hp) (q_okE hE (by omega)) (rY_p_12 hE hp) (by omega) ?_
  refine j_iload_n d_En_perform_7 1 rfl ?_
  obtain ⟨c1, h⟩ := h
  refine zj_iald (z σ (p + 5) x1.toNat) d_En_perform_8 (tY_p_5 hE hp) (q_okE hE (by omega)) c1 (by decide) (q_z _ _ _) ?_
  obtain ⟨g56, g87, g103, g132, g147, g154, g161, g197, gD⟩ := h
  have jg56 : q_imp ((z σ (p + 5) x1.toNat) = 1) (J ω m_En_perform (d + 1) mc ms 0 0 56 [(0, .ref 48), (1, .int (zI x1)), (2, .int (zI x2))] [] σ Q) := by
    intro c
    have h := g56 c
    refine j_aload_n d_En_perform_56 0 rfl ?_
    refine j_getR 49 f_En_12 d_En_perform_57 (tg_48 hE) (q_okE hE (by decide)) (rf_48_0 hE) (by decide) ?_
    refine j_getR 58 f_En_166 d_En_perform_60 (tg_49 hE) (q_okE hE (by decide)) (rf_49_1 hE) (by decide) ?_
    refine j_iconst (v := zI 0) d_En_perform_63 (by decide) ?_
    refine j_aload_n d_En_perform_64 0 rfl ?_
    refine j_getR 62 f_En_22 d_En_perform_65 (tg_48 hE) (q_okE hE (by decide)) (rf_48_3 hE) (by decide) ?_
    refine j_iload_n d_En_perform_68 2 rfl ?_
    refine j_bipush (v := zI 8) d_En_perform_69 (by decide) ?_
    refine zj_imul (x2 * 8) rfl d_En_perform_71 ?_
    refine j_aload_n d_En_perform_72 0 rfl ?_
    refine j_getR p f_En_50 d_En_perform_73 (tg_48 hE) (q_okE hE (by decide)) (r481) (by omega) ?_
    refine j_getR (p + 3) f_En_169 d_En_perform_76 (tY_p_0 hE hp) (q_okE hE (by omega)) (rY_p_5 hE hp) (by omega) ?_
    refine j_iload_n d_En_perform_79 2 rfl ?_
    obtain ⟨c2, h⟩ := h
    refine zj_iald (z σ (p + 3) x2.toNat) d_En_perform_80 (tY_p_3 hE hp) (q_okE hE (by omega)) c2 (by decide) (q_z _ _ _) ?_
    obtain ⟨c3, h⟩ := h
    refine zj_copy (List.mem_of_getElem? (i := 1130) (by decide +kernel)) d_En_perform_81 (tg_58 hE) (q_okE hE (by decide)) (tg_62 hE) (q_okE hE (by decide)) c3 (by decide) (by decide) (Nat.succ_le_succ (Nat.zero_le _)) (Nat.le_of_ble_eq_true rfl) ?_
    refine j_goto 226 d_En_perform_84 (by decide) ?_
    refine j_iload_n d_En_perform_226 1 rfl ?_
    refine j_iconst (v := zI 1) d_En_perform_227 (by decide) ?_
    refine zj_iadd (x1 + 1) (by omega) d_En_perform_228 ?_
    exact zj_iret d_En_perform_229 rfl (Nat.zero_le _) (Nat.zero_le _) h
  have jg87 : q_imp ((z σ (p + 5) x1.toNat) = 2) (J ω m_En_perform (d + 1) mc ms 0 0 87 [(0, .ref 48), (1, .int (zI x1)), (2, .int (zI x2))] [] σ Q) := by
    intro c
    have h := g87 c
    refine j_aload_n d_En_perform_87 0 rfl ?_
    refine j_iload_n d_En_perform_88 2 rfl ?_
    refine j_aload_n d_En_perform_89 0 rfl ?_
    refine j_getR 49 f_En_12 d_En_perform_90 (tg_48 hE) (q_okE hE (by decide)) (rf_48_0 hE) (by decide) ?_
    refine j_iconst (v := zI 0) d_En_perform_93 (by decide) ?_
    refine j_callV m_Wo_truth [.int (zI 0)] [.int (zI x2), .ref 48] d 0 0 cV_En_178 d_En_perform_94 rfl rfl (tg_49 hE) (q_okE hE (by decide)) (Nat.le_of_ble_eq_true rfl) (Nat.le_refl _) (Nat.le_of_ble_eq_true rfl) (Nat.zero_le _) (Nat.zero_le _) h (fun v τ h => ?_) (fun x τ h => ?_)
    · obtain ⟨v, hv, e1, h⟩ := h; cases e1; exact j_sel [1] rfl h
    · obtain ⟨v, hv, e1, h⟩ := h; cases e1
  have jg103 : q_imp ((z σ (p + 5) x1.toNat) = 3) (J ω m_En_perform (d + 1) mc ms 0 0 103 [(0, .ref 48), (1, .int (zI x1)), (2, .int (zI x2))] [] σ Q) := by
    intro c
    have h := g103 c
    refine j_aload_n d_En_perform_103 0 rfl ?_
    refine j_aload_n d_En_perform_104 0 rfl ?_
    refine j_getR 49 f_En_12 d_En_perform_105 (tg_48 hE) (q_okE hE (by decide)) (rf_48_0 hE) (by decide) ?_
    refine j_getR 50 f_En_46 d_En_perform_108 (tg_49 hE) (q_okE hE (by decide)) (rf_49_0 hE) (by decide) ?_
    refine j_aload_n d_En_perform_111 0 rfl ?_
    refine zj_getI (z σ 48 4) f_En_68 d_En_perform_112 (tg_48 hE) (q_okE hE (by decide)) (q_z _ _ _) ?_
    refine j_aload_n d_En_perform_115 0 rfl ?_
    refine j_getR 49 f_En_12 d_En_perform_116 (tg_48 hE) (q_okE hE (by decide)) (rf_48_0 hE) (by decide) ?_
    refine j_iconst (v := zI 0) d_En_perform_119 (by decide) ?_
    refine j_callV m_Wo_truth [.int (zI 0)] [.int (zI (z σ 48 4)), .ref 50, .ref 48] d 0 0 cV_En_178 d_En_perform_120 rfl rfl (tg_49 hE) (q_okE hE (by decide)) (Nat.le_of_ble_eq_true rfl) (Nat.le_refl _) (Nat.le_of_ble_eq_true rfl) (Nat.zero_le _) (Nat.zero_le _) h (fun v τ h => ?_) (fun x τ h => ?_)
    · obtain ⟨v, hv, e1, h⟩ := h; cases e1; exact j_sel [1] rfl h
    · obtain ⟨v, hv, e1, h⟩ := h; cases e1
  have jg132 : q_imp ((z σ (p + 5) x1.toNat) = 4) (J ω m_En_perform (d + 1) mc ms 0 0 132 [(0, .ref 48), (1, .int (zI x1)), (2, .int (zI x2))] [] σ Q) := by
    intro c
    have h := g132 c
    refine j_aload_n d_En_perform_132 0 rfl ?_
    refine j_aload_n d_En_perform_133 0 rfl ?_
    refine j_getR 49 f_En_12 d_En_perform_134 (tg_48 hE) (q_okE hE (by decide)) (rf_48_0 hE) (by decide) ?_
    refine j_iconst (v := zI 0) d_En_perform_137 (by decide) ?_
    refine j_callV m_Wo_truth [.int (zI 0)] [.ref 48] d 0 0 cV_En_178 d_En_perform_138 rfl rfl (tg_49 hE) (q_okE hE (by decide)) (Nat.le_of_ble_eq_true rfl) (Nat.le_refl _) (Nat.le_of_ble_eq_true rfl) (Nat.zero_le _) (Nat.zero_le _) h (fun v τ h => ?_) (fun x τ h => ?_)
    · obtain ⟨v, hv, e1, h⟩ := h; cases e1; exact j_sel [1] rfl h
    · obtain ⟨v, hv, e1, h⟩ := h; cases e1
  have jg147 : q_imp ((z σ (p + 5) x1.toNat) = 5) (J ω m_En_perform (d + 1) mc ms 0 0 147 [(0, .ref 48), (1, .int (zI x1)), (2, .int (zI x2))] [] σ Q) := by
    intro c
    have h := g147 c
    refine j_aload_n d_En_perform_147 0 rfl ?_
    refine j_callV m_En_swap [] [] d 0 0 cV_En_191 d_En_perform_148 rfl rfl (tg_48 hE) (q_okE hE (by decide)) (Nat.le_of_ble_eq_true rfl) (Nat.le_refl _) (Nat.le_of_ble_eq_true rfl) (Nat.zero_le _) (Nat.zero_le _) h (fun v τ h => ?_) (fun x τ h => ?_)
    · obtain ⟨e1, h⟩ := h; cases e1; exact j_sel [1] rfl h
    · obtain ⟨e1, h⟩ := h; cases e1
  have jg154 : q_imp ((z σ (p + 5) x1.toNat) = 6) (J ω m_En_perform (d + 1) mc ms 0 0 154 [(0, .ref 48), (1, .int (zI x1)), (2, .int (zI x2))] [] σ Q) := by
    intro c
    have h := g154 c
    refine j_aload_n d_En_perform_154 0 rfl ?_
    refine j_callV m_En_join [] [] d 0 0 cV_En_194 d_En_perform_155 rfl rfl (tg_48 hE) (q_okE hE (by decide)) (Nat.le_of_ble_eq_true rfl) (Nat.le_refl _) (Nat.le_of_ble_eq_true rfl) (Nat.zero_le _) (Nat.zero_le _) h (fun v τ h => ?_) (fun x τ h => ?_)
    · obtain ⟨e1, h⟩ := h; cases e1; exact j_sel [1] rfl h
    · obtain ⟨e1, h⟩ := h; cases e1
  have jg161 : q_imp ((z σ (p + 5) x1.toNat) = 7) (J ω m_En_perform (d + 1) mc ms 0 0 161 [(0, .ref 48), (1, .int (zI x1)), (2, .int (zI x2))] [] σ Q) := by
    intro c
    have h := g161 c
    refine j_aload_n d_En_perform_161 0 rfl ?_
    refine j_getR 68 f_En_40 d_En_perform_162 (tg_48 hE) (q_okE hE (by decide)) (rf_48_13 hE) (by decide) ?_
    refine j_aload_n d_En_perform_165 0 rfl ?_
    refine j_getR p f_En_50 d_En_perform_166 (tg_48 hE) (q_okE hE (by decide)) (r481) (by omega) ?_
    refine j_getR (p + 9) f_En_197 d_En_perform_169 (tY_p_0 hE hp) (q_okE hE (by omega)) (rY_p_16 hE hp) (by omega) ?_
    refine j_iload_n d_En_perform_172 1 rfl ?_
    refine zj_iald (z σ (p + 9) x1.toNat) d_En_perform_173 (tY_p_9 hE hp) (q_okE hE (by omega)) c1 (by decide) (q_z _ _ _) ?_
    refine j_aload_n d_En_perform_174 0 rfl ?_
    refine j_getR p f_En_50 d_En_perform_175 (tg_48 hE) (q_okE hE (by decide)) (r481) (by omega) ?_
    refine zj_getI (z σ p 4) f_En_200 d_En_perform_178 (tY_p_0 hE hp) (q_okE hE (by omega)) (q_z _ _ _) ?_
    obtain ⟨h1, h2⟩ := h
    refine zj_if_ne 192 d_En_perform_181 (by decide) (z_R _ _ _) (fun k4 => ?_) (fun k4 => ?_)
    · have h := h1 k4
      refine j_iload_n d_En_perform_192 2 rfl ?_
      obtain ⟨c5, h⟩ := h
      refine zj_iast d_En_perform_193 (tg_68 hE) (q_okE hE (by decide)) c5 (by decide) ?_
      refine j_goto 226 d_En_perform_194 (by decide) ?_
      refine j_iload_n d_En_perform_226 1 rfl ?_
      refine j_iconst (v := zI 1) d_En_perform_227 (by decide) ?_
      refine zj_iadd (x1 + 1) (by omega) d_En_perform_228 ?_
      exact zj_iret d_En_perform_229 rfl (Nat.zero_le _) (Nat.zero_le _) h
    · have h := h2 k4
      refine j_iload_n d_En_perform_184 2 rfl ?_
      refine j_iconst (v := zI 1) d_En_perform_185 (by decide) ?_
      obtain ⟨r6, h⟩ := h
      refine zj_min (List.mem_of_getElem? (i := 1155) (by decide +kernel)) d_En_perform_186 (Nat.succ_le_succ (Nat.zero_le _)) (Nat.le_of_ble_eq_true rfl) (Nat.zero_le _) (Nat.zero_le _) r6 ⟨by decide, by decide⟩ ?_
      refine j_goto 193 d_En_perform_189 (by decide) ?_
      obtain ⟨c7, h⟩ := h
      refine zj_iast d_En_perform_193 (tg_68 hE) (q_okE hE (by decide)) c7 (by decide) ?_
      refine j_goto 226 d_En_perform_194 (by decide) ?_
      refine j_iload_n d_En_perform_226 1 rfl ?_
      refine j_iconst (v := zI 1) d_En_perform_227 (by decide) ?_
      refine zj_iadd (x1 + 1) (by omega) d_En_perform_228 ?_
      exact zj_iret d_En_perform_229 rfl (Nat.zero_le _) (Nat.zero_le _) h
  have jg197 : q_imp ((z σ (p + 5) x1.toNat) = 8) (J ω m_En_perform (d + 1) mc ms 0 0 197 [(0, .ref 48), (1, .int (zI x1)), (2, .int (zI x2))] [] σ Q) := by
    intro c
    have h := g197 c
    refine j_aload_n d_En_perform_197 0 rfl ?_
    refine j_iload_n d_En_perform_198 1 rfl ?_
    refine j_iload_n d_En_perform_199 2 rfl ?_
    refine j_aload_n d_En_perform_200 0 rfl ?_
    refine j_getR 49 f_En_12 d_En_perform_201 (tg_48 hE) (q_okE hE (by decide)) (rf_48_0 hE) (by decide) ?_
    refine j_iconst (v := zI 0) d_En_perform_204 (by decide) ?_
    refine j_callV m_Wo_truth [.int (zI 0)] [.int (zI x2), .int (zI x1), .ref 48] d 0 0 cV_En_178 d_En_perform_205 rfl rfl (tg_49 hE) (q_okE hE (by decide)) (Nat.le_of_ble_eq_true rfl) (Nat.le_refl _) (Nat.le_of_ble_eq_true rfl) (Nat.zero_le _) (Nat.zero_le _) h (fun v τ h => ?_) (fun x τ h => ?_)
    · obtain ⟨v, hv, e1, h⟩ := h; cases e1; exact j_sel [] rfl h
    · obtain ⟨v, hv, e1, h⟩ := h; cases e1
  have jgD : q_imp ((z σ (p + 5) x1.toNat) ≠ 1 ∧ (z σ (p + 5) x1.toNat) ≠ 2 ∧ (z σ (p + 5) x1.toNat) ≠ 3 ∧ (z σ (p + 5) x1.toNat) ≠ 4 ∧ (z σ (p + 5) x1.toNat) ≠ 5 ∧ (z σ (p + 5) x1.toNat) ≠ 6 ∧ (z σ (p + 5) x1.toNat) ≠ 7 ∧ (z σ (p + 5) x1.toNat) ≠ 8) (J ω m_En_perform (d + 1) mc ms 0 0 212 [(0, .ref 48), (1, .int (zI x1)), (2, .int (zI x2))] [] σ Q) := by
    intro c
    have h := gD c
    refine j_aload_n d_En_perform_212 0 rfl ?_
    refine j_callV m_En_join [] [] d 0 0 cV_En_194 d_En_perform_213 rfl rfl (tg_48 hE) (q_okE hE (by decide)) (Nat.le_of_ble_eq_true rfl) (Nat.le_refl _) (Nat.le_of_ble_eq_true rfl) (Nat.zero_le _) (Nat.zero_le _) h (fun v τ h => ?_) (fun x τ h => ?_)
    · obtain ⟨e1, h⟩ := h; cases e1; exact j_sel [0, 1] rfl h
    · obtain ⟨e1, h⟩ := h; cases e1
  by_cases cs1 : (z σ (p + 5) x1.toNat) = 1
  · exact j_topE (v := zI 1) (by rw [cs1]) (j_tabIn 56 d_En_perform_9 (by decide) (by decide) rfl (by decide) (jg56 cs1))
  by_cases cs2 : (z σ (p + 5) x1.toNat) = 2
  · exact j_topE (v := zI 2) (by rw [cs2]) (j_tabIn 87 d_En_perform_9 (by decide) (by decide) rfl (by decide) (jg87 cs2))
  by_cases cs3 : (z σ (p + 5) x1.toNat) = 3
  · exact j_topE (v := zI 3) (by rw [cs3]) (j_tabIn 103 d_En_perform_9 (by decide) (by decide) rfl (by decide) (jg103 cs3))
  by_cases cs4 : (z σ (p + 5) x1.toNat) = 4
  · exact j_topE (v := zI 4) (by rw [cs4]) (j_tabIn 132 d_En_perform_9 (by decide) (by decide) rfl (by decide) (jg132 cs4))
  by_cases cs5 : (z σ (p + 5) x1.toNat) = 5
  · exact j_topE (v := zI 5) (by rw [cs5]) (j_tabIn 147 d_En_perform_9 (by decide) (by decide) rfl (by decide) (jg147 cs5))
  by_cases cs6 : (z σ (p + 5) x1.toNat) = 6
  · exact j_topE (v := zI 6) (by rw [cs6]) (j_tabIn 154 d_En_perform_9 (by decide) (by decide) rfl (by decide) (jg154 cs6))
  by_cases cs7 : (z σ (p + 5) x1.toNat) = 7
  · exact j_topE (v := zI 7) (by rw [cs7]) (j_tabIn 161 d_En_perform_9 (by decide) (by decide) rfl (by decide) (jg161 cs7))
  by_cases cs8 : (z σ (p + 5) x1.toNat) = 8
  · exact j_topE (v := zI 8) (by rw [cs8]) (j_tabIn 197 d_En_perform_9 (by decide) (by decide) rfl (by decide) (jg197 cs8))
  exact j_tabOut 212 d_En_perform_9 (by rw [zI_toInt (z_R _ _ _)]; exact o_En_perform_9 cs1 cs2 cs3 cs4 cs5 cs6 cs7 cs8) (by decide) (jgD ⟨cs1, cs2, cs3, cs4, cs5, cs6, cs7, cs8⟩)
set_option maxHeartbeats 2000000 in
theorem b_En_perform_97 {ω : q_W} {σ : q_H} {Q : q_R → q_H → Prop} {d mc ms : Nat} {x1 : Int} {y0 : Int} {y1 : Int} {p : Nat} (hp : p = 16 ∨ p = 29) (r481 : q_r σ 48 1 = p) (hE : q_E σ) (h : (J ω m_En_claim d 0 0 0 0 0 [(0, .ref 48), (1, .int (zI y1)), (2, .int (zI y0))] [] σ (q_kv (fun τ => J ω m_En_perform (d + 1) mc ms 0 0 100 [(1, .int (zI x1))] [] τ Q)))) : J ω m_En_perform (d + 1) mc ms 0 0 97 [(1, .int (zI x1))] [.int (zI y0), .int (zI y1), .ref 48] σ Q := by
  refine j_callV m_En_claim [.int (zI y1), .int (zI y0)] [] d 0 0 cV_En_182 d_En_perform_97 rfl rfl (tg_48 hE) (q_okE hE (by decide)) (Nat.le_of_ble_eq_true rfl) (Nat.le_refl _) (Nat.le_of_ble_eq_true rfl) (Nat.zero_le _) (Nat.zero_le _) h (fun v τ h => ?_) (fun x τ h => ?_)
  · obtain ⟨e1, h⟩ := h; cases e1; exact j_sel [0] rfl h
  · obtain ⟨e1, h⟩ := h; cases e1
set_option maxHeartbeats 2000000 in
theorem b_En_perform_123 {ω : q_W} {σ : q_H} {Q : q_R → q_H → Prop} {d mc ms : Nat} {x1 : Int} {y0 : Int} {y1 : Int} {p : Nat} (hp : p = 16 ∨ p = 29) (r481 : q_r σ 48 1 = p) (hE : q_E σ) (h : (J ω m_Ci_and d 0 0 0 0 0 [(0, .ref 50), (1, .int (zI y1)), (2, .int (zI y0))] [] σ (q_ki (fun v τ => J ω m_En_perform (d + 1) mc ms 0 0 126 [(1, .int (zI x1))] [.int (zI v), .ref 48] τ Q)))) : J ω m_En_perform (d + 1) mc ms 0 0 123 [(1, .int (zI x1))] [.int (zI y0), .int (zI y1), .ref 50, .ref 48] σ Q := by
  refine j_callV m_Ci_and [.int (zI y1), .int (zI y0)] [.ref 48] d 0 0 cV_En_185 d_En_perform_123 rfl rfl (tg_50 hE) (q_okE hE (by decide)) (Nat.le_of_ble_eq_true rfl) (Nat.le_refl _) (Nat.le_of_ble_eq_true rfl) (Nat.zero_le _) (Nat.zero_le _) h (fun v τ h => ?_) (fun x τ h => ?_)
  · obtain ⟨v, hv, e1, h⟩ := h; cases e1; exact j_sel [0] rfl h
  · obtain ⟨v, hv, e1, h⟩ := h; cases e1
set_option maxHeartbeats 2000000 in
theorem b_En_perform_141 {ω : q_W} {σ : q_H} {Q : q_R → q_H → Prop} {d mc ms : Nat} {x1 : Int} {y0 : Int} {p : Nat} (hp : p = 16 ∨ p = 29) (r481 : q_r σ 48 1 = p) (hE : q_E σ) (h : (J ω m_En_fork d 0 0 0 0 0 [(0, .ref 48), (1, .int (zI y0))] [] σ (q_kv (fun τ => J ω m_En_perform (d + 1) mc ms 0 0 144 [(1, .int (zI x1))] [] τ Q)))) : J ω m_En_perform (d + 1) mc ms 0 0 141 [(1, .int (zI x1))] [.int (zI y0), .ref 48] σ Q := by
  refine j_callV m_En_fork [.int (zI y0)] [] d 0 0 cV_En_188 d_En_perform_141 rfl rfl (tg_48 hE) (q_okE hE (by decide)) (Nat.le_of_ble_eq_true rfl) (Nat.le_refl _) (Nat.le_of_ble_eq_true rfl) (Nat.zero_le _) (Nat.zero_le _) h (fun v τ h => ?_) (fun x τ h => ?_)
  · obtain ⟨e1, h⟩ := h; cases e1; exact j_sel [0] rfl h
  · obtain ⟨e1, h⟩ := h; cases e1
set_option maxHeartbeats 2000000 in
theorem b_En_perform_151 {ω : q_W} {σ : q_H} {Q : q_R → q_H → Prop} {d mc ms : Nat} {x1 : Int} {p : Nat} (hp : p = 16 ∨ p = 29) (r481 : q_r σ 48 1 = p) (hE : q_E σ) (h : (Q (.inl (some (.int (zI (x1 + 1))))) σ)) : J ω m_En_perform (d + 1) mc ms 0 0 151 [(1, .int (zI x1))] [] σ Q := by
  refine j_goto 226 d_En_perform_151 (by decide) ?_
  refine j_iload_n d_En_perform_226 0 rfl ?_
  refine j_iconst (v := zI 1) d_En_perform_227 (by decide) ?_
  refine zj_iadd (x1 + 1) (by omega) d_En_perform_228 ?_
  exact zj_iret d_En_perform_229 rfl (Nat.zero_le _) (Nat.zero_le _) h
set_option maxHeartbeats 2000000 in
theorem b_En_perform_158 {ω : q_W} {σ : q_H} {Q : q_R → q_H → Prop} {d mc ms : Nat} {x1 : Int} {p : Nat} (hp : p = 16 ∨ p = 29) (r481 : q_r σ 48 1 = p) (hE : q_E σ) (h : (Q (.inl (some (.int (zI (x1 + 1))))) σ)) : J ω m_En_perform (d + 1) mc ms 0 0 158 [(1, .int (zI x1))] [] σ Q := by
  refine j_goto 226 d_En_perform_158 (by decide) ?_
  refine j_iload_n d_En_perform_226 0 rfl ?_
  refine j_iconst (v := zI 1) d_En_perform_227 (by decide) ?_
  refine zj_iadd (x1 + 1) (by omega) d_En_perform_228 ?_
  exact zj_iret d_En_perform_229 rfl (Nat.zero_le _) (Nat.zero_le _) h
set_option maxHeartbeats 2000000 in
theorem b_En_perform_208 {ω : q_W} {σ : q_H} {Q : q_R → q_H → Prop} {d mc ms : Nat} {y0 : Int} {y1 : Int} {y2 : Int} {p : Nat} (hp : p = 16 ∨ p = 29) (r481 : q_r σ 48 1 = p) (hE : q_E σ) (h : (J ω m_En_turn d 0 0 0 0 0 [(0, .ref 48), (1, .int (zI y2)), (2, .int (zI y1)), (3, .int (zI y0))] [] σ (q_ki (fun v τ => J ω m_En_perform (d + 1) mc ms 0 0 211 [] [.int (zI v)] τ Q)))) : J ω m_En_perform (d + 1) mc ms 0 0 208 [] [.int (zI y0), .int (zI y1), .int (zI y2), .ref 48] σ Q := by
  refine j_callV m_En_turn [.int (zI y2), .int (zI y1), .int (zI y0)] [] d 0 0 cV_En_208 d_En_perform_208 rfl rfl (tg_48 hE) (q_okE hE (by decide)) (Nat.le_of_ble_eq_true rfl) (Nat.le_refl _) (Nat.le_of_ble_eq_true rfl) (Nat.zero_le _) (Nat.zero_le _) h (fun v τ h => ?_) (fun x τ h => ?_)
  · obtain ⟨v, hv, e1, h⟩ := h; cases e1; exact j_sel [] rfl h
  · obtain ⟨v, hv, e1, h⟩ := h; cases e1
set_option maxHeartbeats 2000000 in
theorem b_En_perform_216 {ω : q_W} {σ : q_H} {Q : q_R → q_H → Prop} {d mc ms : Nat} {x1 : Int} {p : Nat} (hp : p = 16 ∨ p = 29) (r481 : q_r σ 48 1 = p) (hE : q_E σ) (h : (0 ≤ x1 ∧ x1 < 2048) ∧ (Q (.inl (some (.int (zI (z σ (p + 9) x1.toNat))))) σ)) : J ω m_En_perform (d + 1) mc ms 0 0 216 [(0, .ref 48), (1, .int (zI x1))] [] σ Q := by
  refine j_aload_n d_En_perform_216 0 rfl ?_
  refine j_getR p f_En_50 d_En_perform_217 (tg_48 hE) (q_okE hE (by decide)) (r481) (by omega) ?_
  refine j_getR (p + 9) f_En_197 d_En_perform_220 (tY_p_0 hE hp) (q_okE hE (by omega)) (rY_p_16 hE hp) (by omega) ?_
  refine j_iload_n d_En_perform_223 1 rfl ?_
  obtain ⟨c8, h⟩ := h
  refine zj_iald (z σ (p + 9) x1.toNat) d_En_perform_224 (tY_p_9 hE hp) (q_okE hE (by omega)) c8 (by decide) (q_z _ _ _) ?_
  exact zj_iret d_En_perform_225 rfl (Nat.zero_le _) (Nat.zero_le _) h
set_option maxHeartbeats 2000000 in
theorem b_En_perform_100 {ω : q_W} {σ : q_H} {Q : q_R → q_H → Prop} {d mc ms : Nat} {x1 : Int} {p : Nat} (hp : p = 16 ∨ p = 29) (r481 : q_r σ 48 1 = p) (hE : q_E σ) (h : (Q (.inl (some (.int (zI (x1 + 1))))) σ)) : J ω m_En_perform (d + 1) mc ms 0 0 100 [(1, .int (zI x1))] [] σ Q := by
  refine j_goto 226 d_En_perform_100 (by decide) ?_
  refine j_iload_n d_En_perform_226 0 rfl ?_
  refine j_iconst (v := zI 1) d_En_perform_227 (by decide) ?_
  refine zj_iadd (x1 + 1) (by omega) d_En_perform_228 ?_
  exact zj_iret d_En_perform_229 rfl (Nat.zero_le _) (Nat.zero_le _) h
set_option maxHeartbeats 2000000 in
theorem b_En_perform_126 {ω : q_W} {σ : q_H} {Q : q_R → q_H → Prop} {d mc ms : Nat} {x1 : Int} {y0 : Int} {p : Nat} (hp : p = 16 ∨ p = 29) (r481 : q_r σ 48 1 = p) (hE : q_E σ) (h : (Q (.inl (some (.int (zI (x1 + 1))))) (zs σ 48 4 y0))) : J ω m_En_perform (d + 1) mc ms 0 0 126 [(1, .int (zI x1))] [.int (zI y0), .ref 48] σ Q := by
  refine zj_putI (g_En_68 _) d_En_perform_126 (tg_48 hE) (q_okE hE (by decide)) ?_
  refine j_goto 226 d_En_perform_129 (by decide) ?_
  refine j_iload_n d_En_perform_226 0 rfl ?_
  refine j_iconst (v := zI 1) d_En_perform_227 (by decide) ?_
  refine zj_iadd (x1 + 1) (by omega) d_En_perform_228 ?_
  exact zj_iret d_En_perform_229 rfl (Nat.zero_le _) (Nat.zero_le _) h
set_option maxHeartbeats 2000000 in
theorem b_En_perform_144 {ω : q_W} {σ : q_H} {Q : q_R → q_H → Prop} {d mc ms : Nat} {x1 : Int} {p : Nat} (hp : p = 16 ∨ p = 29) (r481 : q_r σ 48 1 = p) (hE : q_E σ) (h : (Q (.inl (some (.int (zI (x1 + 1))))) σ)) : J ω m_En_perform (d + 1) mc ms 0 0 144 [(1, .int (zI x1))] [] σ Q := by
  refine j_goto 226 d_En_perform_144 (by decide) ?_
  refine j_iload_n d_En_perform_226 0 rfl ?_
  refine j_iconst (v := zI 1) d_En_perform_227 (by decide) ?_
  refine zj_iadd (x1 + 1) (by omega) d_En_perform_228 ?_
  exact zj_iret d_En_perform_229 rfl (Nat.zero_le _) (Nat.zero_le _) h
set_option maxHeartbeats 2000000 in
theorem b_En_perform_211 {ω : q_W} {σ : q_H} {Q : q_R → q_H → Prop} {d mc ms : Nat} {y0 : Int} {p : Nat} (hp : p = 16 ∨ p = 29) (r481 : q_r σ 48 1 = p) (hE : q_E σ) (h : (Q (.inl (some (.int (zI y0)))) σ)) : J ω m_En_perform (d + 1) mc ms 0 0 211 [] [.int (zI y0)] σ Q := by
  exact zj_iret d_En_perform_211 rfl (Nat.zero_le _) (Nat.zero_le _) h
set_option maxHeartbeats 2000000 in
theorem b_En_claim_0 {ω : q_W} {σ : q_H} {Q : q_R → q_H → Prop} {d mc ms : Nat} {x1 : Int} {x2 : Int} {p : Nat} (hp : p = 16 ∨ p = 29) (r481 : q_r σ 48 1 = p) (hE : q_E σ) (h : (J ω m_Ci_and d 0 0 0 0 0 [(0, .ref 50), (1, .int (zI (z σ 48 4))), (2, .int (zI (zXor x2 1)))] [] σ (q_ki (fun v τ => J ω m_En_claim (d + 1) mc ms 0 0 17 [(0, .ref 48), (1, .int (zI x1)), (2, .int (zI x2))] [.int (zI v)] τ Q)))) : J ω m_En_claim (d + 1) mc ms 0 0 0 [(0, .ref 48), (1, .int (zI x1)), (2, .int (zI x2))] [] σ Q := by
  refine j_aload_n d_En_claim_0 0 rfl ?_
  refine j_getR 49 f_En_12 d_En_claim_1 (tg_48 hE) (q_okE hE (by decide)) (rf_48_0 hE) (by decide) ?_
  refine j_getR 50 f_En_46 d_En_claim_4 (tg_49 hE) (q_okE hE (by decide)) (rf_49_0 hE) (by decide) ?_
  refine j_aload_n d_En_claim_7 0 rfl ?_
  refine zj_getI (z σ 48 4) f_En_68 d_En_claim_8 (tg_48 hE) (q_okE hE (by decide)) (q_z _ _ _) ?_
  refine j_iload_n d_En_claim_11 2 rfl ?_
  refine j_iconst (v := zI 1) d_En_claim_12 (by decide) ?_
  refine zj_ixor d_En_claim_13 ?_
  refine j_callV m_Ci_and [.int (zI (z σ 48 4)), .int (zI (zXor x2 1))] [] d 0 0 cV_En_185 d_En_claim_14 rfl rfl (tg_50 hE) (q_okE hE (by decide)) (Nat.le_of_ble_eq_true rfl) (Nat.le_refl _) (Nat.le_of_ble_eq_true rfl) (Nat.zero_le _) (Nat.zero_le _) h (fun v τ h => ?_) (fun x τ h => ?_)
  · obtain ⟨v, hv, e1, h⟩ := h; cases e1; exact j_sel [0, 1, 2] rfl h
  · obtain ⟨v, hv, e1, h⟩ := h; cases e1
set_option maxHeartbeats 2000000 in
theorem b_En_claim_17 {ω : q_W} {σ : q_H} {Q : q_R → q_H → Prop} {d mc ms : Nat} {x1 : Int} {x2 : Int} {y0 : Int} {p : Nat} (hp : p = 16 ∨ p = 29) (r481 : q_r σ 48 1 = p) (hE : q_E σ) (h : (0 ≤ x1 ∧ x1 < 512) ∧ (J ω m_Ci_or d 0 0 0 0 0 [(0, .ref 50), (1, .int (zI (z σ 63 x1.toNat))), (2, .int (zI y0))] [] σ (q_ki (fun v τ => J ω m_En_claim (d + 1) mc ms 0 0 40 [(0, .ref 48), (2, .int (zI x2))] [.int (zI v), .int (zI x1), .ref 63] τ Q)))) : J ω m_En_claim (d + 1) mc ms 0 0 17 [(0, .ref 48), (1, .int (zI x1)), (2, .int (zI x2))] [.int (zI y0)] σ Q := by
  refine j_istore_n (L' := [(3, .int (zI y0)), (0, .ref 48), (1, .int (zI x1)), (2, .int (zI x2))]) d_En_claim_17 (by decide) rfl ?_
  refine j_aload_n d_En_claim_18 1 rfl ?_
  refine j_getR 63 f_En_25 d_En_claim_19 (tg_48 hE) (q_okE hE (by decide)) (rf_48_5 hE) (by decide) ?_
  refine j_iload_n d_En_claim_22 2 rfl ?_
  refine j_aload_n d_En_claim_23 1 rfl ?_
  refine j_getR 49 f_En_12 d_En_claim_24 (tg_48 hE) (q_okE hE (by decide)) (rf_48_0 hE) (by decide) ?_
  refine j_getR 50 f_En_46 d_En_claim_27 (tg_49 hE) (q_okE hE (by decide)) (rf_49_0 hE) (by decide) ?_
  refine j_aload_n d_En_claim_30 1 rfl ?_
  refine j_getR 63 f_En_25 d_En_claim_31 (tg_48 hE) (q_okE hE (by decide)) (rf_48_5 hE) (by decide) ?_
  refine j_iload_n d_En_claim_34 2 rfl ?_
  obtain ⟨c1, h⟩ := h
  refine zj_iald (z σ 63 x1.toNat) d_En_claim_35 (tg_63 hE) (q_okE hE (by decide)) c1 (by decide) (q_z _ _ _) ?_
  refine j_iload_n d_En_claim_36 0 rfl ?_
  refine j_callV m_Ci_or [.int (zI (z σ 63 x1.toNat)), .int (zI y0)] [.int (zI x1), .ref 63] d 0 0 cV_En_107 d_En_claim_37 rfl rfl (tg_50 hE) (q_okE hE (by decide)) (Nat.le_of_ble_eq_true rfl) (Nat.le_refl _) (Nat.le_of_ble_eq_true rfl) (Nat.zero_le _) (Nat.zero_le _) h (fun v τ h => ?_) (fun x τ h => ?_)
  · obtain ⟨v, hv, e1, h⟩ := h; cases e1; exact j_sel [1, 3] rfl h
  · obtain ⟨v, hv, e1, h⟩ := h; cases e1
set_option maxHeartbeats 2000000 in
theorem b_En_claim_40 {ω : q_W} {σ : q_H} {Q : q_R → q_H → Prop} {d mc ms : Nat} {x2 : Int} {y0 : Int} {y1 : Int} {p : Nat} (hp : p = 16 ∨ p = 29) (r481 : q_r σ 48 1 = p) (hE : q_E σ) (h : (0 ≤ y1 ∧ y1 < 512) ∧ (J ω m_Ci_and d 0 0 0 0 0 [(0, .ref 50), (1, .int (zI (z σ 48 4))), (2, .int (zI x2))] [] (zs σ 63 y1.toNat y0) (q_ki (fun v τ => J ω m_En_claim (d + 1) mc ms 0 0 57 [] [.int (zI v), .ref 48] τ Q)))) : J ω m_En_claim (d + 1) mc ms 0 0 40 [(0, .ref 48), (2, .int (zI x2))] [.int (zI y0), .int (zI y1), .ref 63] σ Q := by
  obtain ⟨c2, h⟩ := h
  refine zj_iast d_En_claim_40 (tg_63 hE) (q_okE hE (by decide)) c2 (by decide) ?_
  refine j_aload_n d_En_claim_41 0 rfl ?_
  refine j_aload_n d_En_claim_42 0 rfl ?_
  refine j_getR 49 f_En_12 d_En_claim_43 (tg_48 (zs_E hE)) (q_okE (zs_E hE) (by decide)) (rf_48_0 (zs_E hE)) (by decide) ?_
  refine j_getR 50 f_En_46 d_En_claim_46 (tg_49 (zs_E hE)) (q_okE (zs_E hE) (by decide)) (rf_49_0 (zs_E hE)) (by decide) ?_
  refine j_aload_n d_En_claim_49 0 rfl ?_
  refine zj_getI (z σ 48 4) f_En_68 d_En_claim_50 (tg_48 (zs_E hE)) (q_okE (zs_E hE) (by decide)) (Eq.trans (qs_o (by decide)) (q_z _ _ _)) ?_
  refine j_iload_n d_En_claim_53 1 rfl ?_
  refine j_callV m_Ci_and [.int (zI (z σ 48 4)), .int (zI x2)] [.ref 48] d 0 0 cV_En_185 d_En_claim_54 rfl rfl (tg_50 (zs_E hE)) (q_okE (zs_E hE) (by decide)) (Nat.le_of_ble_eq_true rfl) (Nat.le_refl _) (Nat.le_of_ble_eq_true rfl) (Nat.zero_le _) (Nat.zero_le _) h (fun v τ h => ?_) (fun x τ h => ?_)
  · obtain ⟨v, hv, e1, h⟩ := h; cases e1; exact j_sel [] rfl h
  · obtain ⟨v, hv, e1, h⟩ := h; cases e1
set_option maxHeartbeats 2000000 in
theorem b_En_claim_57 {ω : q_W} {σ : q_H} {Q : q_R → q_H → Prop} {d mc ms : Nat} {y0 : Int} {p : Nat} (hp : p = 16 ∨ p = 29) (r481 : q_r σ 48 1 = p) (hE : q_E σ) (h : (Q (.inl none) (zs σ 48 4 y0))) : J ω m_En_claim (d + 1) mc ms 0 0 57 [] [.int (zI y0), .ref 48] σ Q := by
  refine zj_putI (g_En_68 _) d_En_claim_57 (tg_48 hE) (q_okE hE (by decide)) ?_
  exact j_vret d_En_claim_60 rfl (Nat.zero_le _) (Nat.zero_le _) h
set_option maxHeartbeats 2000000 in
theorem b_En_fork_0 {ω : q_W} {σ : q_H} {Q : q_R → q_H → Prop} {d mc ms : Nat} {x1 : Int} {p : Nat} (hp : p = 16 ∨ p = 29) (r481 : q_r σ 48 1 = p) (hE : q_E σ) (h : ((0 : Int) ≤ 0 ∧ (0 : Int) ≤ ((z σ 48 12) * 96) ∧ (0 : Int) ≤ 96 ∧ (0 : Int) + 96 ≤ ((96 : Nat) : Int) ∧ (((z σ 48 12) * 96) : Int) + 96 ≤ ((3072 : Nat) : Int)) ∧ (J ω m_Ci_and d 0 0 0 0 0 [(0, .ref 50), (1, .int (zI (z σ 48 4))), (2, .int (zI (zXor x1 1)))] [] (zcp σ 62 0 64 ((z σ 48 12) * 96).toNat 96) (q_ki (fun v τ => J ω m_En_fork (d + 1) mc ms 0 0 46 [(0, .ref 48), (1, .int (zI x1))] [.int (zI v), .int (zI (z σ 48 12)), .ref 65] τ Q)))) : J ω m_En_fork (d + 1) mc ms 0 0 0 [(0, .ref 48), (1, .int (zI x1))] [] σ Q := by
  refine j_aload_n d_En_fork_0 0 rfl ?_
  refine j_getR 62 f_En_22 d_En_fork_1 (tg_48 hE) (q_okE hE (by decide)) (rf_48_3 hE) (by decide) ?_
  refine j_iconst (v := zI 0) d_En_fork_4 (by decide) ?_
  refine j_aload_n d_En_fork_5 0 rfl ?_
  refine j_getR 64 f_En_28 d_En_fork_6 (tg_48 hE) (q_okE hE (by decide)) (rf_48_8 hE) (by decide) ?_
  refine j_aload_n d_En_fork_9 0 rfl ?_
  refine zj_getI (z σ 48 12) f_En_72 d_En_fork_10 (tg_48 hE) (q_okE hE (by decide)) (q_z _ _ _) ?_
  refine j_bipush (v := zI 96) d_En_fork_13 (by decide) ?_
  refine zj_imul ((z σ 48 12) * 96) rfl d_En_fork_15 ?_
  refine j_bipush (v := zI 96) d_En_fork_16 (by decide) ?_
  obtain ⟨c1, h⟩ := h
  refine zj_copy (List.mem_of_getElem? (i := 1130) (by decide +kernel)) d_En_fork_18 (tg_62 hE) (q_okE hE (by decide)) (tg_64 hE) (q_okE hE (by decide)) c1 (by decide) (by decide) (Nat.succ_le_succ (Nat.zero_le _)) (Nat.le_of_ble_eq_true rfl) ?_
  refine j_aload_n d_En_fork_21 0 rfl ?_
  refine j_getR 65 f_En_31 d_En_fork_22 (tg_48 (zcp_E hE)) (q_okE (zcp_E hE) (by decide)) (rf_48_9 (zcp_E hE)) (by decide) ?_
  refine j_aload_n d_En_fork_25 0 rfl ?_
  refine zj_getI (z σ 48 12) f_En_72 d_En_fork_26 (tg_48 (zcp_E hE)) (q_okE (zcp_E hE) (by decide)) (Eq.trans (zcp_o (by decide)) (q_z _ _ _)) ?_
  refine j_aload_n d_En_fork_29 0 rfl ?_
  refine j_getR 49 f_En_12 d_En_fork_30 (tg_48 (zcp_E hE)) (q_okE (zcp_E hE) (by decide)) (rf_48_0 (zcp_E hE)) (by decide) ?_
  refine j_getR 50 f_En_46 d_En_fork_33 (tg_49 (zcp_E hE)) (q_okE (zcp_E hE) (by decide)) (rf_49_0 (zcp_E hE)) (by decide) ?_
  refine j_aload_n d_En_fork_36 0 rfl ?_
  refine zj_getI (z σ 48 4) f_En_68 d_En_fork_37 (tg_48 (zcp_E hE)) (q_okE (zcp_E hE) (by decide)) (Eq.trans (zcp_o (by decide)) (q_z _ _ _)) ?_
  refine j_iload_n d_En_fork_40 1 rfl ?_
  refine j_iconst (v := zI 1) d_En_fork_41 (by decide) ?_
  refine zj_ixor d_En_fork_42 ?_
  refine j_callV m_Ci_and [.int (zI (z σ 48 4)), .int (zI (zXor x1 1))] [.int (zI (z σ 48 12)), .ref 65] d 0 0 cV_En_185 d_En_fork_43 rfl rfl (tg_50 (zcp_E hE)) (q_okE (zcp_E hE) (by decide)) (Nat.le_of_ble_eq_true rfl) (Nat.le_refl _) (Nat.le_of_ble_eq_true rfl) (Nat.zero_le _) (Nat.zero_le _) h (fun v τ h => ?_) (fun x τ h => ?_)
  · obtain ⟨v, hv, e1, h⟩ := h; cases e1; exact j_sel [0, 1] rfl h
  · obtain ⟨v, hv, e1, h⟩ := h; cases e1
set_option maxHeartbeats 2000000 in
theorem b_En_fork_46 {ω : q_W} {σ : q_H} {Q : q_R → q_H → Prop} {d mc ms : Nat} {x1 : Int} {y0 : Int} {y1 : Int} {p : Nat} (hp : p = 16 ∨ p = 29) (r481 : q_r σ 48 1 = p) (hE : q_E σ) (h : (0 ≤ y1 ∧ y1 < 32) ∧ (0 ≤ (z σ 48 12) ∧ (z σ 48 12) < 32) ∧ (J ω m_Ci_and d 0 0 0 0 0 [(0, .ref 50), (1, .int (zI (z σ 48 4))), (2, .int (zI x1))] [] (zs (zs (zs σ 65 y1.toNat y0) 66 (z σ 48 12).toNat (z σ 48 4)) 67 (z σ 48 12).toNat x1) (q_ki (fun v τ => J ω m_En_fork (d + 1) mc ms 0 0 86 [(0, .ref 48)] [.int (zI v), .ref 48] τ Q)))) : J ω m_En_fork (d + 1) mc ms 0 0 46 [(0, .ref 48), (1, .int (zI x1))] [.int (zI y0), .int (zI y1), .ref 65] σ Q := by
  obtain ⟨c2, h⟩ := h
  refine zj_iast d_En_fork_46 (tg_65 hE) (q_okE hE (by decide)) c2 (by decide) ?_
  refine j_aload_n d_En_fork_47 0 rfl ?_
  refine j_getR 66 f_En_34 d_En_fork_48 (tg_48 (zs_E hE)) (q_okE (zs_E hE) (by decide)) (rf_48_10 (zs_E hE)) (by decide) ?_
  refine j_aload_n d_En_fork_51 0 rfl ?_
  refine zj_getI (z σ 48 12) f_En_72 d_En_fork_52 (tg_48 (zs_E hE)) (q_okE (zs_E hE) (by decide)) (Eq.trans (qs_o (by decide)) (q_z _ _ _)) ?_
  refine j_aload_n d_En_fork_55 0 rfl ?_
  refine zj_getI (z σ 48 4) f_En_68 d_En_fork_56 (tg_48 (zs_E hE)) (q_okE (zs_E hE) (by decide)) (Eq.trans (qs_o (by decide)) (q_z _ _ _)) ?_
  obtain ⟨c3, h⟩ := h
  refine zj_iast d_En_fork_59 (tg_66 (zs_E hE)) (q_okE (zs_E hE) (by decide)) c3 (by decide) ?_
  refine j_aload_n d_En_fork_60 0 rfl ?_
  refine j_getR 67 f_En_37 d_En_fork_61 (tg_48 (zs_E (zs_E hE))) (q_okE (zs_E (zs_E hE)) (by decide)) (rf_48_11 (zs_E (zs_E hE))) (by decide) ?_
  refine j_aload_n d_En_fork_64 0 rfl ?_
  refine zj_getI (z σ 48 12) f_En_72 d_En_fork_65 (tg_48 (zs_E (zs_E hE))) (q_okE (zs_E (zs_E hE)) (by decide)) (Eq.trans (qs_o (by decide)) (Eq.trans (qs_o (by decide)) (q_z _ _ _))) ?_
  refine j_iload_n d_En_fork_68 1 rfl ?_
  refine zj_iast d_En_fork_69 (tg_67 (zs_E (zs_E hE))) (q_okE (zs_E (zs_E hE)) (by decide)) c3 (by decide) ?_
  refine j_aload_n d_En_fork_70 0 rfl ?_
  refine j_aload_n d_En_fork_71 0 rfl ?_
  refine j_getR 49 f_En_12 d_En_fork_72 (tg_48 (zs_E (zs_E (zs_E hE)))) (q_okE (zs_E (zs_E (zs_E hE))) (by decide)) (rf_48_0 (zs_E (zs_E (zs_E hE)))) (by decide) ?_
  refine j_getR 50 f_En_46 d_En_fork_75 (tg_49 (zs_E (zs_E (zs_E hE)))) (q_okE (zs_E (zs_E (zs_E hE))) (by decide)) (rf_49_0 (zs_E (zs_E (zs_E hE)))) (by decide) ?_
  refine j_aload_n d_En_fork_78 0 rfl ?_
  refine zj_getI (z σ 48 4) f_En_68 d_En_fork_79 (tg_48 (zs_E (zs_E (zs_E hE)))) (q_okE (zs_E (zs_E (zs_E hE))) (by decide)) (Eq.trans (qs_o (by decide)) (Eq.trans (qs_o (by decide)) (Eq.trans (qs_o (by decide)) (q_z _ _ _)))) ?_
  refine j_iload_n d_En_fork_82 1 rfl ?_
  refine j_callV m_Ci_and [.int (zI (z σ 48 4)), .int (zI x1)] [.ref 48] d 0 0 cV_En_185 d_En_fork_83 rfl rfl (tg_50 (zs_E (zs_E (zs_E hE)))) (q_okE (zs_E (zs_E (zs_E hE))) (by decide)) (Nat.le_of_ble_eq_true rfl) (Nat.le_refl _) (Nat.le_of_ble_eq_true rfl) (Nat.zero_le _) (Nat.zero_le _) h (fun v τ h => ?_) (fun x τ h => ?_)
  · obtain ⟨v, hv, e1, h⟩ := h; cases e1; exact j_sel [0] rfl h
  · obtain ⟨v, hv, e1, h⟩ := h; cases e1
set_option maxHeartbeats 2000000 in
theorem b_En_fork_86 {ω : q_W} {σ : q_H} {Q : q_R → q_H → Prop} {d mc ms : Nat} {y0 : Int} {p : Nat} (hp : p = 16 ∨ p = 29) (r481 : q_r σ 48 1 = p) (hE : q_E σ) (h : (Q (.inl none) (zs (zs (zs σ 48 4 y0) 48 12 ((z σ 48 12) + 1)) 48 15 0))) : J ω m_En_fork (d + 1) mc ms 0 0 86 [(0, .ref 48)] [.int (zI y0), .ref 48] σ Q := by
  refine zj_putI (g_En_68 _) d_En_fork_86 (tg_48 hE) (q_okE hE (by decide)) ?_
  refine j_aload_n d_En_fork_89 0 rfl ?_
  refine j_dup d_En_fork_90 rfl ?_
  refine zj_getI (z σ 48 12) f_En_72 d_En_fork_91 (tg_48 (zs_E hE)) (q_okE (zs_E hE) (by decide)) (Eq.trans (qs_k (by decide)) (q_z _ _ _)) ?_
  refine j_iconst (v := zI 1) d_En_fork_94 (by decide) ?_
  refine zj_iadd ((z σ 48 12) + 1) (by omega) d_En_fork_95 ?_
  refine zj_putI (g_En_72 _) d_En_fork_96 (tg_48 (zs_E hE)) (q_okE (zs_E hE) (by decide)) ?_
  refine j_aload_n d_En_fork_99 0 rfl ?_
  refine j_iconst (v := zI 0) d_En_fork_100 (by decide) ?_
  refine zj_putI (g_En_75 _) d_En_fork_101 (tg_48 (zs_E (zs_E hE))) (q_okE (zs_E (zs_E hE)) (by decide)) ?_
  exact j_vret d_En_fork_104 rfl (Nat.zero_le _) (Nat.zero_le _) h
set_option maxHeartbeats 2000000 in
theorem b_En_swap_0 {ω : q_W} {σ : q_H} {Q : q_R → q_H → Prop} {d mc ms : Nat}  {p : Nat} (hp : p = 16 ∨ p = 29) (r481 : q_r σ 48 1 = p) (hE : q_E σ) (h : (J ω m_En_swap d mc ms 0 0 9 [(0, .ref 48), (1, .int (zI ((z σ 48 12) - 1))), (2, .int (zI 0))] [] σ Q)) : J ω m_En_swap d mc ms 0 0 0 [(0, .ref 48)] [] σ Q := by
  refine j_aload_n d_En_swap_0 0 rfl ?_
  refine zj_getI (z σ 48 12) f_En_72 d_En_swap_1 (tg_48 hE) (q_okE hE (by decide)) (q_z _ _ _) ?_
  refine j_iconst (v := zI 1) d_En_swap_4 (by decide) ?_
  refine zj_isub ((z σ 48 12) - 1) (by omega) d_En_swap_5 ?_
  refine j_istore_n (L' := [(1, .int (zI ((z σ 48 12) - 1))), (0, .ref 48)]) d_En_swap_6 (by decide) rfl ?_
  refine j_iconst (v := zI 0) d_En_swap_7 (by decide) ?_
  refine j_istore_n (L' := [(2, .int (zI 0)), (1, .int (zI ((z σ 48 12) - 1))), (0, .ref 48)]) d_En_swap_8 (by decide) rfl ?_
  exact j_sel [2, 1, 0] rfl h
set_option maxHeartbeats 2000000 in
theorem b_En_swap_9 {ω : q_W} {σ : q_H} {Q : q_R → q_H → Prop} {d mc ms : Nat} {x1 : Int} {x2 : Int} {p : Nat} (hp : p = 16 ∨ p = 29) (r481 : q_r σ 48 1 = p) (hE : q_E σ) (h : inR x2 ∧ q_imp (x2 ≥ 96) ((0 ≤ x1 ∧ x1 < 32) ∧ (Q (.inl none) (zs (zs (zs (zs σ 65 x1.toNat (z σ 48 4)) 48 4 (z σ 65 x1.toNat)) 67 x1.toNat (zXor (z σ 67 x1.toNat) 1)) 48 15 0))) ∧ q_imp (x2 < 96) ((0 ≤ ((x1 * 96) + x2) ∧ ((x1 * 96) + x2) < 3072) ∧ (0 ≤ x2 ∧ x2 < 96) ∧ (J ω m_En_swap d mc ms 0 0 9 [(0, .ref 48), (1, .int (zI x1)), (2, .int (zI (x2 + 1)))] [] (zs (zs σ 64 ((x1 * 96) + x2).toNat (z σ 62 x2.toNat)) 62 x2.toNat (z σ 64 ((x1 * 96) + x2).toNat)) Q))) : J ω m_En_swap d mc ms 0 0 9 [(0, .ref 48), (1, .int (zI x1)), (2, .int (zI x2))] [] σ Q := by
  refine j_iload_n d_En_swap_9 2 rfl ?_
  refine j_bipush (v := zI 96) d_En_swap_10 (by decide) ?_
  obtain ⟨r1, h⟩ := h
  obtain ⟨h1, h2⟩ := h
  refine zj_icmp_ge 57 d_En_swap_12 (by decide) r1 ⟨by decide, by decide⟩ (fun k2 => ?_) (fun k2 => ?_)
  · have h := h1 k2
    refine j_aload_n d_En_swap_57 0 rfl ?_
    refine j_getR 65 f_En_31 d_En_swap_58 (tg_48 hE) (q_okE hE (by decide)) (rf_48_9 hE) (by decide) ?_
    refine j_iload_n d_En_swap_61 1 rfl ?_
    obtain ⟨c3, h⟩ := h
    refine zj_iald (z σ 65 x1.toNat) d_En_swap_62 (tg_65 hE) (q_okE hE (by decide)) c3 (by decide) (q_z _ _ _) ?_
    refine j_istore_n (L' := [(2, .int (zI (z σ 65 x1.toNat))), (0, .ref 48), (1, .int (zI x1))]) d_En_swap_63 (by decide) rfl ?_
    refine j_aload_n d_En_swap_64 1 rfl ?_
    refine j_getR 65 f_En_31 d_En_swap_65 (tg_48 hE) (q_okE hE (by decide)) (rf_48_9 hE) (by decide) ?_
    refine j_iload_n d_En_swap_68 2 rfl ?_
    refine j_aload_n d_En_swap_69 1 rfl ?_
    refine zj_getI (z σ 48 4) f_En_68 d_En_swap_70 (tg_48 hE) (q_okE hE (by decide)) (q_z _ _ _) ?_
    refine zj_iast d_En_swap_73 (tg_65 hE) (q_okE hE (by decide)) c3 (by decide) ?_
    refine j_aload_n d_En_swap_74 1 rfl ?_
    refine j_iload_n d_En_swap_75 0 rfl ?_
    refine zj_putI (g_En_68 _) d_En_swap_76 (tg_48 (zs_E hE)) (q_okE (zs_E hE) (by decide)) ?_
    refine j_aload_n d_En_swap_79 1 rfl ?_
    refine j_getR 67 f_En_37 d_En_swap_80 (tg_48 (zs_E (zs_E hE))) (q_okE (zs_E (zs_E hE)) (by decide)) (rf_48_11 (zs_E (zs_E hE))) (by decide) ?_
    refine j_iload_n d_En_swap_83 2 rfl ?_
    refine j_dup2 d_En_swap_84 rfl rfl ?_
    refine zj_iald (z σ 67 x1.toNat) d_En_swap_85 (tg_67 (zs_E (zs_E hE))) (q_okE (zs_E (zs_E hE)) (by decide)) c3 (by decide) (Eq.trans (qs_o (by decide)) (Eq.trans (qs_o (by decide)) (q_z _ _ _))) ?_
    refine j_iconst (v := zI 1) d_En_swap_86 (by decide) ?_
    refine zj_ixor d_En_swap_87 ?_
    refine zj_iast d_En_swap_88 (tg_67 (zs_E (zs_E hE))) (q_okE (zs_E (zs_E hE)) (by decide)) c3 (by decide) ?_
    refine j_aload_n d_En_swap_89 1 rfl ?_
    refine j_iconst (v := zI 0) d_En_swap_90 (by decide) ?_
    refine zj_putI (g_En_75 _) d_En_swap_91 (tg_48 (zs_E (zs_E (zs_E hE)))) (q_okE (zs_E (zs_E (zs_E hE))) (by decide)) ?_
    exact j_vret d_En_swap_94 rfl (Nat.zero_le _) (Nat.zero_le _) h
  · have h := h2 k2
    refine j_aload_n d_En_swap_15 0 rfl ?_
    refine j_getR 64 f_En_28 d_En_swap_16 (tg_48 hE) (q_okE hE (by decide)) (rf_48_8 hE) (by decide) ?_
    refine j_iload_n d_En_swap_19 1 rfl ?_
    refine j_bipush (v := zI 96) d_En_swap_20 (by decide) ?_
    refine zj_imul (x1 * 96) rfl d_En_swap_22 ?_
    refine j_iload_n d_En_swap_23 2 rfl ?_
    refine zj_iadd ((x1 * 96) + x2) rfl d_En_swap_24 ?_
    obtain ⟨c4, h⟩ := h
    refine zj_iald (z σ 64 ((x1 * 96) + x2).toNat) d_En_swap_25 (tg_64 hE) (q_okE hE (by decide)) c4 (by decide) (q_z _ _ _) ?_
    refine j_istore_n (L' := [(3, .int (zI (z σ 64 ((x1 * 96) + x2).toNat))), (0, .ref 48), (1, .int (zI x1)), (2, .int (zI x2))]) d_En_swap_26 (by decide) rfl ?_
    refine j_aload_n d_En_swap_27 1 rfl ?_
    refine j_getR 64 f_En_28 d_En_swap_28 (tg_48 hE) (q_okE hE (by decide)) (rf_48_8 hE) (by decide) ?_
    refine j_iload_n d_En_swap_31 2 rfl ?_
    refine j_bipush (v := zI 96) d_En_swap_32 (by decide) ?_
    refine zj_imul (x1 * 96) rfl d_En_swap_34 ?_
    refine j_iload_n d_En_swap_35 3 rfl ?_
    refine zj_iadd ((x1 * 96) + x2) rfl d_En_swap_36 ?_
    refine j_aload_n d_En_swap_37 1 rfl ?_
    refine j_getR 62 f_En_22 d_En_swap_38 (tg_48 hE) (q_okE hE (by decide)) (rf_48_3 hE) (by decide) ?_
    refine j_iload_n d_En_swap_41 3 rfl ?_
    obtain ⟨c5, h⟩ := h
    refine zj_iald (z σ 62 x2.toNat) d_En_swap_42 (tg_62 hE) (q_okE hE (by decide)) c5 (by decide) (q_z _ _ _) ?_
    refine zj_iast d_En_swap_43 (tg_64 hE) (q_okE hE (by decide)) c4 (by decide) ?_
    refine j_aload_n d_En_swap_44 1 rfl ?_
    refine j_getR 62 f_En_22 d_En_swap_45 (tg_48 (zs_E hE)) (q_okE (zs_E hE) (by decide)) (rf_48_3 (zs_E hE)) (by decide) ?_
    refine j_iload_n d_En_swap_48 3 rfl ?_
    refine j_iload_n d_En_swap_49 0 rfl ?_
    refine zj_iast d_En_swap_50 (tg_62 (zs_E hE)) (q_okE (zs_E hE) (by decide)) c5 (by decide) ?_
    refine zj_iinc (L' := [(2, .int (zI (x2 + 1))), (3, .int (zI (z σ 64 ((x1 * 96) + x2).toNat))), (0, .ref 48), (1, .int (zI x1))]) (x2 + 1) d_En_swap_51 3 rfl (by omega) (by decide) rfl ?_
    refine j_goto 9 d_En_swap_54 (by decide) ?_
    exact j_sel [2, 3, 0] rfl h
set_option maxHeartbeats 2000000 in
theorem b_En_join_0 {ω : q_W} {σ : q_H} {Q : q_R → q_H → Prop} {d mc ms : Nat}  {p : Nat} (hp : p = 16 ∨ p = 29) (r481 : q_r σ 48 1 = p) (hE : q_E σ) (h : (J ω m_En_join (d + 1) mc ms 0 0 12 [(0, .ref 48), (1, .int (zI 0))] [] (zs σ 48 12 ((z σ 48 12) - 1)) Q)) : J ω m_En_join (d + 1) mc ms 0 0 0 [(0, .ref 48)] [] σ Q := by
  refine j_aload_n d_En_join_0 0 rfl ?_
  refine j_dup d_En_join_1 rfl ?_
  refine zj_getI (z σ 48 12) f_En_72 d_En_join_2 (tg_48 hE) (q_okE hE (by decide)) (q_z _ _ _) ?_
  refine j_iconst (v := zI 1) d_En_join_5 (by decide) ?_
  refine zj_isub ((z σ 48 12) - 1) (by omega) d_En_join_6 ?_
  refine zj_putI (g_En_72 _) d_En_join_7 (tg_48 hE) (q_okE hE (by decide)) ?_
  refine j_iconst (v := zI 0) d_En_join_10 (by decide) ?_
  refine j_istore_n (L' := [(1, .int (zI 0)), (0, .ref 48)]) d_En_join_11 (by decide) rfl ?_
  exact j_sel [1, 0] rfl h
set_option maxHeartbeats 2000000 in
theorem b_En_join_12 {ω : q_W} {σ : q_H} {Q : q_R → q_H → Prop} {d mc ms : Nat} {x1 : Int} {p : Nat} (hp : p = 16 ∨ p = 29) (r481 : q_r σ 48 1 = p) (hE : q_E σ) (h : inR x1 ∧ q_imp (x1 ≥ 96) ((0 ≤ (z σ 48 12) ∧ (z σ 48 12) < 32) ∧ (J ω m_En_joined d 0 0 0 0 0 [(0, .ref 48), (1, .int (zI (z σ 66 (z σ 48 12).toNat))), (2, .int (zI (z σ 67 (z σ 48 12).toNat)))] [] σ (q_ki (fun v τ => J ω m_En_join (d + 1) mc ms 0 0 92 [(0, .ref 48)] [.int (zI v), .ref 48] τ Q)))) ∧ q_imp (x1 < 96) ((0 ≤ (z σ 48 12) ∧ (z σ 48 12) < 32) ∧ (0 ≤ x1 ∧ x1 < 96) ∧ (0 ≤ (((z σ 48 12) * 96) + x1) ∧ (((z σ 48 12) * 96) + x1) < 3072) ∧ (J ω m_Ci_pick d 0 0 0 0 0 [(0, .ref 50), (1, .int (zI (z σ 67 (z σ 48 12).toNat))), (2, .int (zI (z σ 62 x1.toNat))), (3, .int (zI (z σ 64 (((z σ 48 12) * 96) + x1).toNat)))] [] σ (q_ki (fun v τ => J ω m_En_join (d + 1) mc ms 0 0 62 [(0, .ref 48), (1, .int (zI x1))] [.int (zI v), .int (zI x1), .ref 62] τ Q))))) : J ω m_En_join (d + 1) mc ms 0 0 12 [(0, .ref 48), (1, .int (zI x1))] [] σ Q := by
  refine j_iload_n d_En_join_12 1 rfl ?_
  refine j_bipush (v := zI 96) d_En_join_13 (by decide) ?_
  obtain ⟨r1, h⟩ := h
  obtain ⟨h1, h2⟩ := h
  refine zj_icmp_ge 69 d_En_join_15 (by decide) r1 ⟨by decide, by decide⟩ (fun k2 => ?_) (fun k2 => ?_)
  · have h := h1 k2
    refine j_aload_n d_En_join_69 0 rfl ?_
    refine j_aload_n d_En_join_70 0 rfl ?_
    refine j_aload_n d_En_join_71 0 rfl ?_
    refine j_getR 66 f_En_34 d_En_join_72 (tg_48 hE) (q_okE hE (by decide)) (rf_48_10 hE) (by decide) ?_
    refine j_aload_n d_En_join_75 0 rfl ?_
    refine zj_getI (z σ 48 12) f_En_72 d_En_join_76 (tg_48 hE) (q_okE hE (by decide)) (q_z _ _ _) ?_
    obtain ⟨c3, h⟩ := h
    refine zj_iald (z σ 66 (z σ 48 12).toNat) d_En_join_79 (tg_66 hE) (q_okE hE (by decide)) c3 (by decide) (q_z _ _ _) ?_
    refine j_aload_n d_En_join_80 0 rfl ?_
    refine j_getR 67 f_En_37 d_En_join_81 (tg_48 hE) (q_okE hE (by decide)) (rf_48_11 hE) (by decide) ?_
    refine j_aload_n d_En_join_84 0 rfl ?_
    refine zj_getI (z σ 48 12) f_En_72 d_En_join_85 (tg_48 hE) (q_okE hE (by decide)) (q_z _ _ _) ?_
    refine zj_iald (z σ 67 (z σ 48 12).toNat) d_En_join_88 (tg_67 hE) (q_okE hE (by decide)) c3 (by decide) (q_z _ _ _) ?_
    refine j_callV m_En_joined [.int (zI (z σ 66 (z σ 48 12).toNat)), .int (zI (z σ 67 (z σ 48 12).toNat))] [.ref 48] d 0 0 cV_En_218 d_En_join_89 rfl rfl (tg_48 hE) (q_okE hE (by decide)) (Nat.le_of_ble_eq_true rfl) (Nat.le_refl _) (Nat.le_of_ble_eq_true rfl) (Nat.zero_le _) (Nat.zero_le _) h (fun v τ h => ?_) (fun x τ h => ?_)
    · obtain ⟨v, hv, e1, h⟩ := h; cases e1; exact j_sel [0] rfl h
    · obtain ⟨v, hv, e1, h⟩ := h; cases e1
  · have h := h2 k2
    refine j_aload_n d_En_join_18 0 rfl ?_
    refine j_getR 62 f_En_22 d_En_join_19 (tg_48 hE) (q_okE hE (by decide)) (rf_48_3 hE) (by decide) ?_
    refine j_iload_n d_En_join_22 1 rfl ?_
    refine j_aload_n d_En_join_23 0 rfl ?_
    refine j_getR 49 f_En_12 d_En_join_24 (tg_48 hE) (q_okE hE (by decide)) (rf_48_0 hE) (by decide) ?_
    refine j_getR 50 f_En_46 d_En_join_27 (tg_49 hE) (q_okE hE (by decide)) (rf_49_0 hE) (by decide) ?_
    refine j_aload_n d_En_join_30 0 rfl ?_
    refine j_getR 67 f_En_37 d_En_join_31 (tg_48 hE) (q_okE hE (by decide)) (rf_48_11 hE) (by decide) ?_
    refine j_aload_n d_En_join_34 0 rfl ?_
    refine zj_getI (z σ 48 12) f_En_72 d_En_join_35 (tg_48 hE) (q_okE hE (by decide)) (q_z _ _ _) ?_
    obtain ⟨c4, h⟩ := h
    refine zj_iald (z σ 67 (z σ 48 12).toNat) d_En_join_38 (tg_67 hE) (q_okE hE (by decide)) c4 (by decide) (q_z _ _ _) ?_
    refine j_aload_n d_En_join_39 0 rfl ?_
    refine j_getR 62 f_En_22 d_En_join_40 (tg_48 hE) (q_okE hE (by decide)) (rf_48_3 hE) (by decide) ?_
    refine j_iload_n d_En_join_43 1 rfl ?_
    obtain ⟨c5, h⟩ := h
    refine zj_iald (z σ 62 x1.toNat) d_En_join_44 (tg_62 hE) (q_okE hE (by decide)) c5 (by decide) (q_z _ _ _) ?_
    refine j_aload_n d_En_join_45 0 rfl ?_
    refine j_getR 64 f_En_28 d_En_join_46 (tg_48 hE) (q_okE hE (by decide)) (rf_48_8 hE) (by decide) ?_
    refine j_aload_n d_En_join_49 0 rfl ?_
    refine zj_getI (z σ 48 12) f_En_72 d_En_join_50 (tg_48 hE) (q_okE hE (by decide)) (q_z _ _ _) ?_
    refine j_bipush (v := zI 96) d_En_join_53 (by decide) ?_
    refine zj_imul ((z σ 48 12) * 96) rfl d_En_join_55 ?_
    refine j_iload_n d_En_join_56 1 rfl ?_
    refine zj_iadd (((z σ 48 12) * 96) + x1) rfl d_En_join_57 ?_
    obtain ⟨c6, h⟩ := h
    refine zj_iald (z σ 64 (((z σ 48 12) * 96) + x1).toNat) d_En_join_58 (tg_64 hE) (q_okE hE (by decide)) c6 (by decide) (q_z _ _ _) ?_
    refine j_callV m_Ci_pick [.int (zI (z σ 67 (z σ 48 12).toNat)), .int (zI (z σ 62 x1.toNat)), .int (zI (z σ 64 (((z σ 48 12) * 96) + x1).toNat))] [.int (zI x1), .ref 62] d 0 0 cV_En_215 d_En_join_59 rfl rfl (tg_50 hE) (q_okE hE (by decide)) (Nat.le_of_ble_eq_true rfl) (Nat.le_refl _) (Nat.le_of_ble_eq_true rfl) (Nat.zero_le _) (Nat.zero_le _) h (fun v τ h => ?_) (fun x τ h => ?_)
    · obtain ⟨v, hv, e1, h⟩ := h; cases e1; exact j_sel [0, 1] rfl h
    · obtain ⟨v, hv, e1, h⟩ := h; cases e1
set_option maxHeartbeats 2000000 in
theorem b_En_join_92 {ω : q_W} {σ : q_H} {Q : q_R → q_H → Prop} {d mc ms : Nat} {y0 : Int} {p : Nat} (hp : p = 16 ∨ p = 29) (r481 : q_r σ 48 1 = p) (hE : q_E σ) (h : (Q (.inl none) (zs (zs σ 48 4 y0) 48 15 0))) : J ω m_En_join (d + 1) mc ms 0 0 92 [(0, .ref 48)] [.int (zI y0), .ref 48] σ Q := by
  refine zj_putI (g_En_68 _) d_En_join_92 (tg_48 hE) (q_okE hE (by decide)) ?_
  refine j_aload_n d_En_join_95 0 rfl ?_
  refine j_iconst (v := zI 0) d_En_join_96 (by decide) ?_
  refine zj_putI (g_En_75 _) d_En_join_97 (tg_48 (zs_E hE)) (q_okE (zs_E hE) (by decide)) ?_
  exact j_vret d_En_join_100 rfl (Nat.zero_le _) (Nat.zero_le _) h
set_option maxHeartbeats 2000000 in
theorem b_En_join_62 {ω : q_W} {σ : q_H} {Q : q_R → q_H → Prop} {d mc ms : Nat} {x1 : Int} {y0 : Int} {y1 : Int} {p : Nat} (hp : p = 16 ∨ p = 29) (r481 : q_r σ 48 1 = p) (hE : q_E σ) (h : (0 ≤ y1 ∧ y1 < 96) ∧ (J ω m_En_join (d + 1) mc ms 0 0 12 [(0, .ref 48), (1, .int (zI (x1 + 1)))] [] (zs σ 62 y1.toNat y0) Q)) : J ω m_En_join (d + 1) mc ms 0 0 62 [(0, .ref 48), (1, .int (zI x1))] [.int (zI y0), .int (zI y1), .ref 62] σ Q := by
  obtain ⟨c7, h⟩ := h
  refine zj_iast d_En_join_62 (tg_62 hE) (q_okE hE (by decide)) c7 (by decide) ?_
  refine zj_iinc (L' := [(1, .int (zI (x1 + 1))), (0, .ref 48)]) (x1 + 1) d_En_join_63 1 rfl (by omega) (by decide) rfl ?_
  refine j_goto 12 d_En_join_66 (by decide) ?_
  exact j_sel [1, 0] rfl h
set_option maxHeartbeats 2000000 in
theorem b_En_joined_0 {ω : q_W} {σ : q_H} {Q : q_R → q_H → Prop} {d mc ms : Nat} {x1 : Int} {x2 : Int} {p : Nat} (hp : p = 16 ∨ p = 29) (r481 : q_r σ 48 1 = p) (hE : q_E σ) (h : (J ω m_Ci_and d 0 0 0 0 0 [(0, .ref 50), (1, .int (zI x1)), (2, .int (zI x2))] [] σ (q_ki (fun v τ => J ω m_En_joined (d + 1) mc ms 0 0 16 [(0, .ref 48), (1, .int (zI x1)), (2, .int (zI x2))] [.int (zI v), .int (zI (z σ 48 4))] τ Q)))) : J ω m_En_joined (d + 1) mc ms 0 0 0 [(0, .ref 48), (1, .int (zI x1)), (2, .int (zI x2))] [] σ Q := by
  refine j_aload_n d_En_joined_0 0 rfl ?_
  refine zj_getI (z σ 48 4) f_En_68 d_En_joined_1 (tg_48 hE) (q_okE hE (by decide)) (q_z _ _ _) ?_
  refine j_aload_n d_En_joined_4 0 rfl ?_
  refine j_getR 49 f_En_12 d_En_joined_5 (tg_48 hE) (q_okE hE (by decide)) (rf_48_0 hE) (by decide) ?_
  refine j_getR 50 f_En_46 d_En_joined_8 (tg_49 hE) (q_okE hE (by decide)) (rf_49_0 hE) (by decide) ?_
  refine j_iload_n d_En_joined_11 1 rfl ?_
  refine j_iload_n d_En_joined_12 2 rfl ?_
  refine j_callV m_Ci_and [.int (zI x1), .int (zI x2)] [.int (zI (z σ 48 4))] d 0 0 cV_En_185 d_En_joined_13 rfl rfl (tg_50 hE) (q_okE hE (by decide)) (Nat.le_of_ble_eq_true rfl) (Nat.le_refl _) (Nat.le_of_ble_eq_true rfl) (Nat.zero_le _) (Nat.zero_le _) h (fun v τ h => ?_) (fun x τ h => ?_)
  · obtain ⟨v, hv, e1, h⟩ := h; cases e1; exact j_sel [0, 1, 2] rfl h
  · obtain ⟨v, hv, e1, h⟩ := h; cases e1
set_option maxHeartbeats 2000000 in
theorem b_En_joined_16 {ω : q_W} {σ : q_H} {Q : q_R → q_H → Prop} {d mc ms : Nat} {x1 : Int} {x2 : Int} {y0 : Int} {y1 : Int} {p : Nat} (hp : p = 16 ∨ p = 29) (r481 : q_r σ 48 1 = p) (hE : q_E σ) (h : inR y1 ∧ inR y0 ∧ q_imp (y1 ≠ y0) ((J ω m_En_joined (d + 1) mc ms 0 0 24 [(0, .ref 48), (1, .int (zI x1)), (2, .int (zI x2))] [.int (zI 0)] σ Q)) ∧ q_imp (y1 = y0) ((J ω m_En_joined (d + 1) mc ms 0 0 24 [(0, .ref 48), (1, .int (zI x1)), (2, .int (zI x2))] [.int (zI 1)] σ Q))) : J ω m_En_joined (d + 1) mc ms 0 0 16 [(0, .ref 48), (1, .int (zI x1)), (2, .int (zI x2))] [.int (zI y0), .int (zI y1)] σ Q := by
  obtain ⟨r1, h⟩ := h
  obtain ⟨r2, h⟩ := h
  obtain ⟨h1, h2⟩ := h
  refine zj_icmp_ne 23 d_En_joined_16 (by decide) r1 r2 (fun k3 => ?_) (fun k3 => ?_)
  · have h := h1 k3
    refine j_iconst (v := zI 0) d_En_joined_23 (by decide) ?_
    exact j_sel [0, 1, 2] rfl h
  · have h := h2 k3
    refine j_iconst (v := zI 1) d_En_joined_19 (by decide) ?_
    refine j_goto 24 d_En_joined_20 (by decide) ?_
    exact j_sel [0, 1, 2] rfl h
set_option maxHeartbeats 2000000 in
theorem b_En_joined_24 {ω : q_W} {σ : q_H} {Q : q_R → q_H → Prop} {d mc ms : Nat} {x1 : Int} {x2 : Int} {y0 : Int} {p : Nat} (hp : p = 16 ∨ p = 29) (r481 : q_r σ 48 1 = p) (hE : q_E σ) (h : (0 ≤ (z σ 48 12) ∧ (z σ 48 12) < 32) ∧ (J ω m_Ci_and d 0 0 0 0 0 [(0, .ref 50), (1, .int (zI x1)), (2, .int (zI (zXor x2 1)))] [] σ (q_ki (fun v τ => J ω m_En_joined (d + 1) mc ms 0 0 48 [(0, .ref 48), (1, .int (zI x1)), (3, .int (zI y0))] [.int (zI v), .int (zI (z σ 65 (z σ 48 12).toNat))] τ Q)))) : J ω m_En_joined (d + 1) mc ms 0 0 24 [(0, .ref 48), (1, .int (zI x1)), (2, .int (zI x2))] [.int (zI y0)] σ Q := by
  refine j_istore_n (L' := [(3, .int (zI y0)), (0, .ref 48), (1, .int (zI x1)), (2, .int (zI x2))]) d_En_joined_24 (by decide) rfl ?_
  refine j_aload_n d_En_joined_25 1 rfl ?_
  refine j_getR 65 f_En_31 d_En_joined_26 (tg_48 hE) (q_okE hE (by decide)) (rf_48_9 hE) (by decide) ?_
  refine j_aload_n d_En_joined_29 1 rfl ?_
  refine zj_getI (z σ 48 12) f_En_72 d_En_joined_30 (tg_48 hE) (q_okE hE (by decide)) (q_z _ _ _) ?_
  obtain ⟨c4, h⟩ := h
  refine zj_iald (z σ 65 (z σ 48 12).toNat) d_En_joined_33 (tg_65 hE) (q_okE hE (by decide)) c4 (by decide) (q_z _ _ _) ?_
  refine j_aload_n d_En_joined_34 1 rfl ?_
  refine j_getR 49 f_En_12 d_En_joined_35 (tg_48 hE) (q_okE hE (by decide)) (rf_48_0 hE) (by decide) ?_
  refine j_getR 50 f_En_46 d_En_joined_38 (tg_49 hE) (q_okE hE (by decide)) (rf_49_0 hE) (by decide) ?_
  refine j_iload_n d_En_joined_41 2 rfl ?_
  refine j_iload_n d_En_joined_42 3 rfl ?_
  refine j_iconst (v := zI 1) d_En_joined_43 (by decide) ?_
  refine zj_ixor d_En_joined_44 ?_
  refine j_callV m_Ci_and [.int (zI x1), .int (zI (zXor x2 1))] [.int (zI (z σ 65 (z σ 48 12).toNat))] d 0 0 cV_En_185 d_En_joined_45 rfl rfl (tg_50 hE) (q_okE hE (by decide)) (Nat.le_of_ble_eq_true rfl) (Nat.le_refl _) (Nat.le_of_ble_eq_true rfl) (Nat.zero_le _) (Nat.zero_le _) h (fun v τ h => ?_) (fun x τ h => ?_)
  · obtain ⟨v, hv, e1, h⟩ := h; cases e1; exact j_sel [1, 2, 0] rfl h
  · obtain ⟨v, hv, e1, h⟩ := h; cases e1
set_option maxHeartbeats 2000000 in
theorem b_En_joined_48 {ω : q_W} {σ : q_H} {Q : q_R → q_H → Prop} {d mc ms : Nat} {x1 : Int} {x3 : Int} {y0 : Int} {y1 : Int} {p : Nat} (hp : p = 16 ∨ p = 29) (r481 : q_r σ 48 1 = p) (hE : q_E σ) (h : inR y1 ∧ inR y0 ∧ q_imp (y1 ≠ y0) ((J ω m_En_joined (d + 1) mc ms 0 0 56 [(0, .ref 48), (1, .int (zI x1)), (3, .int (zI x3))] [.int (zI 0)] σ Q)) ∧ q_imp (y1 = y0) ((J ω m_En_joined (d + 1) mc ms 0 0 56 [(0, .ref 48), (1, .int (zI x1)), (3, .int (zI x3))] [.int (zI 1)] σ Q))) : J ω m_En_joined (d + 1) mc ms 0 0 48 [(0, .ref 48), (1, .int (zI x1)), (3, .int (zI x3))] [.int (zI y0), .int (zI y1)] σ Q := by
  obtain ⟨r5, h⟩ := h
  obtain ⟨r6, h⟩ := h
  obtain ⟨h1, h2⟩ := h
  refine zj_icmp_ne 55 d_En_joined_48 (by decide) r5 r6 (fun k7 => ?_) (fun k7 => ?_)
  · have h := h1 k7
    refine j_iconst (v := zI 0) d_En_joined_55 (by decide) ?_
    exact j_sel [0, 1, 2] rfl h
  · have h := h2 k7
    refine j_iconst (v := zI 1) d_En_joined_51 (by decide) ?_
    refine j_goto 56 d_En_joined_52 (by decide) ?_
    exact j_sel [0, 1, 2] rfl h
set_option maxHeartbeats 2000000 in
theorem b_En_joined_56 {ω : q_W} {σ : q_H} {Q : q_R → q_H → Prop} {d mc ms : Nat} {x1 : Int} {x3 : Int} {y0 : Int} {p : Nat} (hp : p = 16 ∨ p = 29) (r481 : q_r σ 48 1 = p) (hE : q_E σ) (h : inR x3 ∧ q_imp (x3 = 0) ((J ω m_En_joined (d + 1) mc ms 0 0 71 [(0, .ref 48)] [] σ Q)) ∧ q_imp (x3 ≠ 0) (inR y0 ∧ q_imp (y0 = 0) ((J ω m_En_joined (d + 1) mc ms 0 0 71 [(0, .ref 48)] [] σ Q)) ∧ q_imp (y0 ≠ 0) ((Q (.inl (some (.int (zI x1)))) σ)))) : J ω m_En_joined (d + 1) mc ms 0 0 56 [(0, .ref 48), (1, .int (zI x1)), (3, .int (zI x3))] [.int (zI y0)] σ Q := by
  refine j_istore (L' := [(4, .int (zI y0)), (0, .ref 48), (1, .int (zI x1)), (3, .int (zI x3))]) d_En_joined_56 (by decide) rfl ?_
  refine j_iload_n d_En_joined_58 3 rfl ?_
  obtain ⟨r8, h⟩ := h
  obtain ⟨h1, h2⟩ := h
  refine zj_if_eq 71 d_En_joined_59 (by decide) r8 (fun k9 => ?_) (fun k9 => ?_)
  · have h := h1 k9
    exact j_sel [1] rfl h
  · have h := h2 k9
    refine j_iload d_En_joined_62 0 rfl ?_
    obtain ⟨r10, h⟩ := h
    obtain ⟨h1, h2⟩ := h
    refine zj_if_eq 71 d_En_joined_64 (by decide) r10 (fun k11 => ?_) (fun k11 => ?_)
    · have h := h1 k11
      exact j_sel [1] rfl h
    · have h := h2 k11
      refine j_iload_n d_En_joined_67 2 rfl ?_
      refine j_goto 94 d_En_joined_68 (by decide) ?_
      exact zj_iret d_En_joined_94 rfl (Nat.zero_le _) (Nat.zero_le _) h
set_option maxHeartbeats 2000000 in
theorem b_En_joined_71 {ω : q_W} {σ : q_H} {Q : q_R → q_H → Prop} {d mc ms : Nat}  {p : Nat} (hp : p = 16 ∨ p = 29) (r481 : q_r σ 48 1 = p) (hE : q_E σ) (h : (0 ≤ (z σ 48 12) ∧ (z σ 48 12) < 32) ∧ (J ω m_Ci_or d 0 0 0 0 0 [(0, .ref 50), (1, .int (zI (z σ 48 4))), (2, .int (zI (z σ 65 (z σ 48 12).toNat)))] [] σ (q_ki (fun v τ => J ω m_En_joined (d + 1) mc ms 0 0 94 [] [.int (zI v)] τ Q)))) : J ω m_En_joined (d + 1) mc ms 0 0 71 [(0, .ref 48)] [] σ Q := by
  refine j_aload_n d_En_joined_71 0 rfl ?_
  refine j_getR 49 f_En_12 d_En_joined_72 (tg_48 hE) (q_okE hE (by decide)) (rf_48_0 hE) (by decide) ?_
  refine j_getR 50 f_En_46 d_En_joined_75 (tg_49 hE) (q_okE hE (by decide)) (rf_49_0 hE) (by decide) ?_
  refine j_aload_n d_En_joined_78 0 rfl ?_
  refine zj_getI (z σ 48 4) f_En_68 d_En_joined_79 (tg_48 hE) (q_okE hE (by decide)) (q_z _ _ _) ?_
  refine j_aload_n d_En_joined_82 0 rfl ?_
  refine j_getR 65 f_En_31 d_En_joined_83 (tg_48 hE) (q_okE hE (by decide)) (rf_48_9 hE) (by decide) ?_
  refine j_aload_n d_En_joined_86 0 rfl ?_
  refine zj_getI (z σ 48 12) f_En_72 d_En_joined_87 (tg_48 hE) (q_okE hE (by decide)) (q_z _ _ _) ?_
  obtain ⟨c12, h⟩ := h
  refine zj_iald (z σ 65 (z σ 48 12).toNat) d_En_joined_90 (tg_65 hE) (q_okE hE (by decide)) c12 (by decide) (q_z _ _ _) ?_
  refine j_callV m_Ci_or [.int (zI (z σ 48 4)), .int (zI (z σ 65 (z σ 48 12).toNat))] [] d 0 0 cV_En_107 d_En_joined_91 rfl rfl (tg_50 hE) (q_okE hE (by decide)) (Nat.le_of_ble_eq_true rfl) (Nat.le_refl _) (Nat.le_of_ble_eq_true rfl) (Nat.zero_le _) (Nat.zero_le _) h (fun v τ h => ?_) (fun x τ h => ?_)
  · obtain ⟨v, hv, e1, h⟩ := h; cases e1; exact j_sel [] rfl h
  · obtain ⟨v, hv, e1, h⟩ := h; cases e1
set_option maxHeartbeats 2000000 in
theorem b_En_joined_94 {ω : q_W} {σ : q_H} {Q : q_R → q_H → Prop} {d mc ms : Nat} {y0 : Int} {p : Nat} (hp : p = 16 ∨ p = 29) (r481 : q_r σ 48 1 = p) (hE : q_E σ) (h : (Q (.inl (some (.int (zI y0)))) σ)) : J ω m_En_joined (d + 1) mc ms 0 0 94 [] [.int (zI y0)] σ Q := by
  exact zj_iret d_En_joined_94 rfl (Nat.zero_le _) (Nat.zero_le _) h
set_option maxHeartbeats 2000000 in
theorem b_En_turn_0 {ω : q_W} {σ : q_H} {Q : q_R → q_H → Prop} {d mc ms : Nat} {x1 : Int} {x2 : Int} {x3 : Int} {p : Nat} (hp : p = 16 ∨ p = 29) (r481 : q_r σ 48 1 = p) (hE : q_E σ) (h : (0 ≤ x2 ∧ x2 < 32) ∧ q_imp ((z σ 68 x2.toNat) ≠ 0) ((J ω m_En_fork d 0 0 0 0 0 [(0, .ref 48), (1, .int (zI x3))] [] (zs σ 68 x2.toNat ((z σ 68 x2.toNat) - 1)) (q_kv (fun τ => J ω m_En_turn (d + 1) mc ms 0 0 39 [(1, .int (zI x1))] [] τ Q)))) ∧ q_imp ((z σ 68 x2.toNat) = 0) ((J ω m_En_deny d 0 0 0 0 0 [(0, .ref 48), (1, .int (zI x3))] [] σ (q_kv (fun τ => J ω m_En_turn (d + 1) mc ms 0 0 14 [(0, .ref 48), (1, .int (zI x1))] [] τ Q))))) : J ω m_En_turn (d + 1) mc ms 0 0 0 [(0, .ref 48), (1, .int (zI x1)), (2, .int (zI x2)), (3, .int (zI x3))] [] σ Q := by
  refine j_aload_n d_En_turn_0 0 rfl ?_
  refine j_getR 68 f_En_40 d_En_turn_1 (tg_48 hE) (q_okE hE (by decide)) (rf_48_13 hE) (by decide) ?_
  refine j_iload_n d_En_turn_4 2 rfl ?_
  obtain ⟨c1, h⟩ := h
  refine zj_iald (z σ 68 x2.toNat) d_En_turn_5 (tg_68 hE) (q_okE hE (by decide)) c1 (by decide) (q_z _ _ _) ?_
  obtain ⟨h1, h2⟩ := h
  refine zj_if_ne 24 d_En_turn_6 (by decide) (z_R _ _ _) (fun k2 => ?_) (fun k2 => ?_)
  · have h := h1 k2
    refine j_aload_n d_En_turn_24 0 rfl ?_
    refine j_getR 68 f_En_40 d_En_turn_25 (tg_48 hE) (q_okE hE (by decide)) (rf_48_13 hE) (by decide) ?_
    refine j_iload_n d_En_turn_28 2 rfl ?_
    refine j_dup2 d_En_turn_29 rfl rfl ?_
    refine zj_iald (z σ 68 x2.toNat) d_En_turn_30 (tg_68 hE) (q_okE hE (by decide)) c1 (by decide) (q_z _ _ _) ?_
    refine j_iconst (v := zI 1) d_En_turn_31 (by decide) ?_
    refine zj_isub ((z σ 68 x2.toNat) - 1) (by omega) d_En_turn_32 ?_
    refine zj_iast d_En_turn_33 (tg_68 hE) (q_okE hE (by decide)) c1 (by decide) ?_
    refine j_aload_n d_En_turn_34 0 rfl ?_
    refine j_iload_n d_En_turn_35 3 rfl ?_
    refine j_callV m_En_fork [.int (zI x3)] [] d 0 0 cV_En_188 d_En_turn_36 rfl rfl (tg_48 (zs_E hE)) (q_okE (zs_E hE) (by decide)) (Nat.le_of_ble_eq_true rfl) (Nat.le_refl _) (Nat.le_of_ble_eq_true rfl) (Nat.zero_le _) (Nat.zero_le _) h (fun v τ h => ?_) (fun x τ h => ?_)
    · obtain ⟨e1, h⟩ := h; cases e1; exact j_sel [1] rfl h
    · obtain ⟨e1, h⟩ := h; cases e1
  · have h := h2 k2
    refine j_aload_n d_En_turn_9 0 rfl ?_
    refine j_iload_n d_En_turn_10 3 rfl ?_
    refine j_callV m_En_deny [.int (zI x3)] [] d 0 0 cV_En_212 d_En_turn_11 rfl rfl (tg_48 hE) (q_okE hE (by decide)) (Nat.le_of_ble_eq_true rfl) (Nat.le_refl _) (Nat.le_of_ble_eq_true rfl) (Nat.zero_le _) (Nat.zero_le _) h (fun v τ h => ?_) (fun x τ h => ?_)
    · obtain ⟨e1, h⟩ := h; cases e1; exact j_sel [0, 1] rfl h
    · obtain ⟨e1, h⟩ := h; cases e1
set_option maxHeartbeats 2000000 in
theorem b_En_turn_39 {ω : q_W} {σ : q_H} {Q : q_R → q_H → Prop} {d mc ms : Nat} {x1 : Int} {p : Nat} (hp : p = 16 ∨ p = 29) (r481 : q_r σ 48 1 = p) (hE : q_E σ) (h : (Q (.inl (some (.int (zI (x1 + 1))))) σ)) : J ω m_En_turn (d + 1) mc ms 0 0 39 [(1, .int (zI x1))] [] σ Q := by
  refine j_iload_n d_En_turn_39 0 rfl ?_
  refine j_iconst (v := zI 1) d_En_turn_40 (by decide) ?_
  refine zj_iadd (x1 + 1) (by omega) d_En_turn_41 ?_
  exact zj_iret d_En_turn_42 rfl (Nat.zero_le _) (Nat.zero_le _) h
set_option maxHeartbeats 2000000 in
theorem b_En_turn_14 {ω : q_W} {σ : q_H} {Q : q_R → q_H → Prop} {d mc ms : Nat} {x1 : Int} {p : Nat} (hp : p = 16 ∨ p = 29) (r481 : q_r σ 48 1 = p) (hE : q_E σ) (h : (0 ≤ x1 ∧ x1 < 2048) ∧ (Q (.inl (some (.int (zI (z σ (p + 9) x1.toNat))))) σ)) : J ω m_En_turn (d + 1) mc ms 0 0 14 [(0, .ref 48), (1, .int (zI x1))] [] σ Q := by
  refine j_aload_n d_En_turn_14 0 rfl ?_
  refine j_getR p f_En_50 d_En_turn_15 (tg_48 hE) (q_okE hE (by decide)) (r481) (by omega) ?_
  refine j_getR (p + 9) f_En_197 d_En_turn_18 (tY_p_0 hE hp) (q_okE hE (by omega)) (rY_p_16 hE hp) (by omega) ?_
  refine j_iload_n d_En_turn_21 1 rfl ?_
  obtain ⟨c3, h⟩ := h
  refine zj_iald (z σ (p + 9) x1.toNat) d_En_turn_22 (tY_p_9 hE hp) (q_okE hE (by omega)) c3 (by decide) (q_z _ _ _) ?_
  exact zj_iret d_En_turn_23 rfl (Nat.zero_le _) (Nat.zero_le _) h
set_option maxHeartbeats 2000000 in
theorem b_En_deny_0 {ω : q_W} {σ : q_H} {Q : q_R → q_H → Prop} {d mc ms : Nat} {x1 : Int} {p : Nat} (hp : p = 16 ∨ p = 29) (r481 : q_r σ 48 1 = p) (hE : q_E σ) (h : (J ω m_En_deny (d + 1) mc ms 0 0 2 [(0, .ref 48), (1, .int (zI x1)), (2, .int (zI 0))] [] σ Q)) : J ω m_En_deny (d + 1) mc ms 0 0 0 [(0, .ref 48), (1, .int (zI x1))] [] σ Q := by
  refine j_iconst (v := zI 0) d_En_deny_0 (by decide) ?_
  refine j_istore_n (L' := [(2, .int (zI 0)), (0, .ref 48), (1, .int (zI x1))]) d_En_deny_1 (by decide) rfl ?_
  exact j_sel [1, 2, 0] rfl h
set_option maxHeartbeats 2000000 in
theorem b_En_deny_2 {ω : q_W} {σ : q_H} {Q : q_R → q_H → Prop} {d mc ms : Nat} {x1 : Int} {x2 : Int} {p : Nat} (hp : p = 16 ∨ p = 29) (r481 : q_r σ 48 1 = p) (hE : q_E σ) (h : inR x2 ∧ q_imp (x2 ≥ (z σ 48 15)) (q_imp ((z σ 48 15) ≠ 32) ((J ω m_En_deny (d + 1) mc ms 0 0 41 [(0, .ref 48), (1, .int (zI x1))] [] σ Q)) ∧ q_imp ((z σ 48 15) = 32) ((J ω m_En_deny (d + 1) mc ms 0 0 41 [(0, .ref 48), (1, .int (zI x1))] [] (zs σ 48 15 0) Q))) ∧ q_imp (x2 < (z σ 48 15)) ((0 ≤ x2 ∧ x2 < 32) ∧ inR x1 ∧ q_imp ((z σ 69 x2.toNat) ≠ x1) ((J ω m_En_deny (d + 1) mc ms 0 0 2 [(0, .ref 48), (1, .int (zI x1)), (2, .int (zI (x2 + 1)))] [] σ Q)) ∧ q_imp ((z σ 69 x2.toNat) = x1) ((Q (.inl none) σ)))) : J ω m_En_deny (d + 1) mc ms 0 0 2 [(0, .ref 48), (1, .int (zI x1)), (2, .int (zI x2))] [] σ Q := by
  refine j_iload_n d_En_deny_2 2 rfl ?_
  refine j_aload_n d_En_deny_3 0 rfl ?_
  refine zj_getI (z σ 48 15) f_En_75 d_En_deny_4 (tg_48 hE) (q_okE hE (by decide)) (q_z _ _ _) ?_
  obtain ⟨r1, h⟩ := h
  obtain ⟨h1, h2⟩ := h
  refine zj_icmp_ge 27 d_En_deny_7 (by decide) r1 (z_R _ _ _) (fun k2 => ?_) (fun k2 => ?_)
  · have h := h1 k2
    refine j_aload_n d_En_deny_27 0 rfl ?_
    refine zj_getI (z σ 48 15) f_En_75 d_En_deny_28 (tg_48 hE) (q_okE hE (by decide)) (q_z _ _ _) ?_
    refine j_bipush (v := zI 32) d_En_deny_31 (by decide) ?_
    obtain ⟨h1, h2⟩ := h
    refine zj_icmp_ne 41 d_En_deny_33 (by decide) (z_R _ _ _) ⟨by decide, by decide⟩ (fun k3 => ?_) (fun k3 => ?_)
    · have h := h1 k3
      exact j_sel [0, 1] rfl h
    · have h := h2 k3
      refine j_aload_n d_En_deny_36 0 rfl ?_
      refine j_iconst (v := zI 0) d_En_deny_37 (by decide) ?_
      refine zj_putI (g_En_75 _) d_En_deny_38 (tg_48 hE) (q_okE hE (by decide)) ?_
      exact j_sel [0, 1] rfl h
  · have h := h2 k2
    refine j_aload_n d_En_deny_10 0 rfl ?_
    refine j_getR 69 f_En_43 d_En_deny_11 (tg_48 hE) (q_okE hE (by decide)) (rf_48_14 hE) (by decide) ?_
    refine j_iload_n d_En_deny_14 2 rfl ?_
    obtain ⟨c4, h⟩ := h
    refine zj_iald (z σ 69 x2.toNat) d_En_deny_15 (tg_69 hE) (q_okE hE (by decide)) c4 (by decide) (q_z _ _ _) ?_
    refine j_iload_n d_En_deny_16 1 rfl ?_
    obtain ⟨r5, h⟩ := h
    obtain ⟨h1, h2⟩ := h
    refine zj_icmp_ne 21 d_En_deny_17 (by decide) (z_R _ _ _) r5 (fun k6 => ?_) (fun k6 => ?_)
    · have h := h1 k6
      refine zj_iinc (L' := [(2, .int (zI (x2 + 1))), (0, .ref 48), (1, .int (zI x1))]) (x2 + 1) d_En_deny_21 2 rfl (by omega) (by decide) rfl ?_
      refine j_goto 2 d_En_deny_24 (by decide) ?_
      exact j_sel [1, 2, 0] rfl h
    · have h := h2 k6
      exact j_vret d_En_deny_20 rfl (Nat.zero_le _) (Nat.zero_le _) h
set_option maxHeartbeats 2000000 in
theorem b_En_deny_41 {ω : q_W} {σ : q_H} {Q : q_R → q_H → Prop} {d mc ms : Nat} {x1 : Int} {p : Nat} (hp : p = 16 ∨ p = 29) (r481 : q_r σ 48 1 = p) (hE : q_E σ) (h : (0 ≤ (z σ 48 15) ∧ (z σ 48 15) < 32) ∧ (J ω m_Ci_and d 0 0 0 0 0 [(0, .ref 50), (1, .int (zI (z σ 48 4))), (2, .int (zI (zXor x1 1)))] [] (zs (zs σ 69 (z σ 48 15).toNat x1) 48 15 ((z σ 48 15) + 1)) (q_ki (fun v τ => J ω m_En_deny (d + 1) mc ms 0 0 79 [] [.int (zI v), .ref 48] τ Q)))) : J ω m_En_deny (d + 1) mc ms 0 0 41 [(0, .ref 48), (1, .int (zI x1))] [] σ Q := by
  refine j_aload_n d_En_deny_41 0 rfl ?_
  refine j_getR 69 f_En_43 d_En_deny_42 (tg_48 hE) (q_okE hE (by decide)) (rf_48_14 hE) (by decide) ?_
  refine j_aload_n d_En_deny_45 0 rfl ?_
  refine zj_getI (z σ 48 15) f_En_75 d_En_deny_46 (tg_48 hE) (q_okE hE (by decide)) (q_z _ _ _) ?_
  refine j_iload_n d_En_deny_49 1 rfl ?_
  obtain ⟨c7, h⟩ := h
  refine zj_iast d_En_deny_50 (tg_69 hE) (q_okE hE (by decide)) c7 (by decide) ?_
  refine j_aload_n d_En_deny_51 0 rfl ?_
  refine j_dup d_En_deny_52 rfl ?_
  refine zj_getI (z σ 48 15) f_En_75 d_En_deny_53 (tg_48 (zs_E hE)) (q_okE (zs_E hE) (by decide)) (Eq.trans (qs_o (by decide)) (q_z _ _ _)) ?_
  refine j_iconst (v := zI 1) d_En_deny_56 (by decide) ?_
  refine zj_iadd ((z σ 48 15) + 1) (by omega) d_En_deny_57 ?_
  refine zj_putI (g_En_75 _) d_En_deny_58 (tg_48 (zs_E hE)) (q_okE (zs_E hE) (by decide)) ?_
  refine j_aload_n d_En_deny_61 0 rfl ?_
  refine j_aload_n d_En_deny_62 0 rfl ?_
  refine j_getR 49 f_En_12 d_En_deny_63 (tg_48 (zs_E (zs_E hE))) (q_okE (zs_E (zs_E hE)) (by decide)) (rf_48_0 (zs_E (zs_E hE))) (by decide) ?_
  refine j_getR 50 f_En_46 d_En_deny_66 (tg_49 (zs_E (zs_E hE))) (q_okE (zs_E (zs_E hE)) (by decide)) (rf_49_0 (zs_E (zs_E hE))) (by decide) ?_
  refine j_aload_n d_En_deny_69 0 rfl ?_
  refine zj_getI (z σ 48 4) f_En_68 d_En_deny_70 (tg_48 (zs_E (zs_E hE))) (q_okE (zs_E (zs_E hE)) (by decide)) (Eq.trans (qs_k (by decide)) (Eq.trans (qs_o (by decide)) (q_z _ _ _))) ?_
  refine j_iload_n d_En_deny_73 1 rfl ?_
  refine j_iconst (v := zI 1) d_En_deny_74 (by decide) ?_
  refine zj_ixor d_En_deny_75 ?_
  refine j_callV m_Ci_and [.int (zI (z σ 48 4)), .int (zI (zXor x1 1))] [.ref 48] d 0 0 cV_En_185 d_En_deny_76 rfl rfl (tg_50 (zs_E (zs_E hE))) (q_okE (zs_E (zs_E hE)) (by decide)) (Nat.le_of_ble_eq_true rfl) (Nat.le_refl _) (Nat.le_of_ble_eq_true rfl) (Nat.zero_le _) (Nat.zero_le _) h (fun v τ h => ?_) (fun x τ h => ?_)
  · obtain ⟨v, hv, e1, h⟩ := h; cases e1; exact j_sel [] rfl h
  · obtain ⟨v, hv, e1, h⟩ := h; cases e1
set_option maxHeartbeats 2000000 in
theorem b_En_deny_79 {ω : q_W} {σ : q_H} {Q : q_R → q_H → Prop} {d mc ms : Nat} {y0 : Int} {p : Nat} (hp : p = 16 ∨ p = 29) (r481 : q_r σ 48 1 = p) (hE : q_E σ) (h : (Q (.inl none) (zs σ 48 4 y0))) : J ω m_En_deny (d + 1) mc ms 0 0 79 [] [.int (zI y0), .ref 48] σ Q := by
  refine zj_putI (g_En_68 _) d_En_deny_79 (tg_48 hE) (q_okE hE (by decide)) ?_
  exact j_vret d_En_deny_82 rfl (Nat.zero_le _) (Nat.zero_le _) h
set_option maxHeartbeats 2000000 in
theorem b_En_dropQuestion_0 {ω : q_W} {σ : q_H} {Q : q_R → q_H → Prop} {d mc ms : Nat}  {p : Nat} (hp : p = 16 ∨ p = 29) (r481 : q_r σ 48 1 = p) (hE : q_E σ) (h : (J ω m_Ci_cutBack d 0 0 0 0 0 [(0, .ref 50), (1, .int (zI (z σ 48 7)))] [] σ (q_kv (fun τ => J ω m_En_dropQuestion (d + 1) mc ms 0 0 14 [] [] τ Q)))) : J ω m_En_dropQuestion (d + 1) mc ms 0 0 0 [(0, .ref 48)] [] σ Q := by
  refine j_aload_n d_En_dropQuestion_0 0 rfl ?_
  refine j_getR 49 f_En_12 d_En_dropQuestion_1 (tg_48 hE) (q_okE hE (by decide)) (rf_48_0 hE) (by decide) ?_
  refine j_getR 50 f_En_46 d_En_dropQuestion_4 (tg_49 hE) (q_okE hE (by decide)) (rf_49_0 hE) (by decide) ?_
  refine j_aload_n d_En_dropQuestion_7 0 rfl ?_
  refine zj_getI (z σ 48 7) f_En_113 d_En_dropQuestion_8 (tg_48 hE) (q_okE hE (by decide)) (q_z _ _ _) ?_
  refine j_callV m_Ci_cutBack [.int (zI (z σ 48 7))] [] d 0 0 cV_En_123 d_En_dropQuestion_11 rfl rfl (tg_50 hE) (q_okE hE (by decide)) (Nat.le_of_ble_eq_true rfl) (Nat.le_refl _) (Nat.le_of_ble_eq_true rfl) (Nat.zero_le _) (Nat.zero_le _) h (fun v τ h => ?_) (fun x τ h => ?_)
  · obtain ⟨e1, h⟩ := h; cases e1; exact j_sel [] rfl h
  · obtain ⟨e1, h⟩ := h; cases e1
set_option maxHeartbeats 2000000 in
theorem b_En_dropQuestion_14 {ω : q_W} {σ : q_H} {Q : q_R → q_H → Prop} {d mc ms : Nat}  {p : Nat} (hp : p = 16 ∨ p = 29) (r481 : q_r σ 48 1 = p) (hE : q_E σ) (h : (Q (.inl none) σ)) : J ω m_En_dropQuestion (d + 1) mc ms 0 0 14 [] [] σ Q := by
  exact j_vret d_En_dropQuestion_14 rfl (Nat.zero_le _) (Nat.zero_le _) h
set_option maxHeartbeats 2000000 in
theorem b_En_difference_0 {ω : q_W} {σ : q_H} {Q : q_R → q_H → Prop} {d mc ms : Nat} {x1 : Int} {x2 : Int} {p : Nat} (hp : p = 16 ∨ p = 29) (r481 : q_r σ 48 1 = p) (hE : q_E σ) (h : (J ω m_En_difference (d + 1) mc ms 0 0 5 [(0, .ref 48), (1, .int (zI x1)), (2, .int (zI x2)), (3, .int (zI 1)), (4, .int (zI 0))] [] σ Q)) : J ω m_En_difference (d + 1) mc ms 0 0 0 [(0, .ref 48), (1, .int (zI x1)), (2, .int (zI x2))] [] σ Q := by
  refine j_iconst (v := zI 1) d_En_difference_0 (by decide) ?_
  refine j_istore_n (L' := [(3, .int (zI 1)), (0, .ref 48), (1, .int (zI x1)), (2, .int (zI x2))]) d_En_difference_1 (by decide) rfl ?_
  refine j_iconst (v := zI 0) d_En_difference_2 (by decide) ?_
  refine j_istore (L' := [(4, .int (zI 0)), (3, .int (zI 1)), (0, .ref 48), (1, .int (zI x1)), (2, .int (zI x2))]) d_En_difference_3 (by decide) rfl ?_
  exact j_sel [2, 3, 4, 1, 0] rfl h
set_option maxHeartbeats 2000000 in
theorem b_En_difference_5 {ω : q_W} {σ : q_H} {Q : q_R → q_H → Prop} {d mc ms : Nat} {x1 : Int} {x2 : Int} {x3 : Int} {x4 : Int} {p : Nat} (hp : p = 16 ∨ p = 29) (r481 : q_r σ 48 1 = p) (hE : q_E σ) (h : inR x4 ∧ q_imp (x4 ≥ 8) ((Q (.inl (some (.int (zI x3)))) σ)) ∧ q_imp (x4 < 8) ((0 ≤ ((x1 * 8) + x4) ∧ ((x1 * 8) + x4) < 96) ∧ (0 ≤ ((x2 * 8) + x4) ∧ ((x2 * 8) + x4) < 96) ∧ (J ω m_Ci_xor d 0 0 0 0 0 [(0, .ref 50), (1, .int (zI (z σ 62 ((x1 * 8) + x4).toNat))), (2, .int (zI (z σ 62 ((x2 * 8) + x4).toNat)))] [] σ (q_ki (fun v τ => J ω m_En_difference (d + 1) mc ms 0 0 54 [(0, .ref 48), (1, .int (zI x1)), (2, .int (zI x2)), (4, .int (zI x4))] [.int (zI v), .int (zI x3), .ref 50] τ Q))))) : J ω m_En_difference (d + 1) mc ms 0 0 5 [(0, .ref 48), (1, .int (zI x1)), (2, .int (zI x2)), (3, .int (zI x3)), (4, .int (zI x4))] [] σ Q := by
  refine j_iload d_En_difference_5 4 rfl ?_
  refine j_bipush (v := zI 8) d_En_difference_7 (by decide) ?_
  obtain ⟨r1, h⟩ := h
  obtain ⟨h1, h2⟩ := h
  refine zj_icmp_ge 64 d_En_difference_9 (by decide) r1 ⟨by decide, by decide⟩ (fun k2 => ?_) (fun k2 => ?_)
  · have h := h1 k2
    refine j_iload_n d_En_difference_64 3 rfl ?_
    exact zj_iret d_En_difference_65 rfl (Nat.zero_le _) (Nat.zero_le _) h
  · have h := h2 k2
    refine j_aload_n d_En_difference_12 0 rfl ?_
    refine j_getR 49 f_En_12 d_En_difference_13 (tg_48 hE) (q_okE hE (by decide)) (rf_48_0 hE) (by decide) ?_
    refine j_getR 50 f_En_46 d_En_difference_16 (tg_49 hE) (q_okE hE (by decide)) (rf_49_0 hE) (by decide) ?_
    refine j_iload_n d_En_difference_19 3 rfl ?_
    refine j_aload_n d_En_difference_20 0 rfl ?_
    refine j_getR 49 f_En_12 d_En_difference_21 (tg_48 hE) (q_okE hE (by decide)) (rf_48_0 hE) (by decide) ?_
    refine j_getR 50 f_En_46 d_En_difference_24 (tg_49 hE) (q_okE hE (by decide)) (rf_49_0 hE) (by decide) ?_
    refine j_aload_n d_En_difference_27 0 rfl ?_
    refine j_getR 62 f_En_22 d_En_difference_28 (tg_48 hE) (q_okE hE (by decide)) (rf_48_3 hE) (by decide) ?_
    refine j_iload_n d_En_difference_31 1 rfl ?_
    refine j_bipush (v := zI 8) d_En_difference_32 (by decide) ?_
    refine zj_imul (x1 * 8) rfl d_En_difference_34 ?_
    refine j_iload d_En_difference_35 4 rfl ?_
    refine zj_iadd ((x1 * 8) + x4) rfl d_En_difference_37 ?_
    obtain ⟨c3, h⟩ := h
    refine zj_iald (z σ 62 ((x1 * 8) + x4).toNat) d_En_difference_38 (tg_62 hE) (q_okE hE (by decide)) c3 (by decide) (q_z _ _ _) ?_
    refine j_aload_n d_En_difference_39 0 rfl ?_
    refine j_getR 62 f_En_22 d_En_difference_40 (tg_48 hE) (q_okE hE (by decide)) (rf_48_3 hE) (by decide) ?_
    refine j_iload_n d_En_difference_43 2 rfl ?_
    refine j_bipush (v := zI 8) d_En_difference_44 (by decide) ?_
    refine zj_imul (x2 * 8) rfl d_En_difference_46 ?_
    refine j_iload d_En_difference_47 4 rfl ?_
    refine zj_iadd ((x2 * 8) + x4) rfl d_En_difference_49 ?_
    obtain ⟨c4, h⟩ := h
    refine zj_iald (z σ 62 ((x2 * 8) + x4).toNat) d_En_difference_50 (tg_62 hE) (q_okE hE (by decide)) c4 (by decide) (q_z _ _ _) ?_
    refine j_callV m_Ci_xor [.int (zI (z σ 62 ((x1 * 8) + x4).toNat)), .int (zI (z σ 62 ((x2 * 8) + x4).toNat))] [.int (zI x3), .ref 50] d 0 0 cV_En_127 d_En_difference_51 rfl rfl (tg_50 hE) (q_okE hE (by decide)) (Nat.le_of_ble_eq_true rfl) (Nat.le_refl _) (Nat.le_of_ble_eq_true rfl) (Nat.zero_le _) (Nat.zero_le _) h (fun v τ h => ?_) (fun x τ h => ?_)
    · obtain ⟨v, hv, e1, h⟩ := h; cases e1; exact j_sel [0, 1, 2, 4] rfl h
    · obtain ⟨v, hv, e1, h⟩ := h; cases e1
set_option maxHeartbeats 2000000 in
theorem b_En_difference_54 {ω : q_W} {σ : q_H} {Q : q_R → q_H → Prop} {d mc ms : Nat} {x1 : Int} {x2 : Int} {x4 : Int} {y0 : Int} {y1 : Int} {p : Nat} (hp : p = 16 ∨ p = 29) (r481 : q_r σ 48 1 = p) (hE : q_E σ) (h : (J ω m_Ci_or d 0 0 0 0 0 [(0, .ref 50), (1, .int (zI y1)), (2, .int (zI y0))] [] σ (q_ki (fun v τ => J ω m_En_difference (d + 1) mc ms 0 0 57 [(0, .ref 48), (1, .int (zI x1)), (2, .int (zI x2)), (4, .int (zI x4))] [.int (zI v)] τ Q)))) : J ω m_En_difference (d + 1) mc ms 0 0 54 [(0, .ref 48), (1, .int (zI x1)), (2, .int (zI x2)), (4, .int (zI x4))] [.int (zI y0), .int (zI y1), .ref 50] σ Q := by
  refine j_callV m_Ci_or [.int (zI y1), .int (zI y0)] [] d 0 0 cV_En_107 d_En_difference_54 rfl rfl (tg_50 hE) (q_okE hE (by decide)) (Nat.le_of_ble_eq_true rfl) (Nat.le_refl _) (Nat.le_of_ble_eq_true rfl) (Nat.zero_le _) (Nat.zero_le _) h (fun v τ h => ?_) (fun x τ h => ?_)
  · obtain ⟨v, hv, e1, h⟩ := h; cases e1; exact j_sel [0, 1, 2, 3] rfl h
  · obtain ⟨v, hv, e1, h⟩ := h; cases e1
set_option maxHeartbeats 2000000 in
theorem b_En_difference_57 {ω : q_W} {σ : q_H} {Q : q_R → q_H → Prop} {d mc ms : Nat} {x1 : Int} {x2 : Int} {x4 : Int} {y0 : Int} {p : Nat} (hp : p = 16 ∨ p = 29) (r481 : q_r σ 48 1 = p) (hE : q_E σ) (h : (J ω m_En_difference (d + 1) mc ms 0 0 5 [(0, .ref 48), (1, .int (zI x1)), (2, .int (zI x2)), (3, .int (zI y0)), (4, .int (zI (x4 + 1)))] [] σ Q)) : J ω m_En_difference (d + 1) mc ms 0 0 57 [(0, .ref 48), (1, .int (zI x1)), (2, .int (zI x2)), (4, .int (zI x4))] [.int (zI y0)] σ Q := by
  refine j_istore_n (L' := [(3, .int (zI y0)), (0, .ref 48), (1, .int (zI x1)), (2, .int (zI x2)), (4, .int (zI x4))]) d_En_difference_57 (by decide) rfl ?_
  refine zj_iinc (L' := [(4, .int (zI (x4 + 1))), (3, .int (zI y0)), (0, .ref 48), (1, .int (zI x1)), (2, .int (zI x2))]) (x4 + 1) d_En_difference_58 4 rfl (by omega) (by decide) rfl ?_
  refine j_goto 5 d_En_difference_61 (by decide) ?_
  exact j_sel [2, 3, 4, 1, 0] rfl h
