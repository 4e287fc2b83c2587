/-! stretches of bytecode as conditions: M -/
theorem d_M_runWhole_0 : decode m_M_runWhole.2.1 0 = .ok (.iconst 0, 1) := by decide +kernel
theorem d_M_runWhole_1 : decode m_M_runWhole.2.1 1 = .ok (.istore_n 1, 1) := by decide +kernel
theorem d_M_runWhole_2 : decode m_M_runWhole.2.1 2 = .ok (.iload_n 1, 1) := by decide +kernel
theorem d_M_runWhole_3 : decode m_M_runWhole.2.1 3 = .ok (.bipush 16, 2) := by decide +kernel
theorem d_M_runWhole_5 : decode m_M_runWhole.2.1 5 = .ok (.if_icmp .ge 16, 3) := by decide +kernel
theorem d_M_runWhole_8 : decode m_M_runWhole.2.1 8 = .ok (.aload_n 0, 1) := by decide +kernel
theorem d_M_runWhole_9 : decode m_M_runWhole.2.1 9 = .ok (.getfield 123, 3) := by decide +kernel
theorem d_M_runWhole_12 : decode m_M_runWhole.2.1 12 = .ok (.iload_n 1, 1) := by decide +kernel
theorem d_M_runWhole_13 : decode m_M_runWhole.2.1 13 = .ok (.iconst 0, 1) := by decide +kernel
theorem d_M_runWhole_14 : decode m_M_runWhole.2.1 14 = .ok (.iastore, 1) := by decide +kernel
theorem d_M_runWhole_15 : decode m_M_runWhole.2.1 15 = .ok (.iinc 1 1, 3) := by decide +kernel
theorem d_M_runWhole_18 : decode m_M_runWhole.2.1 18 = .ok (.goto (-16), 3) := by decide +kernel
theorem d_M_runWhole_21 : decode m_M_runWhole.2.1 21 = .ok (.aload_n 0, 1) := by decide +kernel
theorem d_M_runWhole_22 : decode m_M_runWhole.2.1 22 = .ok (.iconst (-1), 1) := by decide +kernel
theorem d_M_runWhole_23 : decode m_M_runWhole.2.1 23 = .ok (.putfield 392, 3) := by decide +kernel
theorem d_M_runWhole_26 : decode m_M_runWhole.2.1 26 = .ok (.aload_n 0, 1) := by decide +kernel
theorem d_M_runWhole_27 : decode m_M_runWhole.2.1 27 = .ok (.aload_n 0, 1) := by decide +kernel
theorem d_M_runWhole_28 : decode m_M_runWhole.2.1 28 = .ok (.getfield 351, 3) := by decide +kernel
theorem d_M_runWhole_31 : decode m_M_runWhole.2.1 31 = .ok (.invokevirtual 389, 3) := by decide +kernel
theorem d_M_runWhole_34 : decode m_M_runWhole.2.1 34 = .ok (.ireturn, 1) := by decide +kernel
theorem d_M_go_0 : decode m_M_go.2.1 0 = .ok (.iload_n 1, 1) := by decide +kernel
theorem d_M_go_1 : decode m_M_go.2.1 1 = .ok (.istore_n 2, 1) := by decide +kernel
theorem d_M_go_2 : decode m_M_go.2.1 2 = .ok (.iload_n 2, 1) := by decide +kernel
theorem d_M_go_3 : decode m_M_go.2.1 3 = .ok (.ifCond .lt 25, 3) := by decide +kernel
theorem d_M_go_6 : decode m_M_go.2.1 6 = .ok (.aload_n 0, 1) := by decide +kernel
theorem d_M_go_7 : decode m_M_go.2.1 7 = .ok (.iload_n 2, 1) := by decide +kernel
theorem d_M_go_8 : decode m_M_go.2.1 8 = .ok (.invokevirtual 386, 3) := by decide +kernel
theorem d_M_go_11 : decode m_M_go.2.1 11 = .ok (.istore_n 3, 1) := by decide +kernel
theorem d_M_go_12 : decode m_M_go.2.1 12 = .ok (.iload_n 3, 1) := by decide +kernel
theorem d_M_go_13 : decode m_M_go.2.1 13 = .ok (.ifCond .eq 5, 3) := by decide +kernel
theorem d_M_go_16 : decode m_M_go.2.1 16 = .ok (.iload_n 3, 1) := by decide +kernel
theorem d_M_go_17 : decode m_M_go.2.1 17 = .ok (.ireturn, 1) := by decide +kernel
theorem d_M_go_18 : decode m_M_go.2.1 18 = .ok (.aload_n 0, 1) := by decide +kernel
theorem d_M_go_19 : decode m_M_go.2.1 19 = .ok (.getfield 73, 3) := by decide +kernel
theorem d_M_go_22 : decode m_M_go.2.1 22 = .ok (.iload_n 2, 1) := by decide +kernel
theorem d_M_go_23 : decode m_M_go.2.1 23 = .ok (.iaload, 1) := by decide +kernel
theorem d_M_go_24 : decode m_M_go.2.1 24 = .ok (.istore_n 2, 1) := by decide +kernel
theorem d_M_go_25 : decode m_M_go.2.1 25 = .ok (.goto (-23), 3) := by decide +kernel
theorem d_M_go_28 : decode m_M_go.2.1 28 = .ok (.iconst 0, 1) := by decide +kernel
theorem d_M_go_29 : decode m_M_go.2.1 29 = .ok (.ireturn, 1) := by decide +kernel
theorem d_M_one_0 : decode m_M_one.2.1 0 = .ok (.aload_n 0, 1) := by decide +kernel
theorem d_M_one_1 : decode m_M_one.2.1 1 = .ok (.getfield 61, 3) := by decide +kernel
theorem d_M_one_4 : decode m_M_one.2.1 4 = .ok (.iload_n 1, 1) := by decide +kernel
theorem d_M_one_5 : decode m_M_one.2.1 5 = .ok (.iaload, 1) := by decide +kernel
theorem d_M_one_6 : decode m_M_one.2.1 6 = .ok (.lookupswitch 231 #[(258, 93), (260, 143), (262, 212), (275, 50), (276, 61)], 50) := by decide +kernel
theorem d_M_one_56 : decode m_M_one.2.1 56 = .ok (.aload_n 0, 1) := by decide +kernel
theorem d_M_one_57 : decode m_M_one.2.1 57 = .ok (.aload_n 0, 1) := by decide +kernel
theorem d_M_one_58 : decode m_M_one.2.1 58 = .ok (.getfield 64, 3) := by decide +kernel
theorem d_M_one_61 : decode m_M_one.2.1 61 = .ok (.iload_n 1, 1) := by decide +kernel
theorem d_M_one_62 : decode m_M_one.2.1 62 = .ok (.iaload, 1) := by decide +kernel
theorem d_M_one_63 : decode m_M_one.2.1 63 = .ok (.invokevirtual 389, 3) := by decide +kernel
theorem d_M_one_66 : decode m_M_one.2.1 66 = .ok (.ireturn, 1) := by decide +kernel
theorem d_M_one_67 : decode m_M_one.2.1 67 = .ok (.aload_n 0, 1) := by decide +kernel
theorem d_M_one_68 : decode m_M_one.2.1 68 = .ok (.getfield 123, 3) := by decide +kernel
theorem d_M_one_71 : decode m_M_one.2.1 71 = .ok (.aload_n 0, 1) := by decide +kernel
theorem d_M_one_72 : decode m_M_one.2.1 72 = .ok (.getfield 64, 3) := by decide +kernel
theorem d_M_one_75 : decode m_M_one.2.1 75 = .ok (.iload_n 1, 1) := by decide +kernel
theorem d_M_one_76 : decode m_M_one.2.1 76 = .ok (.iaload, 1) := by decide +kernel
theorem d_M_one_77 : decode m_M_one.2.1 77 = .ok (.aload_n 0, 1) := by decide +kernel
theorem d_M_one_78 : decode m_M_one.2.1 78 = .ok (.aload_n 0, 1) := by decide +kernel
theorem d_M_one_79 : decode m_M_one.2.1 79 = .ok (.getfield 67, 3) := by decide +kernel
theorem d_M_one_82 : decode m_M_one.2.1 82 = .ok (.iload_n 1, 1) := by decide +kernel
theorem d_M_one_83 : decode m_M_one.2.1 83 = .ok (.iaload, 1) := by decide +kernel
theorem d_M_one_84 : decode m_M_one.2.1 84 = .ok (.invokevirtual 378, 3) := by decide +kernel
theorem d_M_one_87 : decode m_M_one.2.1 87 = .ok (.aload_n 0, 1) := by decide +kernel
theorem d_M_one_88 : decode m_M_one.2.1 88 = .ok (.getfield 70, 3) := by decide +kernel
theorem d_M_one_91 : decode m_M_one.2.1 91 = .ok (.iload_n 1, 1) := by decide +kernel
theorem d_M_one_92 : decode m_M_one.2.1 92 = .ok (.iaload, 1) := by decide +kernel
theorem d_M_one_93 : decode m_M_one.2.1 93 = .ok (.invokestatic 384, 3) := by decide +kernel
theorem d_M_one_96 : decode m_M_one.2.1 96 = .ok (.iastore, 1) := by decide +kernel
theorem d_M_one_97 : decode m_M_one.2.1 97 = .ok (.iconst 0, 1) := by decide +kernel
theorem d_M_one_98 : decode m_M_one.2.1 98 = .ok (.ireturn, 1) := by decide +kernel
theorem d_M_one_99 : decode m_M_one.2.1 99 = .ok (.aload_n 0, 1) := by decide +kernel
theorem d_M_one_100 : decode m_M_one.2.1 100 = .ok (.aload_n 0, 1) := by decide +kernel
theorem d_M_one_101 : decode m_M_one.2.1 101 = .ok (.getfield 64, 3) := by decide +kernel
theorem d_M_one_104 : decode m_M_one.2.1 104 = .ok (.iload_n 1, 1) := by decide +kernel
theorem d_M_one_105 : decode m_M_one.2.1 105 = .ok (.iaload, 1) := by decide +kernel
theorem d_M_one_106 : decode m_M_one.2.1 106 = .ok (.invokevirtual 378, 3) := by decide +kernel
theorem d_M_one_109 : decode m_M_one.2.1 109 = .ok (.ifCond .eq 16, 3) := by decide +kernel
theorem d_M_one_112 : decode m_M_one.2.1 112 = .ok (.aload_n 0, 1) := by decide +kernel
theorem d_M_one_113 : decode m_M_one.2.1 113 = .ok (.aload_n 0, 1) := by decide +kernel
theorem d_M_one_114 : decode m_M_one.2.1 114 = .ok (.getfield 67, 3) := by decide +kernel
theorem d_M_one_117 : decode m_M_one.2.1 117 = .ok (.iload_n 1, 1) := by decide +kernel
theorem d_M_one_118 : decode m_M_one.2.1 118 = .ok (.iaload, 1) := by decide +kernel
theorem d_M_one_119 : decode m_M_one.2.1 119 = .ok (.invokevirtual 386, 3) := by decide +kernel
theorem d_M_one_122 : decode m_M_one.2.1 122 = .ok (.goto 26, 3) := by decide +kernel
theorem d_M_one_125 : decode m_M_one.2.1 125 = .ok (.aload_n 0, 1) := by decide +kernel
theorem d_M_one_126 : decode m_M_one.2.1 126 = .ok (.getfield 70, 3) := by decide +kernel
theorem d_M_one_129 : decode m_M_one.2.1 129 = .ok (.iload_n 1, 1) := by decide +kernel
theorem d_M_one_130 : decode m_M_one.2.1 130 = .ok (.iaload, 1) := by decide +kernel
theorem d_M_one_131 : decode m_M_one.2.1 131 = .ok (.ifCond .ge 7, 3) := by decide +kernel
theorem d_M_one_134 : decode m_M_one.2.1 134 = .ok (.iconst 0, 1) := by decide +kernel
theorem d_M_one_135 : decode m_M_one.2.1 135 = .ok (.goto 13, 3) := by decide +kernel
theorem d_M_one_138 : decode m_M_one.2.1 138 = .ok (.aload_n 0, 1) := by decide +kernel
theorem d_M_one_139 : decode m_M_one.2.1 139 = .ok (.aload_n 0, 1) := by decide +kernel
theorem d_M_one_140 : decode m_M_one.2.1 140 = .ok (.getfield 70, 3) := by decide +kernel
theorem d_M_one_143 : decode m_M_one.2.1 143 = .ok (.iload_n 1, 1) := by decide +kernel
theorem d_M_one_144 : decode m_M_one.2.1 144 = .ok (.iaload, 1) := by decide +kernel
theorem d_M_one_145 : decode m_M_one.2.1 145 = .ok (.invokevirtual 386, 3) := by decide +kernel
theorem d_M_one_148 : decode m_M_one.2.1 148 = .ok (.ireturn, 1) := by decide +kernel
theorem d_M_one_149 : decode m_M_one.2.1 149 = .ok (.iconst 0, 1) := by decide +kernel
theorem d_M_one_150 : decode m_M_one.2.1 150 = .ok (.istore_n 2, 1) := by decide +kernel
theorem d_M_one_151 : decode m_M_one.2.1 151 = .ok (.iload_n 2, 1) := by decide +kernel
theorem d_M_one_152 : decode m_M_one.2.1 152 = .ok (.aload_n 0, 1) := by decide +kernel
theorem d_M_one_153 : decode m_M_one.2.1 153 = .ok (.getfield 70, 3) := by decide +kernel
theorem d_M_one_156 : decode m_M_one.2.1 156 = .ok (.iload_n 1, 1) := by decide +kernel
theorem d_M_one_157 : decode m_M_one.2.1 157 = .ok (.iaload, 1) := by decide +kernel
theorem d_M_one_158 : decode m_M_one.2.1 158 = .ok (.if_icmp .ge 41, 3) := by decide +kernel
theorem d_M_one_161 : decode m_M_one.2.1 161 = .ok (.aload_n 0, 1) := by decide +kernel
theorem d_M_one_162 : decode m_M_one.2.1 162 = .ok (.aload_n 0, 1) := by decide +kernel
theorem d_M_one_163 : decode m_M_one.2.1 163 = .ok (.getfield 64, 3) := by decide +kernel
theorem d_M_one_166 : decode m_M_one.2.1 166 = .ok (.iload_n 1, 1) := by decide +kernel
theorem d_M_one_167 : decode m_M_one.2.1 167 = .ok (.iaload, 1) := by decide +kernel
theorem d_M_one_168 : decode m_M_one.2.1 168 = .ok (.invokevirtual 378, 3) := by decide +kernel
theorem d_M_one_171 : decode m_M_one.2.1 171 = .ok (.ifCond .ne 5, 3) := by decide +kernel
theorem d_M_one_174 : decode m_M_one.2.1 174 = .ok (.iconst 0, 1) := by decide +kernel
theorem d_M_one_175 : decode m_M_one.2.1 175 = .ok (.ireturn, 1) := by decide +kernel
theorem d_M_one_176 : decode m_M_one.2.1 176 = .ok (.aload_n 0, 1) := by decide +kernel
theorem d_M_one_177 : decode m_M_one.2.1 177 = .ok (.aload_n 0, 1) := by decide +kernel
theorem d_M_one_178 : decode m_M_one.2.1 178 = .ok (.getfield 67, 3) := by decide +kernel
theorem d_M_one_181 : decode m_M_one.2.1 181 = .ok (.iload_n 1, 1) := by decide +kernel
theorem d_M_one_182 : decode m_M_one.2.1 182 = .ok (.iaload, 1) := by decide +kernel
theorem d_M_one_183 : decode m_M_one.2.1 183 = .ok (.invokevirtual 386, 3) := by decide +kernel
theorem d_M_one_186 : decode m_M_one.2.1 186 = .ok (.istore_n 3, 1) := by decide +kernel
theorem d_M_one_187 : decode m_M_one.2.1 187 = .ok (.iload_n 3, 1) := by decide +kernel
theorem d_M_one_188 : decode m_M_one.2.1 188 = .ok (.ifCond .eq 5, 3) := by decide +kernel
theorem d_M_one_191 : decode m_M_one.2.1 191 = .ok (.iload_n 3, 1) := by decide +kernel
theorem d_M_one_192 : decode m_M_one.2.1 192 = .ok (.ireturn, 1) := by decide +kernel
theorem d_M_one_193 : decode m_M_one.2.1 193 = .ok (.iinc 2 1, 3) := by decide +kernel
theorem d_M_one_196 : decode m_M_one.2.1 196 = .ok (.goto (-45), 3) := by decide +kernel
theorem d_M_one_199 : decode m_M_one.2.1 199 = .ok (.aload_n 0, 1) := by decide +kernel
theorem d_M_one_200 : decode m_M_one.2.1 200 = .ok (.aload_n 0, 1) := by decide +kernel
theorem d_M_one_201 : decode m_M_one.2.1 201 = .ok (.getfield 64, 3) := by decide +kernel
theorem d_M_one_204 : decode m_M_one.2.1 204 = .ok (.iload_n 1, 1) := by decide +kernel
theorem d_M_one_205 : decode m_M_one.2.1 205 = .ok (.iaload, 1) := by decide +kernel
theorem d_M_one_206 : decode m_M_one.2.1 206 = .ok (.invokevirtual 378, 3) := by decide +kernel
theorem d_M_one_209 : decode m_M_one.2.1 209 = .ok (.ifCond .ne 7, 3) := by decide +kernel
theorem d_M_one_212 : decode m_M_one.2.1 212 = .ok (.iconst 0, 1) := by decide +kernel
theorem d_M_one_213 : decode m_M_one.2.1 213 = .ok (.goto 4, 3) := by decide +kernel
theorem d_M_one_216 : decode m_M_one.2.1 216 = .ok (.iconst 2, 1) := by decide +kernel
theorem d_M_one_217 : decode m_M_one.2.1 217 = .ok (.ireturn, 1) := by decide +kernel
theorem d_M_one_218 : decode m_M_one.2.1 218 = .ok (.aload_n 0, 1) := by decide +kernel
theorem d_M_one_219 : decode m_M_one.2.1 219 = .ok (.aload_n 0, 1) := by decide +kernel
theorem d_M_one_220 : decode m_M_one.2.1 220 = .ok (.getfield 64, 3) := by decide +kernel
theorem d_M_one_223 : decode m_M_one.2.1 223 = .ok (.iload_n 1, 1) := by decide +kernel
theorem d_M_one_224 : decode m_M_one.2.1 224 = .ok (.iaload, 1) := by decide +kernel
theorem d_M_one_225 : decode m_M_one.2.1 225 = .ok (.invokevirtual 378, 3) := by decide +kernel
theorem d_M_one_228 : decode m_M_one.2.1 228 = .ok (.ifCond .ne 7, 3) := by decide +kernel
theorem d_M_one_231 : decode m_M_one.2.1 231 = .ok (.iconst 2, 1) := by decide +kernel
theorem d_M_one_232 : decode m_M_one.2.1 232 = .ok (.goto 4, 3) := by decide +kernel
theorem d_M_one_235 : decode m_M_one.2.1 235 = .ok (.iconst 0, 1) := by decide +kernel
theorem d_M_one_236 : decode m_M_one.2.1 236 = .ok (.ireturn, 1) := by decide +kernel
theorem d_M_one_237 : decode m_M_one.2.1 237 = .ok (.aload_n 0, 1) := by decide +kernel
theorem d_M_one_238 : decode m_M_one.2.1 238 = .ok (.aload_n 0, 1) := by decide +kernel
theorem d_M_one_239 : decode m_M_one.2.1 239 = .ok (.getfield 64, 3) := by decide +kernel
theorem d_M_one_242 : decode m_M_one.2.1 242 = .ok (.iload_n 1, 1) := by decide +kernel
theorem d_M_one_243 : decode m_M_one.2.1 243 = .ok (.iaload, 1) := by decide +kernel
theorem d_M_one_244 : decode m_M_one.2.1 244 = .ok (.invokevirtual 378, 3) := by decide +kernel
theorem d_M_one_247 : decode m_M_one.2.1 247 = .ok (.ifCond .eq 5, 3) := by decide +kernel
theorem d_M_one_250 : decode m_M_one.2.1 250 = .ok (.iconst 0, 1) := by decide +kernel
theorem d_M_one_251 : decode m_M_one.2.1 251 = .ok (.ireturn, 1) := by decide +kernel
theorem d_M_one_252 : decode m_M_one.2.1 252 = .ok (.aload_n 0, 1) := by decide +kernel
theorem d_M_one_253 : decode m_M_one.2.1 253 = .ok (.aload_n 0, 1) := by decide +kernel
theorem d_M_one_254 : decode m_M_one.2.1 254 = .ok (.getfield 67, 3) := by decide +kernel
theorem d_M_one_257 : decode m_M_one.2.1 257 = .ok (.iload_n 1, 1) := by decide +kernel
theorem d_M_one_258 : decode m_M_one.2.1 258 = .ok (.iaload, 1) := by decide +kernel
theorem d_M_one_259 : decode m_M_one.2.1 259 = .ok (.putfield 392, 3) := by decide +kernel
theorem d_M_one_262 : decode m_M_one.2.1 262 = .ok (.iconst 1, 1) := by decide +kernel
theorem d_M_one_263 : decode m_M_one.2.1 263 = .ok (.ireturn, 1) := by decide +kernel
theorem d_M_eval_0 : decode m_M_eval.2.1 0 = .ok (.aload_n 0, 1) := by decide +kernel
theorem d_M_eval_1 : decode m_M_eval.2.1 1 = .ok (.getfield 372, 3) := by decide +kernel
theorem d_M_eval_4 : decode m_M_eval.2.1 4 = .ok (.istore_n 2, 1) := by decide +kernel
theorem d_M_eval_5 : decode m_M_eval.2.1 5 = .ok (.iload_n 1, 1) := by decide +kernel
theorem d_M_eval_6 : decode m_M_eval.2.1 6 = .ok (.istore_n 3, 1) := by decide +kernel
theorem d_M_eval_7 : decode m_M_eval.2.1 7 = .ok (.aload_n 0, 1) := by decide +kernel
theorem d_M_eval_8 : decode m_M_eval.2.1 8 = .ok (.iload_n 3, 1) := by decide +kernel
theorem d_M_eval_9 : decode m_M_eval.2.1 9 = .ok (.invokevirtual 305, 3) := by decide +kernel
theorem d_M_eval_12 : decode m_M_eval.2.1 12 = .ok (.ifCond .eq 33, 3) := by decide +kernel
theorem d_M_eval_15 : decode m_M_eval.2.1 15 = .ok (.aload_n 0, 1) := by decide +kernel
theorem d_M_eval_16 : decode m_M_eval.2.1 16 = .ok (.getfield 135, 3) := by decide +kernel
theorem d_M_eval_19 : decode m_M_eval.2.1 19 = .ok (.aload_n 0, 1) := by decide +kernel
theorem d_M_eval_20 : decode m_M_eval.2.1 20 = .ok (.getfield 372, 3) := by decide +kernel
theorem d_M_eval_23 : decode m_M_eval.2.1 23 = .ok (.iload_n 3, 1) := by decide +kernel
theorem d_M_eval_24 : decode m_M_eval.2.1 24 = .ok (.iastore, 1) := by decide +kernel
theorem d_M_eval_25 : decode m_M_eval.2.1 25 = .ok (.aload_n 0, 1) := by decide +kernel
theorem d_M_eval_26 : decode m_M_eval.2.1 26 = .ok (.dup, 1) := by decide +kernel
theorem d_M_eval_27 : decode m_M_eval.2.1 27 = .ok (.getfield 372, 3) := by decide +kernel
theorem d_M_eval_30 : decode m_M_eval.2.1 30 = .ok (.iconst 1, 1) := by decide +kernel
theorem d_M_eval_31 : decode m_M_eval.2.1 31 = .ok (.iadd, 1) := by decide +kernel
theorem d_M_eval_32 : decode m_M_eval.2.1 32 = .ok (.putfield 372, 3) := by decide +kernel
theorem d_M_eval_35 : decode m_M_eval.2.1 35 = .ok (.aload_n 0, 1) := by decide +kernel
theorem d_M_eval_36 : decode m_M_eval.2.1 36 = .ok (.getfield 64, 3) := by decide +kernel
theorem d_M_eval_39 : decode m_M_eval.2.1 39 = .ok (.iload_n 3, 1) := by decide +kernel
theorem d_M_eval_40 : decode m_M_eval.2.1 40 = .ok (.iaload, 1) := by decide +kernel
theorem d_M_eval_41 : decode m_M_eval.2.1 41 = .ok (.istore_n 3, 1) := by decide +kernel
theorem d_M_eval_42 : decode m_M_eval.2.1 42 = .ok (.goto (-35), 3) := by decide +kernel
theorem d_M_eval_45 : decode m_M_eval.2.1 45 = .ok (.aload_n 0, 1) := by decide +kernel
theorem d_M_eval_46 : decode m_M_eval.2.1 46 = .ok (.iload_n 3, 1) := by decide +kernel
theorem d_M_eval_47 : decode m_M_eval.2.1 47 = .ok (.invokevirtual 375, 3) := by decide +kernel
theorem d_M_eval_50 : decode m_M_eval.2.1 50 = .ok (.istore 4, 2) := by decide +kernel
theorem d_M_eval_52 : decode m_M_eval.2.1 52 = .ok (.aload_n 0, 1) := by decide +kernel
theorem d_M_eval_53 : decode m_M_eval.2.1 53 = .ok (.getfield 372, 3) := by decide +kernel
theorem d_M_eval_56 : decode m_M_eval.2.1 56 = .ok (.iload_n 2, 1) := by decide +kernel
theorem d_M_eval_57 : decode m_M_eval.2.1 57 = .ok (.if_icmp .le 59, 3) := by decide +kernel
theorem d_M_eval_60 : decode m_M_eval.2.1 60 = .ok (.aload_n 0, 1) := by decide +kernel
theorem d_M_eval_61 : decode m_M_eval.2.1 61 = .ok (.dup, 1) := by decide +kernel
theorem d_M_eval_62 : decode m_M_eval.2.1 62 = .ok (.getfield 372, 3) := by decide +kernel
theorem d_M_eval_65 : decode m_M_eval.2.1 65 = .ok (.iconst 1, 1) := by decide +kernel
theorem d_M_eval_66 : decode m_M_eval.2.1 66 = .ok (.isub, 1) := by decide +kernel
theorem d_M_eval_67 : decode m_M_eval.2.1 67 = .ok (.putfield 372, 3) := by decide +kernel
theorem d_M_eval_70 : decode m_M_eval.2.1 70 = .ok (.aload_n 0, 1) := by decide +kernel
theorem d_M_eval_71 : decode m_M_eval.2.1 71 = .ok (.getfield 135, 3) := by decide +kernel
theorem d_M_eval_74 : decode m_M_eval.2.1 74 = .ok (.aload_n 0, 1) := by decide +kernel
theorem d_M_eval_75 : decode m_M_eval.2.1 75 = .ok (.getfield 372, 3) := by decide +kernel
theorem d_M_eval_78 : decode m_M_eval.2.1 78 = .ok (.iaload, 1) := by decide +kernel
theorem d_M_eval_79 : decode m_M_eval.2.1 79 = .ok (.istore 5, 2) := by decide +kernel
theorem d_M_eval_81 : decode m_M_eval.2.1 81 = .ok (.aload_n 0, 1) := by decide +kernel
theorem d_M_eval_82 : decode m_M_eval.2.1 82 = .ok (.getfield 61, 3) := by decide +kernel
theorem d_M_eval_85 : decode m_M_eval.2.1 85 = .ok (.iload 5, 2) := by decide +kernel
theorem d_M_eval_87 : decode m_M_eval.2.1 87 = .ok (.iaload, 1) := by decide +kernel
theorem d_M_eval_88 : decode m_M_eval.2.1 88 = .ok (.aload_n 0, 1) := by decide +kernel
theorem d_M_eval_89 : decode m_M_eval.2.1 89 = .ok (.getfield 76, 3) := by decide +kernel
theorem d_M_eval_92 : decode m_M_eval.2.1 92 = .ok (.iload 5, 2) := by decide +kernel
theorem d_M_eval_94 : decode m_M_eval.2.1 94 = .ok (.iaload, 1) := by decide +kernel
theorem d_M_eval_95 : decode m_M_eval.2.1 95 = .ok (.iload 4, 2) := by decide +kernel
theorem d_M_eval_97 : decode m_M_eval.2.1 97 = .ok (.aload_n 0, 1) := by decide +kernel
theorem d_M_eval_98 : decode m_M_eval.2.1 98 = .ok (.aload_n 0, 1) := by decide +kernel
theorem d_M_eval_99 : decode m_M_eval.2.1 99 = .ok (.getfield 67, 3) := by decide +kernel
theorem d_M_eval_102 : decode m_M_eval.2.1 102 = .ok (.iload 5, 2) := by decide +kernel
theorem d_M_eval_104 : decode m_M_eval.2.1 104 = .ok (.iaload, 1) := by decide +kernel
theorem d_M_eval_105 : decode m_M_eval.2.1 105 = .ok (.invokevirtual 378, 3) := by decide +kernel
theorem d_M_eval_108 : decode m_M_eval.2.1 108 = .ok (.invokestatic 381, 3) := by decide +kernel
theorem d_M_eval_111 : decode m_M_eval.2.1 111 = .ok (.istore 4, 2) := by decide +kernel
theorem d_M_eval_113 : decode m_M_eval.2.1 113 = .ok (.goto (-61), 3) := by decide +kernel
theorem d_M_eval_116 : decode m_M_eval.2.1 116 = .ok (.iload 4, 2) := by decide +kernel
theorem d_M_eval_118 : decode m_M_eval.2.1 118 = .ok (.ireturn, 1) := by decide +kernel
theorem d_M_other_0 : decode m_M_other.2.1 0 = .ok (.aload_n 0, 1) := by decide +kernel
theorem d_M_other_1 : decode m_M_other.2.1 1 = .ok (.getfield 76, 3) := by decide +kernel
theorem d_M_other_4 : decode m_M_other.2.1 4 = .ok (.iload_n 1, 1) := by decide +kernel
theorem d_M_other_5 : decode m_M_other.2.1 5 = .ok (.iaload, 1) := by decide +kernel
theorem d_M_other_6 : decode m_M_other.2.1 6 = .ok (.istore_n 2, 1) := by decide +kernel
theorem d_M_other_7 : decode m_M_other.2.1 7 = .ok (.aload_n 0, 1) := by decide +kernel
theorem d_M_other_8 : decode m_M_other.2.1 8 = .ok (.getfield 61, 3) := by decide +kernel
theorem d_M_other_11 : decode m_M_other.2.1 11 = .ok (.iload_n 1, 1) := by decide +kernel
theorem d_M_other_12 : decode m_M_other.2.1 12 = .ok (.iaload, 1) := by decide +kernel
theorem d_M_other_13 : decode m_M_other.2.1 13 = .ok (.lookupswitch 167 #[(33, 131), (126, 150), (263, 58), (264, 51), (277, 94)], 51) := by decide +kernel
theorem d_M_other_64 : decode m_M_other.2.1 64 = .ok (.aload_n 0, 1) := by decide +kernel
theorem d_M_other_65 : decode m_M_other.2.1 65 = .ok (.getfield 64, 3) := by decide +kernel
theorem d_M_other_68 : decode m_M_other.2.1 68 = .ok (.iload_n 1, 1) := by decide +kernel
theorem d_M_other_69 : decode m_M_other.2.1 69 = .ok (.iaload, 1) := by decide +kernel
theorem d_M_other_70 : decode m_M_other.2.1 70 = .ok (.ireturn, 1) := by decide +kernel
theorem d_M_other_71 : decode m_M_other.2.1 71 = .ok (.aload_n 0, 1) := by decide +kernel
theorem d_M_other_72 : decode m_M_other.2.1 72 = .ok (.getfield 67, 3) := by decide +kernel
theorem d_M_other_75 : decode m_M_other.2.1 75 = .ok (.iload_n 1, 1) := by decide +kernel
theorem d_M_other_76 : decode m_M_other.2.1 76 = .ok (.iaload, 1) := by decide +kernel
theorem d_M_other_77 : decode m_M_other.2.1 77 = .ok (.iconst 1, 1) := by decide +kernel
theorem d_M_other_78 : decode m_M_other.2.1 78 = .ok (.if_icmp .ne 17, 3) := by decide +kernel
theorem d_M_other_81 : decode m_M_other.2.1 81 = .ok (.aload_n 0, 1) := by decide +kernel
theorem d_M_other_82 : decode m_M_other.2.1 82 = .ok (.getfield 114, 3) := by decide +kernel
theorem d_M_other_85 : decode m_M_other.2.1 85 = .ok (.aload_n 0, 1) := by decide +kernel
theorem d_M_other_86 : decode m_M_other.2.1 86 = .ok (.getfield 64, 3) := by decide +kernel
theorem d_M_other_89 : decode m_M_other.2.1 89 = .ok (.iload_n 1, 1) := by decide +kernel
theorem d_M_other_90 : decode m_M_other.2.1 90 = .ok (.iaload, 1) := by decide +kernel
theorem d_M_other_91 : decode m_M_other.2.1 91 = .ok (.iaload, 1) := by decide +kernel
theorem d_M_other_92 : decode m_M_other.2.1 92 = .ok (.goto 14, 3) := by decide +kernel
theorem d_M_other_95 : decode m_M_other.2.1 95 = .ok (.aload_n 0, 1) := by decide +kernel
theorem d_M_other_96 : decode m_M_other.2.1 96 = .ok (.getfield 123, 3) := by decide +kernel
theorem d_M_other_99 : decode m_M_other.2.1 99 = .ok (.aload_n 0, 1) := by decide +kernel
theorem d_M_other_100 : decode m_M_other.2.1 100 = .ok (.getfield 64, 3) := by decide +kernel
theorem d_M_other_103 : decode m_M_other.2.1 103 = .ok (.iload_n 1, 1) := by decide +kernel
theorem d_M_other_104 : decode m_M_other.2.1 104 = .ok (.iaload, 1) := by decide +kernel
theorem d_M_other_105 : decode m_M_other.2.1 105 = .ok (.iaload, 1) := by decide +kernel
theorem d_M_other_106 : decode m_M_other.2.1 106 = .ok (.ireturn, 1) := by decide +kernel
theorem d_M_other_107 : decode m_M_other.2.1 107 = .ok (.aload_n 0, 1) := by decide +kernel
theorem d_M_other_108 : decode m_M_other.2.1 108 = .ok (.aload_n 0, 1) := by decide +kernel
theorem d_M_other_109 : decode m_M_other.2.1 109 = .ok (.getfield 64, 3) := by decide +kernel
theorem d_M_other_112 : decode m_M_other.2.1 112 = .ok (.iload_n 1, 1) := by decide +kernel
theorem d_M_other_113 : decode m_M_other.2.1 113 = .ok (.iaload, 1) := by decide +kernel
theorem d_M_other_114 : decode m_M_other.2.1 114 = .ok (.invokevirtual 378, 3) := by decide +kernel
theorem d_M_other_117 : decode m_M_other.2.1 117 = .ok (.ifCond .eq 16, 3) := by decide +kernel
theorem d_M_other_120 : decode m_M_other.2.1 120 = .ok (.aload_n 0, 1) := by decide +kernel
theorem d_M_other_121 : decode m_M_other.2.1 121 = .ok (.aload_n 0, 1) := by decide +kernel
theorem d_M_other_122 : decode m_M_other.2.1 122 = .ok (.getfield 67, 3) := by decide +kernel
theorem d_M_other_125 : decode m_M_other.2.1 125 = .ok (.iload_n 1, 1) := by decide +kernel
theorem d_M_other_126 : decode m_M_other.2.1 126 = .ok (.iaload, 1) := by decide +kernel
theorem d_M_other_127 : decode m_M_other.2.1 127 = .ok (.invokevirtual 378, 3) := by decide +kernel
theorem d_M_other_130 : decode m_M_other.2.1 130 = .ok (.goto 13, 3) := by decide +kernel
theorem d_M_other_133 : decode m_M_other.2.1 133 = .ok (.aload_n 0, 1) := by decide +kernel
theorem d_M_other_134 : decode m_M_other.2.1 134 = .ok (.aload_n 0, 1) := by decide +kernel
theorem d_M_other_135 : decode m_M_other.2.1 135 = .ok (.getfield 70, 3) := by decide +kernel
theorem d_M_other_138 : decode m_M_other.2.1 138 = .ok (.iload_n 1, 1) := by decide +kernel
theorem d_M_other_139 : decode m_M_other.2.1 139 = .ok (.iaload, 1) := by decide +kernel
theorem d_M_other_140 : decode m_M_other.2.1 140 = .ok (.invokevirtual 378, 3) := by decide +kernel
theorem d_M_other_143 : decode m_M_other.2.1 143 = .ok (.ireturn, 1) := by decide +kernel
theorem d_M_other_144 : decode m_M_other.2.1 144 = .ok (.aload_n 0, 1) := by decide +kernel
theorem d_M_other_145 : decode m_M_other.2.1 145 = .ok (.aload_n 0, 1) := by decide +kernel
theorem d_M_other_146 : decode m_M_other.2.1 146 = .ok (.getfield 64, 3) := by decide +kernel
theorem d_M_other_149 : decode m_M_other.2.1 149 = .ok (.iload_n 1, 1) := by decide +kernel
theorem d_M_other_150 : decode m_M_other.2.1 150 = .ok (.iaload, 1) := by decide +kernel
theorem d_M_other_151 : decode m_M_other.2.1 151 = .ok (.invokevirtual 378, 3) := by decide +kernel
theorem d_M_other_154 : decode m_M_other.2.1 154 = .ok (.ifCond .ne 7, 3) := by decide +kernel
theorem d_M_other_157 : decode m_M_other.2.1 157 = .ok (.iconst 1, 1) := by decide +kernel
theorem d_M_other_158 : decode m_M_other.2.1 158 = .ok (.goto 4, 3) := by decide +kernel
theorem d_M_other_161 : decode m_M_other.2.1 161 = .ok (.iconst 0, 1) := by decide +kernel
theorem d_M_other_162 : decode m_M_other.2.1 162 = .ok (.ireturn, 1) := by decide +kernel
theorem d_M_other_163 : decode m_M_other.2.1 163 = .ok (.aload_n 0, 1) := by decide +kernel
theorem d_M_other_164 : decode m_M_other.2.1 164 = .ok (.aload_n 0, 1) := by decide +kernel
theorem d_M_other_165 : decode m_M_other.2.1 165 = .ok (.getfield 64, 3) := by decide +kernel
theorem d_M_other_168 : decode m_M_other.2.1 168 = .ok (.iload_n 1, 1) := by decide +kernel
theorem d_M_other_169 : decode m_M_other.2.1 169 = .ok (.iaload, 1) := by decide +kernel
theorem d_M_other_170 : decode m_M_other.2.1 170 = .ok (.invokevirtual 378, 3) := by decide +kernel
theorem d_M_other_173 : decode m_M_other.2.1 173 = .ok (.iconst (-1), 1) := by decide +kernel
theorem d_M_other_174 : decode m_M_other.2.1 174 = .ok (.ixor, 1) := by decide +kernel
theorem d_M_other_175 : decode m_M_other.2.1 175 = .ok (.iload_n 2, 1) := by decide +kernel
theorem d_M_other_176 : decode m_M_other.2.1 176 = .ok (.invokestatic 384, 3) := by decide +kernel
theorem d_M_other_179 : decode m_M_other.2.1 179 = .ok (.ireturn, 1) := by decide +kernel
theorem d_M_other_180 : decode m_M_other.2.1 180 = .ok (.aload_n 0, 1) := by decide +kernel
theorem d_M_other_181 : decode m_M_other.2.1 181 = .ok (.aload_n 0, 1) := by decide +kernel
theorem d_M_other_182 : decode m_M_other.2.1 182 = .ok (.getfield 64, 3) := by decide +kernel
theorem d_M_other_185 : decode m_M_other.2.1 185 = .ok (.iload_n 1, 1) := by decide +kernel
theorem d_M_other_186 : decode m_M_other.2.1 186 = .ok (.iaload, 1) := by decide +kernel
theorem d_M_other_187 : decode m_M_other.2.1 187 = .ok (.invokevirtual 378, 3) := by decide +kernel
theorem d_M_other_190 : decode m_M_other.2.1 190 = .ok (.ineg, 1) := by decide +kernel
theorem d_M_other_191 : decode m_M_other.2.1 191 = .ok (.iload_n 2, 1) := by decide +kernel
theorem d_M_other_192 : decode m_M_other.2.1 192 = .ok (.invokestatic 384, 3) := by decide +kernel
theorem d_M_other_195 : decode m_M_other.2.1 195 = .ok (.ireturn, 1) := by decide +kernel
theorem d_M_two_0 : decode m_M_two.2.1 0 = .ok (.iload_n 0, 1) := by decide +kernel
theorem d_M_two_1 : decode m_M_two.2.1 1 = .ok (.lookupswitch 321 #[(37, 187), (38, 199), (42, 163), (43, 147), (45, 155), (47, 171), (60, 263), (62, 285), (94, 207), (124, 203), (265, 241), (266, 252), (267, 274), (268, 296), (269, 211), (270, 228), (271, 307)], 147) := by decide +kernel
theorem d_M_two_148 : decode m_M_two.2.1 148 = .ok (.iload_n 2, 1) := by decide +kernel
theorem d_M_two_149 : decode m_M_two.2.1 149 = .ok (.iload_n 3, 1) := by decide +kernel
theorem d_M_two_150 : decode m_M_two.2.1 150 = .ok (.iadd, 1) := by decide +kernel
theorem d_M_two_151 : decode m_M_two.2.1 151 = .ok (.iload_n 1, 1) := by decide +kernel
theorem d_M_two_152 : decode m_M_two.2.1 152 = .ok (.invokestatic 384, 3) := by decide +kernel
theorem d_M_two_155 : decode m_M_two.2.1 155 = .ok (.ireturn, 1) := by decide +kernel
theorem d_M_two_156 : decode m_M_two.2.1 156 = .ok (.iload_n 2, 1) := by decide +kernel
theorem d_M_two_157 : decode m_M_two.2.1 157 = .ok (.iload_n 3, 1) := by decide +kernel
theorem d_M_two_158 : decode m_M_two.2.1 158 = .ok (.isub, 1) := by decide +kernel
theorem d_M_two_159 : decode m_M_two.2.1 159 = .ok (.iload_n 1, 1) := by decide +kernel
theorem d_M_two_160 : decode m_M_two.2.1 160 = .ok (.invokestatic 384, 3) := by decide +kernel
theorem d_M_two_163 : decode m_M_two.2.1 163 = .ok (.ireturn, 1) := by decide +kernel
theorem d_M_two_164 : decode m_M_two.2.1 164 = .ok (.iload_n 2, 1) := by decide +kernel
theorem d_M_two_165 : decode m_M_two.2.1 165 = .ok (.iload_n 3, 1) := by decide +kernel
theorem d_M_two_166 : decode m_M_two.2.1 166 = .ok (.imul, 1) := by decide +kernel
theorem d_M_two_167 : decode m_M_two.2.1 167 = .ok (.iload_n 1, 1) := by decide +kernel
theorem d_M_two_168 : decode m_M_two.2.1 168 = .ok (.invokestatic 384, 3) := by decide +kernel
theorem d_M_two_171 : decode m_M_two.2.1 171 = .ok (.ireturn, 1) := by decide +kernel
theorem d_M_two_172 : decode m_M_two.2.1 172 = .ok (.iload_n 3, 1) := by decide +kernel
theorem d_M_two_173 : decode m_M_two.2.1 173 = .ok (.ifCond .ne 11, 3) := by decide +kernel
theorem d_M_two_176 : decode m_M_two.2.1 176 = .ok (.iconst (-1), 1) := by decide +kernel
theorem d_M_two_177 : decode m_M_two.2.1 177 = .ok (.iload_n 1, 1) := by decide +kernel
theorem d_M_two_178 : decode m_M_two.2.1 178 = .ok (.invokestatic 384, 3) := by decide +kernel
theorem d_M_two_181 : decode m_M_two.2.1 181 = .ok (.goto 6, 3) := by decide +kernel
theorem d_M_two_184 : decode m_M_two.2.1 184 = .ok (.iload_n 2, 1) := by decide +kernel
theorem d_M_two_185 : decode m_M_two.2.1 185 = .ok (.iload_n 3, 1) := by decide +kernel
theorem d_M_two_186 : decode m_M_two.2.1 186 = .ok (.idiv, 1) := by decide +kernel
theorem d_M_two_187 : decode m_M_two.2.1 187 = .ok (.ireturn, 1) := by decide +kernel
theorem d_M_two_188 : decode m_M_two.2.1 188 = .ok (.iload_n 3, 1) := by decide +kernel
theorem d_M_two_189 : decode m_M_two.2.1 189 = .ok (.ifCond .ne 7, 3) := by decide +kernel
theorem d_M_two_192 : decode m_M_two.2.1 192 = .ok (.iload_n 2, 1) := by decide +kernel
theorem d_M_two_193 : decode m_M_two.2.1 193 = .ok (.goto 6, 3) := by decide +kernel
theorem d_M_two_196 : decode m_M_two.2.1 196 = .ok (.iload_n 2, 1) := by decide +kernel
theorem d_M_two_197 : decode m_M_two.2.1 197 = .ok (.iload_n 3, 1) := by decide +kernel
theorem d_M_two_198 : decode m_M_two.2.1 198 = .ok (.irem, 1) := by decide +kernel
theorem d_M_two_199 : decode m_M_two.2.1 199 = .ok (.ireturn, 1) := by decide +kernel
theorem d_M_two_200 : decode m_M_two.2.1 200 = .ok (.iload_n 2, 1) := by decide +kernel
theorem d_M_two_201 : decode m_M_two.2.1 201 = .ok (.iload_n 3, 1) := by decide +kernel
theorem d_M_two_202 : decode m_M_two.2.1 202 = .ok (.iand, 1) := by decide +kernel
theorem d_M_two_203 : decode m_M_two.2.1 203 = .ok (.ireturn, 1) := by decide +kernel
theorem d_M_two_204 : decode m_M_two.2.1 204 = .ok (.iload_n 2, 1) := by decide +kernel
theorem d_M_two_205 : decode m_M_two.2.1 205 = .ok (.iload_n 3, 1) := by decide +kernel
theorem d_M_two_206 : decode m_M_two.2.1 206 = .ok (.ior, 1) := by decide +kernel
theorem d_M_two_207 : decode m_M_two.2.1 207 = .ok (.ireturn, 1) := by decide +kernel
theorem d_M_two_208 : decode m_M_two.2.1 208 = .ok (.iload_n 2, 1) := by decide +kernel
theorem d_M_two_209 : decode m_M_two.2.1 209 = .ok (.iload_n 3, 1) := by decide +kernel
theorem d_M_two_210 : decode m_M_two.2.1 210 = .ok (.ixor, 1) := by decide +kernel
theorem d_M_two_211 : decode m_M_two.2.1 211 = .ok (.ireturn, 1) := by decide +kernel
theorem d_M_two_212 : decode m_M_two.2.1 212 = .ok (.iload_n 3, 1) := by decide +kernel
theorem d_M_two_213 : decode m_M_two.2.1 213 = .ok (.iload_n 1, 1) := by decide +kernel
theorem d_M_two_214 : decode m_M_two.2.1 214 = .ok (.if_icmp .lt 7, 3) := by decide +kernel
theorem d_M_two_217 : decode m_M_two.2.1 217 = .ok (.iconst 0, 1) := by decide +kernel
theorem d_M_two_218 : decode m_M_two.2.1 218 = .ok (.goto 10, 3) := by decide +kernel
theorem d_M_two_221 : decode m_M_two.2.1 221 = .ok (.iload_n 2, 1) := by decide +kernel
theorem d_M_two_222 : decode m_M_two.2.1 222 = .ok (.iload_n 3, 1) := by decide +kernel
theorem d_M_two_223 : decode m_M_two.2.1 223 = .ok (.ishl, 1) := by decide +kernel
theorem d_M_two_224 : decode m_M_two.2.1 224 = .ok (.iload_n 1, 1) := by decide +kernel
theorem d_M_two_225 : decode m_M_two.2.1 225 = .ok (.invokestatic 384, 3) := by decide +kernel
theorem d_M_two_228 : decode m_M_two.2.1 228 = .ok (.ireturn, 1) := by decide +kernel
theorem d_M_two_229 : decode m_M_two.2.1 229 = .ok (.iload_n 3, 1) := by decide +kernel
theorem d_M_two_230 : decode m_M_two.2.1 230 = .ok (.iload_n 1, 1) := by decide +kernel
theorem d_M_two_231 : decode m_M_two.2.1 231 = .ok (.if_icmp .lt 7, 3) := by decide +kernel
theorem d_M_two_234 : decode m_M_two.2.1 234 = .ok (.iconst 0, 1) := by decide +kernel
theorem d_M_two_235 : decode m_M_two.2.1 235 = .ok (.goto 6, 3) := by decide +kernel
theorem d_M_two_238 : decode m_M_two.2.1 238 = .ok (.iload_n 2, 1) := by decide +kernel
theorem d_M_two_239 : decode m_M_two.2.1 239 = .ok (.iload_n 3, 1) := by decide +kernel
theorem d_M_two_240 : decode m_M_two.2.1 240 = .ok (.ishr, 1) := by decide +kernel
theorem d_M_two_241 : decode m_M_two.2.1 241 = .ok (.ireturn, 1) := by decide +kernel
theorem d_M_two_242 : decode m_M_two.2.1 242 = .ok (.iload_n 2, 1) := by decide +kernel
theorem d_M_two_243 : decode m_M_two.2.1 243 = .ok (.iload_n 3, 1) := by decide +kernel
theorem d_M_two_244 : decode m_M_two.2.1 244 = .ok (.if_icmp .ne 7, 3) := by decide +kernel
theorem d_M_two_247 : decode m_M_two.2.1 247 = .ok (.iconst 1, 1) := by decide +kernel
theorem d_M_two_248 : decode m_M_two.2.1 248 = .ok (.goto 4, 3) := by decide +kernel
theorem d_M_two_251 : decode m_M_two.2.1 251 = .ok (.iconst 0, 1) := by decide +kernel
theorem d_M_two_252 : decode m_M_two.2.1 252 = .ok (.ireturn, 1) := by decide +kernel
theorem d_M_two_253 : decode m_M_two.2.1 253 = .ok (.iload_n 2, 1) := by decide +kernel
theorem d_M_two_254 : decode m_M_two.2.1 254 = .ok (.iload_n 3, 1) := by decide +kernel
theorem d_M_two_255 : decode m_M_two.2.1 255 = .ok (.if_icmp .eq 7, 3) := by decide +kernel
theorem d_M_two_258 : decode m_M_two.2.1 258 = .ok (.iconst 1, 1) := by decide +kernel
theorem d_M_two_259 : decode m_M_two.2.1 259 = .ok (.goto 4, 3) := by decide +kernel
theorem d_M_two_262 : decode m_M_two.2.1 262 = .ok (.iconst 0, 1) := by decide +kernel
theorem d_M_two_263 : decode m_M_two.2.1 263 = .ok (.ireturn, 1) := by decide +kernel
theorem d_M_two_264 : decode m_M_two.2.1 264 = .ok (.iload_n 2, 1) := by decide +kernel
theorem d_M_two_265 : decode m_M_two.2.1 265 = .ok (.iload_n 3, 1) := by decide +kernel
theorem d_M_two_266 : decode m_M_two.2.1 266 = .ok (.if_icmp .ge 7, 3) := by decide +kernel
theorem d_M_two_269 : decode m_M_two.2.1 269 = .ok (.iconst 1, 1) := by decide +kernel
theorem d_M_two_270 : decode m_M_two.2.1 270 = .ok (.goto 4, 3) := by decide +kernel
theorem d_M_two_273 : decode m_M_two.2.1 273 = .ok (.iconst 0, 1) := by decide +kernel
theorem d_M_two_274 : decode m_M_two.2.1 274 = .ok (.ireturn, 1) := by decide +kernel
theorem d_M_two_275 : decode m_M_two.2.1 275 = .ok (.iload_n 2, 1) := by decide +kernel
theorem d_M_two_276 : decode m_M_two.2.1 276 = .ok (.iload_n 3, 1) := by decide +kernel
theorem d_M_two_277 : decode m_M_two.2.1 277 = .ok (.if_icmp .gt 7, 3) := by decide +kernel
theorem d_M_two_280 : decode m_M_two.2.1 280 = .ok (.iconst 1, 1) := by decide +kernel
theorem d_M_two_281 : decode m_M_two.2.1 281 = .ok (.goto 4, 3) := by decide +kernel
theorem d_M_two_284 : decode m_M_two.2.1 284 = .ok (.iconst 0, 1) := by decide +kernel
theorem d_M_two_285 : decode m_M_two.2.1 285 = .ok (.ireturn, 1) := by decide +kernel
theorem d_M_two_286 : decode m_M_two.2.1 286 = .ok (.iload_n 2, 1) := by decide +kernel
theorem d_M_two_287 : decode m_M_two.2.1 287 = .ok (.iload_n 3, 1) := by decide +kernel
theorem d_M_two_288 : decode m_M_two.2.1 288 = .ok (.if_icmp .le 7, 3) := by decide +kernel
theorem d_M_two_291 : decode m_M_two.2.1 291 = .ok (.iconst 1, 1) := by decide +kernel
theorem d_M_two_292 : decode m_M_two.2.1 292 = .ok (.goto 4, 3) := by decide +kernel
theorem d_M_two_295 : decode m_M_two.2.1 295 = .ok (.iconst 0, 1) := by decide +kernel
theorem d_M_two_296 : decode m_M_two.2.1 296 = .ok (.ireturn, 1) := by decide +kernel
theorem d_M_two_297 : decode m_M_two.2.1 297 = .ok (.iload_n 2, 1) := by decide +kernel
theorem d_M_two_298 : decode m_M_two.2.1 298 = .ok (.iload_n 3, 1) := by decide +kernel
theorem d_M_two_299 : decode m_M_two.2.1 299 = .ok (.if_icmp .lt 7, 3) := by decide +kernel
theorem d_M_two_302 : decode m_M_two.2.1 302 = .ok (.iconst 1, 1) := by decide +kernel
theorem d_M_two_303 : decode m_M_two.2.1 303 = .ok (.goto 4, 3) := by decide +kernel
theorem d_M_two_306 : decode m_M_two.2.1 306 = .ok (.iconst 0, 1) := by decide +kernel
theorem d_M_two_307 : decode m_M_two.2.1 307 = .ok (.ireturn, 1) := by decide +kernel
theorem d_M_two_308 : decode m_M_two.2.1 308 = .ok (.iload_n 2, 1) := by decide +kernel
theorem d_M_two_309 : decode m_M_two.2.1 309 = .ok (.ifCond .eq 11, 3) := by decide +kernel
theorem d_M_two_312 : decode m_M_two.2.1 312 = .ok (.iload_n 3, 1) := by decide +kernel
theorem d_M_two_313 : decode m_M_two.2.1 313 = .ok (.ifCond .eq 7, 3) := by decide +kernel
theorem d_M_two_316 : decode m_M_two.2.1 316 = .ok (.iconst 1, 1) := by decide +kernel
theorem d_M_two_317 : decode m_M_two.2.1 317 = .ok (.goto 4, 3) := by decide +kernel
theorem d_M_two_320 : decode m_M_two.2.1 320 = .ok (.iconst 0, 1) := by decide +kernel
theorem d_M_two_321 : decode m_M_two.2.1 321 = .ok (.ireturn, 1) := by decide +kernel
theorem d_M_two_322 : decode m_M_two.2.1 322 = .ok (.iload_n 2, 1) := by decide +kernel
theorem d_M_two_323 : decode m_M_two.2.1 323 = .ok (.ifCond .ne 7, 3) := by decide +kernel
theorem d_M_two_326 : decode m_M_two.2.1 326 = .ok (.iload_n 3, 1) := by decide +kernel
theorem d_M_two_327 : decode m_M_two.2.1 327 = .ok (.ifCond .eq 7, 3) := by decide +kernel
theorem d_M_two_330 : decode m_M_two.2.1 330 = .ok (.iconst 1, 1) := by decide +kernel
theorem d_M_two_331 : decode m_M_two.2.1 331 = .ok (.goto 4, 3) := by decide +kernel
theorem d_M_two_334 : decode m_M_two.2.1 334 = .ok (.iconst 0, 1) := by decide +kernel
theorem d_M_two_335 : decode m_M_two.2.1 335 = .ok (.ireturn, 1) := by decide +kernel
theorem d_M_asked_0 : decode m_M_asked.2.1 0 = .ok (.aload_n 0, 1) := by decide +kernel
theorem d_M_asked_1 : decode m_M_asked.2.1 1 = .ok (.iconst 0, 1) := by decide +kernel
theorem d_M_asked_2 : decode m_M_asked.2.1 2 = .ok (.putfield 141, 3) := by decide +kernel
theorem d_M_asked_5 : decode m_M_asked.2.1 5 = .ok (.aload_n 0, 1) := by decide +kernel
theorem d_M_asked_6 : decode m_M_asked.2.1 6 = .ok (.iload_n 1, 1) := by decide +kernel
theorem d_M_asked_7 : decode m_M_asked.2.1 7 = .ok (.putfield 129, 3) := by decide +kernel
theorem d_M_asked_10 : decode m_M_asked.2.1 10 = .ok (.iload_n 1, 1) := by decide +kernel
theorem d_M_asked_11 : decode m_M_asked.2.1 11 = .ok (.ifCond .ge 7, 3) := by decide +kernel
theorem d_M_asked_14 : decode m_M_asked.2.1 14 = .ok (.iconst 0, 1) := by decide +kernel
theorem d_M_asked_15 : decode m_M_asked.2.1 15 = .ok (.goto 4, 3) := by decide +kernel
theorem d_M_asked_18 : decode m_M_asked.2.1 18 = .ok (.iconst 1, 1) := by decide +kernel
theorem d_M_asked_19 : decode m_M_asked.2.1 19 = .ok (.ireturn, 1) := by decide +kernel
theorem d_M_failsAt_13 : decode m_M_failsAt.2.1 13 = .ok (.iload_n 1, 1) := by decide +kernel
theorem d_M_failsAt_14 : decode m_M_failsAt.2.1 14 = .ok (.ifCond .lt 11, 3) := by decide +kernel
theorem d_M_failsAt_17 : decode m_M_failsAt.2.1 17 = .ok (.iload_n 1, 1) := by decide +kernel
theorem d_M_failsAt_18 : decode m_M_failsAt.2.1 18 = .ok (.aload_n 0, 1) := by decide +kernel
theorem d_M_failsAt_19 : decode m_M_failsAt.2.1 19 = .ok (.getfield 363, 3) := by decide +kernel
theorem d_M_failsAt_22 : decode m_M_failsAt.2.1 22 = .ok (.if_icmp .lt 9, 3) := by decide +kernel
theorem d_M_failsAt_25 : decode m_M_failsAt.2.1 25 = .ok (.aload_n 0, 1) := by decide +kernel
theorem d_M_failsAt_26 : decode m_M_failsAt.2.1 26 = .ok (.iconst 2, 1) := by decide +kernel
theorem d_M_failsAt_27 : decode m_M_failsAt.2.1 27 = .ok (.invokevirtual 147, 3) := by decide +kernel
theorem d_M_failsAt_30 : decode m_M_failsAt.2.1 30 = .ok (.ireturn, 1) := by decide +kernel
theorem d_M_failsAt_31 : decode m_M_failsAt.2.1 31 = .ok (.iconst 0, 1) := by decide +kernel
theorem d_M_failsAt_32 : decode m_M_failsAt.2.1 32 = .ok (.istore_n 2, 1) := by decide +kernel
theorem d_M_failsAt_33 : decode m_M_failsAt.2.1 33 = .ok (.iload_n 2, 1) := by decide +kernel
theorem d_M_failsAt_34 : decode m_M_failsAt.2.1 34 = .ok (.iconst 1, 1) := by decide +kernel
theorem d_M_failsAt_35 : decode m_M_failsAt.2.1 35 = .ok (.aload_n 0, 1) := by decide +kernel
theorem d_M_failsAt_36 : decode m_M_failsAt.2.1 36 = .ok (.getfield 366, 3) := by decide +kernel
theorem d_M_failsAt_39 : decode m_M_failsAt.2.1 39 = .ok (.ishl, 1) := by decide +kernel
theorem d_M_failsAt_40 : decode m_M_failsAt.2.1 40 = .ok (.if_icmp .ge 35, 3) := by decide +kernel
theorem d_M_failsAt_43 : decode m_M_failsAt.2.1 43 = .ok (.aload_n 0, 1) := by decide +kernel
theorem d_M_failsAt_44 : decode m_M_failsAt.2.1 44 = .ok (.getfield 104, 3) := by decide +kernel
theorem d_M_failsAt_47 : decode m_M_failsAt.2.1 47 = .ok (.iload_n 2, 1) := by decide +kernel
theorem d_M_failsAt_48 : decode m_M_failsAt.2.1 48 = .ok (.baload, 1) := by decide +kernel
theorem d_M_failsAt_49 : decode m_M_failsAt.2.1 49 = .ok (.iconst 1, 1) := by decide +kernel
theorem d_M_failsAt_50 : decode m_M_failsAt.2.1 50 = .ok (.if_icmp .ne 19, 3) := by decide +kernel
theorem d_M_failsAt_53 : decode m_M_failsAt.2.1 53 = .ok (.aload_n 0, 1) := by decide +kernel
theorem d_M_failsAt_54 : decode m_M_failsAt.2.1 54 = .ok (.getfield 138, 3) := by decide +kernel
theorem d_M_failsAt_57 : decode m_M_failsAt.2.1 57 = .ok (.iload_n 2, 1) := by decide +kernel
theorem d_M_failsAt_58 : decode m_M_failsAt.2.1 58 = .ok (.iaload, 1) := by decide +kernel
theorem d_M_failsAt_59 : decode m_M_failsAt.2.1 59 = .ok (.iload_n 1, 1) := by decide +kernel
theorem d_M_failsAt_60 : decode m_M_failsAt.2.1 60 = .ok (.if_icmp .ne 9, 3) := by decide +kernel
theorem d_M_failsAt_63 : decode m_M_failsAt.2.1 63 = .ok (.aload_n 0, 1) := by decide +kernel
theorem d_M_failsAt_64 : decode m_M_failsAt.2.1 64 = .ok (.iload_n 2, 1) := by decide +kernel
theorem d_M_failsAt_65 : decode m_M_failsAt.2.1 65 = .ok (.invokevirtual 406, 3) := by decide +kernel
theorem d_M_failsAt_68 : decode m_M_failsAt.2.1 68 = .ok (.ireturn, 1) := by decide +kernel
theorem d_M_failsAt_69 : decode m_M_failsAt.2.1 69 = .ok (.iinc 2 1, 3) := by decide +kernel
theorem d_M_failsAt_72 : decode m_M_failsAt.2.1 72 = .ok (.goto (-39), 3) := by decide +kernel
theorem d_M_failsAt_75 : decode m_M_failsAt.2.1 75 = .ok (.aload_n 0, 1) := by decide +kernel
theorem d_M_failsAt_76 : decode m_M_failsAt.2.1 76 = .ok (.iconst (-1), 1) := by decide +kernel
theorem d_M_failsAt_77 : decode m_M_failsAt.2.1 77 = .ok (.invokevirtual 406, 3) := by decide +kernel
theorem d_M_failsAt_80 : decode m_M_failsAt.2.1 80 = .ok (.ireturn, 1) := by decide +kernel
theorem d_M_extreme_13 : decode m_M_extreme.2.1 13 = .ok (.aload_n 0, 1) := by decide +kernel
theorem d_M_extreme_14 : decode m_M_extreme.2.1 14 = .ok (.iload_n 1, 1) := by decide +kernel
theorem d_M_extreme_15 : decode m_M_extreme.2.1 15 = .ok (.invokevirtual 409, 3) := by decide +kernel
theorem d_M_extreme_18 : decode m_M_extreme.2.1 18 = .ok (.ifCond .ne 9, 3) := by decide +kernel
theorem d_M_extreme_21 : decode m_M_extreme.2.1 21 = .ok (.aload_n 0, 1) := by decide +kernel
theorem d_M_extreme_22 : decode m_M_extreme.2.1 22 = .ok (.iconst 2, 1) := by decide +kernel
theorem d_M_extreme_23 : decode m_M_extreme.2.1 23 = .ok (.invokevirtual 147, 3) := by decide +kernel
theorem d_M_extreme_26 : decode m_M_extreme.2.1 26 = .ok (.ireturn, 1) := by decide +kernel
theorem d_M_extreme_27 : decode m_M_extreme.2.1 27 = .ok (.iconst (-1), 1) := by decide +kernel
theorem d_M_extreme_28 : decode m_M_extreme.2.1 28 = .ok (.istore_n 3, 1) := by decide +kernel
theorem d_M_extreme_29 : decode m_M_extreme.2.1 29 = .ok (.iconst 0, 1) := by decide +kernel
theorem d_M_extreme_30 : decode m_M_extreme.2.1 30 = .ok (.istore 4, 2) := by decide +kernel
theorem d_M_extreme_32 : decode m_M_extreme.2.1 32 = .ok (.iload 4, 2) := by decide +kernel
theorem d_M_extreme_34 : decode m_M_extreme.2.1 34 = .ok (.iconst 1, 1) := by decide +kernel
theorem d_M_extreme_35 : decode m_M_extreme.2.1 35 = .ok (.aload_n 0, 1) := by decide +kernel
theorem d_M_extreme_36 : decode m_M_extreme.2.1 36 = .ok (.getfield 366, 3) := by decide +kernel
theorem d_M_extreme_39 : decode m_M_extreme.2.1 39 = .ok (.ishl, 1) := by decide +kernel
theorem d_M_extreme_40 : decode m_M_extreme.2.1 40 = .ok (.if_icmp .ge 46, 3) := by decide +kernel
theorem d_M_extreme_43 : decode m_M_extreme.2.1 43 = .ok (.aload_n 0, 1) := by decide +kernel
theorem d_M_extreme_44 : decode m_M_extreme.2.1 44 = .ok (.getfield 104, 3) := by decide +kernel
theorem d_M_extreme_47 : decode m_M_extreme.2.1 47 = .ok (.iload 4, 2) := by decide +kernel
theorem d_M_extreme_49 : decode m_M_extreme.2.1 49 = .ok (.baload, 1) := by decide +kernel
theorem d_M_extreme_50 : decode m_M_extreme.2.1 50 = .ok (.ifCond .ne 30, 3) := by decide +kernel
theorem d_M_extreme_53 : decode m_M_extreme.2.1 53 = .ok (.iload_n 3, 1) := by decide +kernel
theorem d_M_extreme_54 : decode m_M_extreme.2.1 54 = .ok (.ifCond .lt 23, 3) := by decide +kernel
theorem d_M_extreme_57 : decode m_M_extreme.2.1 57 = .ok (.iload_n 2, 1) := by decide +kernel
theorem d_M_extreme_58 : decode m_M_extreme.2.1 58 = .ok (.aload_n 0, 1) := by decide +kernel
theorem d_M_extreme_59 : decode m_M_extreme.2.1 59 = .ok (.iload 4, 2) := by decide +kernel
theorem d_M_extreme_61 : decode m_M_extreme.2.1 61 = .ok (.iload_n 1, 1) := by decide +kernel
theorem d_M_extreme_62 : decode m_M_extreme.2.1 62 = .ok (.invokevirtual 412, 3) := by decide +kernel
theorem d_M_extreme_65 : decode m_M_extreme.2.1 65 = .ok (.imul, 1) := by decide +kernel
theorem d_M_extreme_66 : decode m_M_extreme.2.1 66 = .ok (.iload_n 2, 1) := by decide +kernel
theorem d_M_extreme_67 : decode m_M_extreme.2.1 67 = .ok (.aload_n 0, 1) := by decide +kernel
theorem d_M_extreme_68 : decode m_M_extreme.2.1 68 = .ok (.iload_n 3, 1) := by decide +kernel
theorem d_M_extreme_69 : decode m_M_extreme.2.1 69 = .ok (.iload_n 1, 1) := by decide +kernel
theorem d_M_extreme_70 : decode m_M_extreme.2.1 70 = .ok (.invokevirtual 412, 3) := by decide +kernel
theorem d_M_extreme_73 : decode m_M_extreme.2.1 73 = .ok (.imul, 1) := by decide +kernel
theorem d_M_extreme_74 : decode m_M_extreme.2.1 74 = .ok (.if_icmp .ge 6, 3) := by decide +kernel
theorem d_M_extreme_77 : decode m_M_extreme.2.1 77 = .ok (.iload 4, 2) := by decide +kernel
theorem d_M_extreme_79 : decode m_M_extreme.2.1 79 = .ok (.istore_n 3, 1) := by decide +kernel
theorem d_M_extreme_80 : decode m_M_extreme.2.1 80 = .ok (.iinc 4 1, 3) := by decide +kernel
theorem d_M_extreme_83 : decode m_M_extreme.2.1 83 = .ok (.goto (-51), 3) := by decide +kernel
theorem d_M_extreme_86 : decode m_M_extreme.2.1 86 = .ok (.aload_n 0, 1) := by decide +kernel
theorem d_M_extreme_87 : decode m_M_extreme.2.1 87 = .ok (.iload_n 3, 1) := by decide +kernel
theorem d_M_extreme_88 : decode m_M_extreme.2.1 88 = .ok (.invokevirtual 406, 3) := by decide +kernel
theorem d_M_extreme_91 : decode m_M_extreme.2.1 91 = .ok (.istore 4, 2) := by decide +kernel
theorem d_M_extreme_93 : decode m_M_extreme.2.1 93 = .ok (.iload 4, 2) := by decide +kernel
theorem d_M_extreme_95 : decode m_M_extreme.2.1 95 = .ok (.ifCond .ne 7, 3) := by decide +kernel
theorem d_M_extreme_98 : decode m_M_extreme.2.1 98 = .ok (.iconst (-1), 1) := by decide +kernel
theorem d_M_extreme_99 : decode m_M_extreme.2.1 99 = .ok (.goto 9, 3) := by decide +kernel
theorem d_M_extreme_102 : decode m_M_extreme.2.1 102 = .ok (.aload_n 0, 1) := by decide +kernel
theorem d_M_extreme_103 : decode m_M_extreme.2.1 103 = .ok (.iload_n 3, 1) := by decide +kernel
theorem d_M_extreme_104 : decode m_M_extreme.2.1 104 = .ok (.iload_n 1, 1) := by decide +kernel
theorem d_M_extreme_105 : decode m_M_extreme.2.1 105 = .ok (.invokevirtual 412, 3) := by decide +kernel
theorem d_M_extreme_108 : decode m_M_extreme.2.1 108 = .ok (.ireturn, 1) := by decide +kernel
theorem d_M_isVar_0 : decode m_M_isVar.2.1 0 = .ok (.iload_n 1, 1) := by decide +kernel
theorem d_M_isVar_1 : decode m_M_isVar.2.1 1 = .ok (.ifCond .lt 15, 3) := by decide +kernel
theorem d_M_isVar_4 : decode m_M_isVar.2.1 4 = .ok (.iload_n 1, 1) := by decide +kernel
theorem d_M_isVar_5 : decode m_M_isVar.2.1 5 = .ok (.aload_n 0, 1) := by decide +kernel
theorem d_M_isVar_6 : decode m_M_isVar.2.1 6 = .ok (.getfield 360, 3) := by decide +kernel
theorem d_M_isVar_9 : decode m_M_isVar.2.1 9 = .ok (.if_icmp .ge 7, 3) := by decide +kernel
theorem d_M_isVar_12 : decode m_M_isVar.2.1 12 = .ok (.iconst 1, 1) := by decide +kernel
theorem d_M_isVar_13 : decode m_M_isVar.2.1 13 = .ok (.goto 4, 3) := by decide +kernel
theorem d_M_isVar_16 : decode m_M_isVar.2.1 16 = .ok (.iconst 0, 1) := by decide +kernel
theorem d_M_isVar_17 : decode m_M_isVar.2.1 17 = .ok (.ireturn, 1) := by decide +kernel
theorem d_M_valueAt_0 : decode m_M_valueAt.2.1 0 = .ok (.aload_n 0, 1) := by decide +kernel
theorem d_M_valueAt_1 : decode m_M_valueAt.2.1 1 = .ok (.getfield 111, 3) := by decide +kernel
theorem d_M_valueAt_4 : decode m_M_valueAt.2.1 4 = .ok (.bipush 12, 2) := by decide +kernel
theorem d_M_valueAt_6 : decode m_M_valueAt.2.1 6 = .ok (.iload_n 1, 1) := by decide +kernel
theorem d_M_valueAt_7 : decode m_M_valueAt.2.1 7 = .ok (.imul, 1) := by decide +kernel
theorem d_M_valueAt_8 : decode m_M_valueAt.2.1 8 = .ok (.iload_n 2, 1) := by decide +kernel
theorem d_M_valueAt_9 : decode m_M_valueAt.2.1 9 = .ok (.iadd, 1) := by decide +kernel
theorem d_M_valueAt_10 : decode m_M_valueAt.2.1 10 = .ok (.baload, 1) := by decide +kernel
theorem d_M_valueAt_11 : decode m_M_valueAt.2.1 11 = .ok (.sipush 255, 3) := by decide +kernel
theorem d_M_valueAt_14 : decode m_M_valueAt.2.1 14 = .ok (.iand, 1) := by decide +kernel
theorem d_M_valueAt_15 : decode m_M_valueAt.2.1 15 = .ok (.ireturn, 1) := by decide +kernel
theorem d_M_differ_13 : decode m_M_differ.2.1 13 = .ok (.aload_n 0, 1) := by decide +kernel
theorem d_M_differ_14 : decode m_M_differ.2.1 14 = .ok (.iload_n 1, 1) := by decide +kernel
theorem d_M_differ_15 : decode m_M_differ.2.1 15 = .ok (.invokevirtual 409, 3) := by decide +kernel
theorem d_M_differ_18 : decode m_M_differ.2.1 18 = .ok (.ifCond .eq 11, 3) := by decide +kernel
theorem d_M_differ_21 : decode m_M_differ.2.1 21 = .ok (.aload_n 0, 1) := by decide +kernel
theorem d_M_differ_22 : decode m_M_differ.2.1 22 = .ok (.iload_n 2, 1) := by decide +kernel
theorem d_M_differ_23 : decode m_M_differ.2.1 23 = .ok (.invokevirtual 409, 3) := by decide +kernel
theorem d_M_differ_26 : decode m_M_differ.2.1 26 = .ok (.ifCond .ne 9, 3) := by decide +kernel
theorem d_M_differ_29 : decode m_M_differ.2.1 29 = .ok (.aload_n 0, 1) := by decide +kernel
theorem d_M_differ_30 : decode m_M_differ.2.1 30 = .ok (.iconst 2, 1) := by decide +kernel
theorem d_M_differ_31 : decode m_M_differ.2.1 31 = .ok (.invokevirtual 147, 3) := by decide +kernel
theorem d_M_differ_34 : decode m_M_differ.2.1 34 = .ok (.ireturn, 1) := by decide +kernel
theorem d_M_differ_35 : decode m_M_differ.2.1 35 = .ok (.iconst 0, 1) := by decide +kernel
theorem d_M_differ_36 : decode m_M_differ.2.1 36 = .ok (.istore_n 3, 1) := by decide +kernel
theorem d_M_differ_37 : decode m_M_differ.2.1 37 = .ok (.iload_n 3, 1) := by decide +kernel
theorem d_M_differ_38 : decode m_M_differ.2.1 38 = .ok (.iconst 1, 1) := by decide +kernel
theorem d_M_differ_39 : decode m_M_differ.2.1 39 = .ok (.aload_n 0, 1) := by decide +kernel
theorem d_M_differ_40 : decode m_M_differ.2.1 40 = .ok (.getfield 366, 3) := by decide +kernel
theorem d_M_differ_43 : decode m_M_differ.2.1 43 = .ok (.ishl, 1) := by decide +kernel
theorem d_M_differ_44 : decode m_M_differ.2.1 44 = .ok (.if_icmp .ge 39, 3) := by decide +kernel
theorem d_M_differ_47 : decode m_M_differ.2.1 47 = .ok (.aload_n 0, 1) := by decide +kernel
theorem d_M_differ_48 : decode m_M_differ.2.1 48 = .ok (.getfield 104, 3) := by decide +kernel
theorem d_M_differ_51 : decode m_M_differ.2.1 51 = .ok (.iload_n 3, 1) := by decide +kernel
theorem d_M_differ_52 : decode m_M_differ.2.1 52 = .ok (.baload, 1) := by decide +kernel
theorem d_M_differ_53 : decode m_M_differ.2.1 53 = .ok (.ifCond .ne 24, 3) := by decide +kernel
theorem d_M_differ_56 : decode m_M_differ.2.1 56 = .ok (.aload_n 0, 1) := by decide +kernel
theorem d_M_differ_57 : decode m_M_differ.2.1 57 = .ok (.iload_n 3, 1) := by decide +kernel
theorem d_M_differ_58 : decode m_M_differ.2.1 58 = .ok (.iload_n 1, 1) := by decide +kernel
theorem d_M_differ_59 : decode m_M_differ.2.1 59 = .ok (.invokevirtual 412, 3) := by decide +kernel
theorem d_M_differ_62 : decode m_M_differ.2.1 62 = .ok (.aload_n 0, 1) := by decide +kernel
theorem d_M_differ_63 : decode m_M_differ.2.1 63 = .ok (.iload_n 3, 1) := by decide +kernel
theorem d_M_differ_64 : decode m_M_differ.2.1 64 = .ok (.iload_n 2, 1) := by decide +kernel
theorem d_M_differ_65 : decode m_M_differ.2.1 65 = .ok (.invokevirtual 412, 3) := by decide +kernel
theorem d_M_differ_68 : decode m_M_differ.2.1 68 = .ok (.if_icmp .eq 9, 3) := by decide +kernel
theorem d_M_differ_71 : decode m_M_differ.2.1 71 = .ok (.aload_n 0, 1) := by decide +kernel
theorem d_M_differ_72 : decode m_M_differ.2.1 72 = .ok (.iload_n 3, 1) := by decide +kernel
theorem d_M_differ_73 : decode m_M_differ.2.1 73 = .ok (.invokevirtual 406, 3) := by decide +kernel
theorem d_M_differ_76 : decode m_M_differ.2.1 76 = .ok (.ireturn, 1) := by decide +kernel
theorem d_M_differ_77 : decode m_M_differ.2.1 77 = .ok (.iinc 3 1, 3) := by decide +kernel
theorem d_M_differ_80 : decode m_M_differ.2.1 80 = .ok (.goto (-43), 3) := by decide +kernel
theorem d_M_differ_83 : decode m_M_differ.2.1 83 = .ok (.aload_n 0, 1) := by decide +kernel
theorem d_M_differ_84 : decode m_M_differ.2.1 84 = .ok (.iconst (-1), 1) := by decide +kernel
theorem d_M_differ_85 : decode m_M_differ.2.1 85 = .ok (.invokevirtual 406, 3) := by decide +kernel
theorem d_M_differ_88 : decode m_M_differ.2.1 88 = .ok (.ireturn, 1) := by decide +kernel
theorem d_M_can_13 : decode m_M_can.2.1 13 = .ok (.aload_n 0, 1) := by decide +kernel
theorem d_M_can_14 : decode m_M_can.2.1 14 = .ok (.iload_n 1, 1) := by decide +kernel
theorem d_M_can_15 : decode m_M_can.2.1 15 = .ok (.invokevirtual 409, 3) := by decide +kernel
theorem d_M_can_18 : decode m_M_can.2.1 18 = .ok (.ifCond .ne 9, 3) := by decide +kernel
theorem d_M_can_21 : decode m_M_can.2.1 21 = .ok (.aload_n 0, 1) := by decide +kernel
theorem d_M_can_22 : decode m_M_can.2.1 22 = .ok (.iconst 2, 1) := by decide +kernel
theorem d_M_can_23 : decode m_M_can.2.1 23 = .ok (.invokevirtual 147, 3) := by decide +kernel
theorem d_M_can_26 : decode m_M_can.2.1 26 = .ok (.ireturn, 1) := by decide +kernel
theorem d_M_can_27 : decode m_M_can.2.1 27 = .ok (.iconst 0, 1) := by decide +kernel
theorem d_M_can_28 : decode m_M_can.2.1 28 = .ok (.istore_n 3, 1) := by decide +kernel
theorem d_M_can_29 : decode m_M_can.2.1 29 = .ok (.iload_n 3, 1) := by decide +kernel
theorem d_M_can_30 : decode m_M_can.2.1 30 = .ok (.iconst 1, 1) := by decide +kernel
theorem d_M_can_31 : decode m_M_can.2.1 31 = .ok (.aload_n 0, 1) := by decide +kernel
theorem d_M_can_32 : decode m_M_can.2.1 32 = .ok (.getfield 366, 3) := by decide +kernel
theorem d_M_can_35 : decode m_M_can.2.1 35 = .ok (.ishl, 1) := by decide +kernel
theorem d_M_can_36 : decode m_M_can.2.1 36 = .ok (.if_icmp .ge 34, 3) := by decide +kernel
theorem d_M_can_39 : decode m_M_can.2.1 39 = .ok (.aload_n 0, 1) := by decide +kernel
theorem d_M_can_40 : decode m_M_can.2.1 40 = .ok (.getfield 104, 3) := by decide +kernel
theorem d_M_can_43 : decode m_M_can.2.1 43 = .ok (.iload_n 3, 1) := by decide +kernel
theorem d_M_can_44 : decode m_M_can.2.1 44 = .ok (.baload, 1) := by decide +kernel
theorem d_M_can_45 : decode m_M_can.2.1 45 = .ok (.ifCond .ne 19, 3) := by decide +kernel
theorem d_M_can_48 : decode m_M_can.2.1 48 = .ok (.aload_n 0, 1) := by decide +kernel
theorem d_M_can_49 : decode m_M_can.2.1 49 = .ok (.iload_n 3, 1) := by decide +kernel
theorem d_M_can_50 : decode m_M_can.2.1 50 = .ok (.iload_n 1, 1) := by decide +kernel
theorem d_M_can_51 : decode m_M_can.2.1 51 = .ok (.invokevirtual 412, 3) := by decide +kernel
theorem d_M_can_54 : decode m_M_can.2.1 54 = .ok (.iload_n 2, 1) := by decide +kernel
theorem d_M_can_55 : decode m_M_can.2.1 55 = .ok (.if_icmp .ne 9, 3) := by decide +kernel
theorem d_M_can_58 : decode m_M_can.2.1 58 = .ok (.aload_n 0, 1) := by decide +kernel
theorem d_M_can_59 : decode m_M_can.2.1 59 = .ok (.iload_n 3, 1) := by decide +kernel
theorem d_M_can_60 : decode m_M_can.2.1 60 = .ok (.invokevirtual 406, 3) := by decide +kernel
theorem d_M_can_63 : decode m_M_can.2.1 63 = .ok (.ireturn, 1) := by decide +kernel
theorem d_M_can_64 : decode m_M_can.2.1 64 = .ok (.iinc 3 1, 3) := by decide +kernel
theorem d_M_can_67 : decode m_M_can.2.1 67 = .ok (.goto (-38), 3) := by decide +kernel
theorem d_M_can_70 : decode m_M_can.2.1 70 = .ok (.aload_n 0, 1) := by decide +kernel
theorem d_M_can_71 : decode m_M_can.2.1 71 = .ok (.iconst (-1), 1) := by decide +kernel
theorem d_M_can_72 : decode m_M_can.2.1 72 = .ok (.invokevirtual 406, 3) := by decide +kernel
theorem d_M_can_75 : decode m_M_can.2.1 75 = .ok (.ireturn, 1) := by decide +kernel
theorem d_M_ends_13 : decode m_M_ends.2.1 13 = .ok (.iconst 0, 1) := by decide +kernel
theorem d_M_ends_14 : decode m_M_ends.2.1 14 = .ok (.istore_n 1, 1) := by decide +kernel
theorem d_M_ends_15 : decode m_M_ends.2.1 15 = .ok (.iconst 0, 1) := by decide +kernel
theorem d_M_ends_16 : decode m_M_ends.2.1 16 = .ok (.istore_n 2, 1) := by decide +kernel
theorem d_M_ends_17 : decode m_M_ends.2.1 17 = .ok (.iload_n 2, 1) := by decide +kernel
theorem d_M_ends_18 : decode m_M_ends.2.1 18 = .ok (.iconst 1, 1) := by decide +kernel
theorem d_M_ends_19 : decode m_M_ends.2.1 19 = .ok (.aload_n 0, 1) := by decide +kernel
theorem d_M_ends_20 : decode m_M_ends.2.1 20 = .ok (.getfield 366, 3) := by decide +kernel
theorem d_M_ends_23 : decode m_M_ends.2.1 23 = .ok (.ishl, 1) := by decide +kernel
theorem d_M_ends_24 : decode m_M_ends.2.1 24 = .ok (.if_icmp .ge 27, 3) := by decide +kernel
theorem d_M_ends_27 : decode m_M_ends.2.1 27 = .ok (.aload_n 0, 1) := by decide +kernel
theorem d_M_ends_28 : decode m_M_ends.2.1 28 = .ok (.getfield 104, 3) := by decide +kernel
theorem d_M_ends_31 : decode m_M_ends.2.1 31 = .ok (.iload_n 2, 1) := by decide +kernel
theorem d_M_ends_32 : decode m_M_ends.2.1 32 = .ok (.baload, 1) := by decide +kernel
theorem d_M_ends_33 : decode m_M_ends.2.1 33 = .ok (.ifCond .ne 12, 3) := by decide +kernel
theorem d_M_ends_36 : decode m_M_ends.2.1 36 = .ok (.iload_n 1, 1) := by decide +kernel
theorem d_M_ends_37 : decode m_M_ends.2.1 37 = .ok (.bipush 20, 2) := by decide +kernel
theorem d_M_ends_39 : decode m_M_ends.2.1 39 = .ok (.if_icmp .ge 6, 3) := by decide +kernel
theorem d_M_ends_42 : decode m_M_ends.2.1 42 = .ok (.iinc 1 1, 3) := by decide +kernel
theorem d_M_ends_45 : decode m_M_ends.2.1 45 = .ok (.iinc 2 1, 3) := by decide +kernel
theorem d_M_ends_48 : decode m_M_ends.2.1 48 = .ok (.goto (-31), 3) := by decide +kernel
theorem d_M_ends_51 : decode m_M_ends.2.1 51 = .ok (.aload_n 0, 1) := by decide +kernel
theorem d_M_ends_52 : decode m_M_ends.2.1 52 = .ok (.iconst (-1), 1) := by decide +kernel
theorem d_M_ends_53 : decode m_M_ends.2.1 53 = .ok (.invokevirtual 406, 3) := by decide +kernel
theorem d_M_ends_56 : decode m_M_ends.2.1 56 = .ok (.istore_n 2, 1) := by decide +kernel
theorem d_M_ends_57 : decode m_M_ends.2.1 57 = .ok (.iload_n 1, 1) := by decide +kernel
theorem d_M_ends_58 : decode m_M_ends.2.1 58 = .ok (.ireturn, 1) := by decide +kernel
theorem d_M_witness_13 : decode m_M_witness.2.1 13 = .ok (.aload_n 0, 1) := by decide +kernel
theorem d_M_witness_14 : decode m_M_witness.2.1 14 = .ok (.getfield 129, 3) := by decide +kernel
theorem d_M_witness_17 : decode m_M_witness.2.1 17 = .ok (.ifCond .lt 15, 3) := by decide +kernel
theorem d_M_witness_20 : decode m_M_witness.2.1 20 = .ok (.iload_n 1, 1) := by decide +kernel
theorem d_M_witness_21 : decode m_M_witness.2.1 21 = .ok (.ifCond .lt 11, 3) := by decide +kernel
theorem d_M_witness_24 : decode m_M_witness.2.1 24 = .ok (.iload_n 1, 1) := by decide +kernel
theorem d_M_witness_25 : decode m_M_witness.2.1 25 = .ok (.aload_n 0, 1) := by decide +kernel
theorem d_M_witness_26 : decode m_M_witness.2.1 26 = .ok (.getfield 357, 3) := by decide +kernel
theorem d_M_witness_29 : decode m_M_witness.2.1 29 = .ok (.if_icmp .lt 9, 3) := by decide +kernel
theorem d_M_witness_32 : decode m_M_witness.2.1 32 = .ok (.aload_n 0, 1) := by decide +kernel
theorem d_M_witness_33 : decode m_M_witness.2.1 33 = .ok (.iconst 2, 1) := by decide +kernel
theorem d_M_witness_34 : decode m_M_witness.2.1 34 = .ok (.invokevirtual 147, 3) := by decide +kernel
theorem d_M_witness_37 : decode m_M_witness.2.1 37 = .ok (.ireturn, 1) := by decide +kernel
theorem d_M_witness_38 : decode m_M_witness.2.1 38 = .ok (.aload_n 0, 1) := by decide +kernel
theorem d_M_witness_39 : decode m_M_witness.2.1 39 = .ok (.iconst 0, 1) := by decide +kernel
theorem d_M_witness_40 : decode m_M_witness.2.1 40 = .ok (.putfield 141, 3) := by decide +kernel
theorem d_M_witness_43 : decode m_M_witness.2.1 43 = .ok (.aload_n 0, 1) := by decide +kernel
theorem d_M_witness_44 : decode m_M_witness.2.1 44 = .ok (.aload_n 0, 1) := by decide +kernel
theorem d_M_witness_45 : decode m_M_witness.2.1 45 = .ok (.getfield 129, 3) := by decide +kernel
theorem d_M_witness_48 : decode m_M_witness.2.1 48 = .ok (.aload_n 0, 1) := by decide +kernel
theorem d_M_witness_49 : decode m_M_witness.2.1 49 = .ok (.getfield 120, 3) := by decide +kernel
theorem d_M_witness_52 : decode m_M_witness.2.1 52 = .ok (.invokevirtual 395, 3) := by decide +kernel
theorem d_M_witness_55 : decode m_M_witness.2.1 55 = .ok (.aload_n 0, 1) := by decide +kernel
theorem d_M_witness_56 : decode m_M_witness.2.1 56 = .ok (.getfield 120, 3) := by decide +kernel
theorem d_M_witness_59 : decode m_M_witness.2.1 59 = .ok (.iload_n 1, 1) := by decide +kernel
theorem d_M_witness_60 : decode m_M_witness.2.1 60 = .ok (.iaload, 1) := by decide +kernel
theorem d_M_witness_61 : decode m_M_witness.2.1 61 = .ok (.ireturn, 1) := by decide +kernel
theorem d_M_set_7 : decode m_M_set.2.1 7 = .ok (.iload_n 1, 1) := by decide +kernel
theorem d_M_set_8 : decode m_M_set.2.1 8 = .ok (.ifCond .lt 11, 3) := by decide +kernel
theorem d_M_set_11 : decode m_M_set.2.1 11 = .ok (.iload_n 1, 1) := by decide +kernel
theorem d_M_set_12 : decode m_M_set.2.1 12 = .ok (.aload_n 0, 1) := by decide +kernel
theorem d_M_set_13 : decode m_M_set.2.1 13 = .ok (.getfield 357, 3) := by decide +kernel
theorem d_M_set_16 : decode m_M_set.2.1 16 = .ok (.if_icmp .lt 20, 3) := by decide +kernel
theorem d_M_set_27 : decode m_M_set.2.1 27 = .ok (.iconst 2, 1) := by decide +kernel
theorem d_M_set_28 : decode m_M_set.2.1 28 = .ok (.goto 4, 3) := by decide +kernel
theorem d_M_set_36 : decode m_M_set.2.1 36 = .ok (.aload_n 0, 1) := by decide +kernel
theorem d_M_set_37 : decode m_M_set.2.1 37 = .ok (.iconst 0, 1) := by decide +kernel
theorem d_M_set_38 : decode m_M_set.2.1 38 = .ok (.putfield 141, 3) := by decide +kernel
theorem d_M_set_41 : decode m_M_set.2.1 41 = .ok (.aload_n 0, 1) := by decide +kernel
theorem d_M_set_42 : decode m_M_set.2.1 42 = .ok (.getfield 117, 3) := by decide +kernel
theorem d_M_set_45 : decode m_M_set.2.1 45 = .ok (.iload_n 1, 1) := by decide +kernel
theorem d_M_set_46 : decode m_M_set.2.1 46 = .ok (.iload_n 2, 1) := by decide +kernel
theorem d_M_set_47 : decode m_M_set.2.1 47 = .ok (.aload_n 0, 1) := by decide +kernel
theorem d_M_set_48 : decode m_M_set.2.1 48 = .ok (.getfield 49, 3) := by decide +kernel
theorem d_M_set_51 : decode m_M_set.2.1 51 = .ok (.iload_n 1, 1) := by decide +kernel
theorem d_M_set_52 : decode m_M_set.2.1 52 = .ok (.iaload, 1) := by decide +kernel
theorem d_M_set_53 : decode m_M_set.2.1 53 = .ok (.invokestatic 384, 3) := by decide +kernel
theorem d_M_set_56 : decode m_M_set.2.1 56 = .ok (.iastore, 1) := by decide +kernel
theorem d_M_set_57 : decode m_M_set.2.1 57 = .ok (.return_, 1) := by decide +kernel
theorem d_M_take_7 : decode m_M_take.2.1 7 = .ok (.aload_n 0, 1) := by decide +kernel
theorem d_M_take_8 : decode m_M_take.2.1 8 = .ok (.getfield 129, 3) := by decide +kernel
theorem d_M_take_11 : decode m_M_take.2.1 11 = .ok (.ifCond .ge 20, 3) := by decide +kernel
theorem d_M_take_22 : decode m_M_take.2.1 22 = .ok (.iconst 2, 1) := by decide +kernel
theorem d_M_take_23 : decode m_M_take.2.1 23 = .ok (.goto 4, 3) := by decide +kernel
theorem d_M_take_31 : decode m_M_take.2.1 31 = .ok (.aload_n 0, 1) := by decide +kernel
theorem d_M_take_32 : decode m_M_take.2.1 32 = .ok (.iconst 0, 1) := by decide +kernel
theorem d_M_take_33 : decode m_M_take.2.1 33 = .ok (.putfield 141, 3) := by decide +kernel
theorem d_M_take_36 : decode m_M_take.2.1 36 = .ok (.aload_n 0, 1) := by decide +kernel
theorem d_M_take_37 : decode m_M_take.2.1 37 = .ok (.aload_n 0, 1) := by decide +kernel
theorem d_M_take_38 : decode m_M_take.2.1 38 = .ok (.getfield 129, 3) := by decide +kernel
theorem d_M_take_41 : decode m_M_take.2.1 41 = .ok (.aload_n 0, 1) := by decide +kernel
theorem d_M_take_42 : decode m_M_take.2.1 42 = .ok (.getfield 117, 3) := by decide +kernel
theorem d_M_take_45 : decode m_M_take.2.1 45 = .ok (.invokevirtual 395, 3) := by decide +kernel
theorem d_M_take_48 : decode m_M_take.2.1 48 = .ok (.return_, 1) := by decide +kernel
theorem d_M_run_13 : decode m_M_run.2.1 13 = .ok (.aload_n 0, 1) := by decide +kernel
theorem d_M_run_14 : decode m_M_run.2.1 14 = .ok (.iconst 0, 1) := by decide +kernel
theorem d_M_run_15 : decode m_M_run.2.1 15 = .ok (.putfield 141, 3) := by decide +kernel
theorem d_M_run_18 : decode m_M_run.2.1 18 = .ok (.iconst 0, 1) := by decide +kernel
theorem d_M_run_19 : decode m_M_run.2.1 19 = .ok (.istore_n 1, 1) := by decide +kernel
theorem d_M_run_20 : decode m_M_run.2.1 20 = .ok (.iload_n 1, 1) := by decide +kernel
theorem d_M_run_21 : decode m_M_run.2.1 21 = .ok (.bipush 16, 2) := by decide +kernel
theorem d_M_run_23 : decode m_M_run.2.1 23 = .ok (.if_icmp .ge 21, 3) := by decide +kernel
theorem d_M_run_26 : decode m_M_run.2.1 26 = .ok (.aload_n 0, 1) := by decide +kernel
theorem d_M_run_27 : decode m_M_run.2.1 27 = .ok (.getfield 114, 3) := by decide +kernel
theorem d_M_run_30 : decode m_M_run.2.1 30 = .ok (.iload_n 1, 1) := by decide +kernel
theorem d_M_run_31 : decode m_M_run.2.1 31 = .ok (.aload_n 0, 1) := by decide +kernel
theorem d_M_run_32 : decode m_M_run.2.1 32 = .ok (.getfield 117, 3) := by decide +kernel
theorem d_M_run_35 : decode m_M_run.2.1 35 = .ok (.iload_n 1, 1) := by decide +kernel
theorem d_M_run_36 : decode m_M_run.2.1 36 = .ok (.iaload, 1) := by decide +kernel
theorem d_M_run_37 : decode m_M_run.2.1 37 = .ok (.iastore, 1) := by decide +kernel
theorem d_M_run_38 : decode m_M_run.2.1 38 = .ok (.iinc 1 1, 3) := by decide +kernel
theorem d_M_run_41 : decode m_M_run.2.1 41 = .ok (.goto (-21), 3) := by decide +kernel
theorem d_M_run_44 : decode m_M_run.2.1 44 = .ok (.aload_n 0, 1) := by decide +kernel
theorem d_M_run_45 : decode m_M_run.2.1 45 = .ok (.invokevirtual 399, 3) := by decide +kernel
theorem d_M_run_48 : decode m_M_run.2.1 48 = .ok (.istore_n 1, 1) := by decide +kernel
theorem d_M_run_49 : decode m_M_run.2.1 49 = .ok (.iconst 0, 1) := by decide +kernel
theorem d_M_run_50 : decode m_M_run.2.1 50 = .ok (.istore_n 2, 1) := by decide +kernel
theorem d_M_run_51 : decode m_M_run.2.1 51 = .ok (.iload_n 2, 1) := by decide +kernel
theorem d_M_run_52 : decode m_M_run.2.1 52 = .ok (.aload_n 0, 1) := by decide +kernel
theorem d_M_run_53 : decode m_M_run.2.1 53 = .ok (.getfield 360, 3) := by decide +kernel
theorem d_M_run_56 : decode m_M_run.2.1 56 = .ok (.if_icmp .ge 21, 3) := by decide +kernel
theorem d_M_run_59 : decode m_M_run.2.1 59 = .ok (.aload_n 0, 1) := by decide +kernel
theorem d_M_run_60 : decode m_M_run.2.1 60 = .ok (.getfield 126, 3) := by decide +kernel
theorem d_M_run_63 : decode m_M_run.2.1 63 = .ok (.iload_n 2, 1) := by decide +kernel
theorem d_M_run_64 : decode m_M_run.2.1 64 = .ok (.aload_n 0, 1) := by decide +kernel
theorem d_M_run_65 : decode m_M_run.2.1 65 = .ok (.getfield 123, 3) := by decide +kernel
theorem d_M_run_68 : decode m_M_run.2.1 68 = .ok (.iload_n 2, 1) := by decide +kernel
theorem d_M_run_69 : decode m_M_run.2.1 69 = .ok (.iaload, 1) := by decide +kernel
theorem d_M_run_70 : decode m_M_run.2.1 70 = .ok (.iastore, 1) := by decide +kernel
theorem d_M_run_71 : decode m_M_run.2.1 71 = .ok (.iinc 2 1, 3) := by decide +kernel
theorem d_M_run_74 : decode m_M_run.2.1 74 = .ok (.goto (-23), 3) := by decide +kernel
theorem d_M_run_77 : decode m_M_run.2.1 77 = .ok (.aload_n 0, 1) := by decide +kernel
theorem d_M_run_78 : decode m_M_run.2.1 78 = .ok (.iload_n 1, 1) := by decide +kernel
theorem d_M_run_79 : decode m_M_run.2.1 79 = .ok (.iconst 1, 1) := by decide +kernel
theorem d_M_run_80 : decode m_M_run.2.1 80 = .ok (.if_icmp .ne 10, 3) := by decide +kernel
theorem d_M_run_83 : decode m_M_run.2.1 83 = .ok (.aload_n 0, 1) := by decide +kernel
theorem d_M_run_84 : decode m_M_run.2.1 84 = .ok (.getfield 392, 3) := by decide +kernel
theorem d_M_run_87 : decode m_M_run.2.1 87 = .ok (.goto 4, 3) := by decide +kernel
theorem d_M_run_90 : decode m_M_run.2.1 90 = .ok (.iconst (-1), 1) := by decide +kernel
theorem d_M_run_91 : decode m_M_run.2.1 91 = .ok (.putfield 132, 3) := by decide +kernel
theorem d_M_run_94 : decode m_M_run.2.1 94 = .ok (.iload_n 1, 1) := by decide +kernel
theorem d_M_run_95 : decode m_M_run.2.1 95 = .ok (.ireturn, 1) := by decide +kernel
theorem d_M_value_13 : decode m_M_value.2.1 13 = .ok (.aload_n 0, 1) := by decide +kernel
theorem d_M_value_14 : decode m_M_value.2.1 14 = .ok (.iload_n 1, 1) := by decide +kernel
theorem d_M_value_15 : decode m_M_value.2.1 15 = .ok (.invokevirtual 409, 3) := by decide +kernel
theorem d_M_value_18 : decode m_M_value.2.1 18 = .ok (.ifCond .ne 9, 3) := by decide +kernel
theorem d_M_value_21 : decode m_M_value.2.1 21 = .ok (.aload_n 0, 1) := by decide +kernel
theorem d_M_value_22 : decode m_M_value.2.1 22 = .ok (.iconst 2, 1) := by decide +kernel
theorem d_M_value_23 : decode m_M_value.2.1 23 = .ok (.invokevirtual 147, 3) := by decide +kernel
theorem d_M_value_26 : decode m_M_value.2.1 26 = .ok (.ireturn, 1) := by decide +kernel
theorem d_M_value_27 : decode m_M_value.2.1 27 = .ok (.aload_n 0, 1) := by decide +kernel
theorem d_M_value_28 : decode m_M_value.2.1 28 = .ok (.iconst 0, 1) := by decide +kernel
theorem d_M_value_29 : decode m_M_value.2.1 29 = .ok (.putfield 141, 3) := by decide +kernel
theorem d_M_value_32 : decode m_M_value.2.1 32 = .ok (.aload_n 0, 1) := by decide +kernel
theorem d_M_value_33 : decode m_M_value.2.1 33 = .ok (.getfield 126, 3) := by decide +kernel
theorem d_M_value_36 : decode m_M_value.2.1 36 = .ok (.iload_n 1, 1) := by decide +kernel
theorem d_M_value_37 : decode m_M_value.2.1 37 = .ok (.iaload, 1) := by decide +kernel
theorem d_M_value_38 : decode m_M_value.2.1 38 = .ok (.ireturn, 1) := by decide +kernel
theorem g_M_392 (nm : String) : q_G "ProofHallModel" 392 12 61 "I" nm := ⟨_, _, _, rfl, by decide, rfl, List.mem_of_getElem? (i := 1592) (by decide +kernel), Or.inl rfl⟩
theorem f_M_351 : q_F "ProofHallModel" 351 12 45 "I" := ⟨_, _, _, rfl, by decide, rfl, Or.inl (List.mem_of_getElem? (i := 1577) (by decide +kernel))⟩
theorem cd_M_go : q_cd m_M_go := ⟨by decide +kernel, List.mem_of_getElem? (i := 17) (by decide +kernel), Or.inl ⟨rfl, List.mem_of_getElem? (i := 1974) (by decide +kernel)⟩⟩
theorem cV_M_389 : q_CV "ProofHallModel" 389 12 m_M_go 1 := ⟨⟨cd_M_go, by decide, by decide, by decide, by decide +kernel⟩, Or.inl (List.mem_of_getElem? (i := 1971) (by decide +kernel)), List.mem_of_getElem? (i := 1973) (by decide +kernel), _, _, _, rfl, by decide +kernel⟩
theorem cd_M_one : q_cd m_M_one := ⟨by decide +kernel, List.mem_of_getElem? (i := 17) (by decide +kernel), Or.inl ⟨rfl, List.mem_of_getElem? (i := 1978) (by decide +kernel)⟩⟩
theorem cV_M_386 : q_CV "ProofHallModel" 386 12 m_M_one 1 := ⟨⟨cd_M_one, by decide, by decide, by decide, by decide +kernel⟩, Or.inl (List.mem_of_getElem? (i := 1975) (by decide +kernel)), List.mem_of_getElem? (i := 1977) (by decide +kernel), _, _, _, rfl, by decide +kernel⟩
theorem cd_M_eval : q_cd m_M_eval := ⟨by decide +kernel, List.mem_of_getElem? (i := 17) (by decide +kernel), Or.inl ⟨rfl, List.mem_of_getElem? (i := 1982) (by decide +kernel)⟩⟩
theorem cV_M_378 : q_CV "ProofHallModel" 378 12 m_M_eval 1 := ⟨⟨cd_M_eval, by decide, by decide, by decide, by decide +kernel⟩, Or.inl (List.mem_of_getElem? (i := 1979) (by decide +kernel)), List.mem_of_getElem? (i := 1981) (by decide +kernel), _, _, _, rfl, by decide +kernel⟩
theorem f_M_372 : q_F "ProofHallModel" 372 12 65 "I" := ⟨_, _, _, rfl, by decide, rfl, Or.inl (List.mem_of_getElem? (i := 1596) (by decide +kernel))⟩
theorem cd_M_other : q_cd m_M_other := ⟨by decide +kernel, List.mem_of_getElem? (i := 17) (by decide +kernel), Or.inl ⟨rfl, List.mem_of_getElem? (i := 1986) (by decide +kernel)⟩⟩
theorem cV_M_375 : q_CV "ProofHallModel" 375 12 m_M_other 1 := ⟨⟨cd_M_other, by decide, by decide, by decide, by decide +kernel⟩, Or.inl (List.mem_of_getElem? (i := 1983) (by decide +kernel)), List.mem_of_getElem? (i := 1985) (by decide +kernel), _, _, _, rfl, by decide +kernel⟩
theorem f_M_135 : q_FR "ProofHallModel" 135 12 64 := ⟨"[I", by decide, ⟨_, _, _, rfl, by decide, rfl, Or.inl (List.mem_of_getElem? (i := 1595) (by decide +kernel))⟩⟩
theorem g_M_372 (nm : String) : q_G "ProofHallModel" 372 12 65 "I" nm := ⟨_, _, _, rfl, by decide, rfl, List.mem_of_getElem? (i := 1596) (by decide +kernel), Or.inl rfl⟩
theorem cd_M_two : q_cd m_M_two := ⟨by decide +kernel, List.mem_of_getElem? (i := 17) (by decide +kernel), Or.inl ⟨rfl, List.mem_of_getElem? (i := 1989) (by decide +kernel)⟩⟩
theorem cS_M_381 : q_CS "ProofHallModel" 381 m_M_two 4 := ⟨⟨cd_M_two, by decide, by decide, by decide, by decide +kernel⟩, Or.inl (List.mem_of_getElem? (i := 1987) (by decide +kernel)), List.mem_of_getElem? (i := 1988) (by decide +kernel)⟩
theorem cd_M_isVar : q_cd m_M_isVar := ⟨by decide +kernel, List.mem_of_getElem? (i := 17) (by decide +kernel), Or.inl ⟨rfl, List.mem_of_getElem? (i := 2009) (by decide +kernel)⟩⟩
theorem cV_M_409 : q_CV "ProofHallModel" 409 12 m_M_isVar 1 := ⟨⟨cd_M_isVar, by decide, by decide, by decide, by decide +kernel⟩, Or.inl (List.mem_of_getElem? (i := 2006) (by decide +kernel)), List.mem_of_getElem? (i := 2008) (by decide +kernel), _, _, _, rfl, by decide +kernel⟩
theorem cd_M_valueAt : q_cd m_M_valueAt := ⟨by decide +kernel, List.mem_of_getElem? (i := 17) (by decide +kernel), Or.inl ⟨rfl, List.mem_of_getElem? (i := 2013) (by decide +kernel)⟩⟩
theorem cV_M_412 : q_CV "ProofHallModel" 412 12 m_M_valueAt 2 := ⟨⟨cd_M_valueAt, by decide, by decide, by decide, by decide +kernel⟩, Or.inl (List.mem_of_getElem? (i := 2010) (by decide +kernel)), List.mem_of_getElem? (i := 2012) (by decide +kernel), _, _, _, rfl, by decide +kernel⟩
theorem f_M_120 : q_FR "ProofHallModel" 120 12 58 := ⟨"[I", by decide, ⟨_, _, _, rfl, by decide, rfl, Or.inl (List.mem_of_getElem? (i := 1589) (by decide +kernel))⟩⟩
set_option maxHeartbeats 2000000 in
theorem b_M_runWhole_0 {ω : q_W} {σ : q_H} {Q : q_R → q_H → Prop} {d mc ms : Nat}  {s : Nat} (hs : s = 110 ∨ s = 116) (rs0 : q_r σ 94 32 = s) (rs1 : q_r σ 94 33 = (s + 1)) (rs2 : q_r σ 94 34 = (s + 2)) (rs3 : q_r σ 94 35 = (s + 3)) (rs4 : q_r σ 94 36 = (s + 4)) (rs5 : q_r σ 94 37 = (s + 5)) (hE : q_E σ) (h : (J ω m_M_runWhole (d + 1) mc ms 0 0 2 [(0, .ref 94), (1, .int (zI 0))] [] σ Q)) : J ω m_M_runWhole (d + 1) mc ms 0 0 0 [(0, .ref 94)] [] σ Q := by
  refine j_iconst (v := zI 0) d_M_runWhole_0 (by decide) ?_
  refine j_istore_n (L' := [(1, .int (zI 0)), (0, .ref 94)]) d_M_runWhole_1 (by decide) rfl ?_
  exact j_sel [1, 0] rfl h
set_option maxHeartbeats 2000000 in
theorem b_M_runWhole_2 {ω : q_W} {σ : q_H} {Q : q_R → q_H → Prop} {d mc ms : Nat} {x1 : Int} {s : Nat} (hs : s = 110 ∨ s = 116) (rs0 : q_r σ 94 32 = s) (rs1 : q_r σ 94 33 = (s + 1)) (rs2 : q_r σ 94 34 = (s + 2)) (rs3 : q_r σ 94 35 = (s + 3)) (rs4 : q_r σ 94 36 = (s + 4)) (rs5 : q_r σ 94 37 = (s + 5)) (hE : q_E σ) (h : inR x1 ∧ q_imp (x1 ≥ 16) ((J ω m_M_go d 0 0 0 0 0 [(0, .ref 94), (1, .int (zI (z σ 94 45)))] [] (zs σ 94 61 (-1)) (q_ki (fun v τ => J ω m_M_runWhole (d + 1) mc ms 0 0 34 [] [.int (zI v)] τ Q)))) ∧ q_imp (x1 < 16) ((0 ≤ x1 ∧ x1 < 16) ∧ (J ω m_M_runWhole (d + 1) mc ms 0 0 2 [(0, .ref 94), (1, .int (zI (x1 + 1)))] [] (zs σ 128 x1.toNat 0) Q))) : J ω m_M_runWhole (d + 1) mc ms 0 0 2 [(0, .ref 94), (1, .int (zI x1))] [] σ Q := by
  refine j_iload_n d_M_runWhole_2 1 rfl ?_
  refine j_bipush (v := zI 16) d_M_runWhole_3 (by decide) ?_
  obtain ⟨r1, h⟩ := h
  obtain ⟨h1, h2⟩ := h
  refine zj_icmp_ge 21 d_M_runWhole_5 (by decide) r1 ⟨by decide, by decide⟩ (fun k2 => ?_) (fun k2 => ?_)
  · have h := h1 k2
    refine j_aload_n d_M_runWhole_21 0 rfl ?_
    refine j_iconst (v := zI (-1)) d_M_runWhole_22 (by decide) ?_
    refine zj_putI (g_M_392 _) d_M_runWhole_23 (tg_94 hE) (q_okE hE (by decide)) ?_
    refine j_aload_n d_M_runWhole_26 0 rfl ?_
    refine j_aload_n d_M_runWhole_27 0 rfl ?_
    refine zj_getI (z σ 94 45) f_M_351 d_M_runWhole_28 (tg_94 (zs_E hE)) (q_okE (zs_E hE) (by decide)) (Eq.trans (qs_k (by decide)) (q_z _ _ _)) ?_
    refine j_callV m_M_go [.int (zI (z σ 94 45))] [] d 0 0 cV_M_389 d_M_runWhole_31 rfl rfl (tg_94 (zs_E hE)) (q_okE (zs_E hE) (by decide)) (Nat.le_of_ble_eq_true rfl) (Nat.le_refl _) (Nat.le_of_ble_eq_true rfl) (Nat.zero_le _) (Nat.zero_le _) h (fun v τ h => ?_) (fun x τ h => ?_)
    · obtain ⟨v, hv, e1, h⟩ := h; cases e1; exact j_sel [] rfl h
    · obtain ⟨v, hv, e1, h⟩ := h; cases e1
  · have h := h2 k2
    refine j_aload_n d_M_runWhole_8 0 rfl ?_
    refine j_getR 128 f_M_123 d_M_runWhole_9 (tg_94 hE) (q_okE hE (by decide)) (rf_94_59 hE) (by decide) ?_
    refine j_iload_n d_M_runWhole_12 1 rfl ?_
    refine j_iconst (v := zI 0) d_M_runWhole_13 (by decide) ?_
    obtain ⟨c3, h⟩ := h
    refine zj_iast d_M_runWhole_14 (tg_128 hE) (q_okE hE (by decide)) c3 (by decide) ?_
    refine zj_iinc (L' := [(1, .int (zI (x1 + 1))), (0, .ref 94)]) (x1 + 1) d_M_runWhole_15 1 rfl (by omega) (by decide) rfl ?_
    refine j_goto 2 d_M_runWhole_18 (by decide) ?_
    exact j_sel [1, 0] rfl h
set_option maxHeartbeats 2000000 in
theorem b_M_runWhole_34 {ω : q_W} {σ : q_H} {Q : q_R → q_H → Prop} {d mc ms : Nat} {y0 : Int} {s : Nat} (hs : s = 110 ∨ s = 116) (rs0 : q_r σ 94 32 = s) (rs1 : q_r σ 94 33 = (s + 1)) (rs2 : q_r σ 94 34 = (s + 2)) (rs3 : q_r σ 94 35 = (s + 3)) (rs4 : q_r σ 94 36 = (s + 4)) (rs5 : q_r σ 94 37 = (s + 5)) (hE : q_E σ) (h : (Q (.inl (some (.int (zI y0)))) σ)) : J ω m_M_runWhole (d + 1) mc ms 0 0 34 [] [.int (zI y0)] σ Q := by
  exact zj_iret d_M_runWhole_34 rfl (Nat.zero_le _) (Nat.zero_le _) h
set_option maxHeartbeats 2000000 in
theorem b_M_go_0 {ω : q_W} {σ : q_H} {Q : q_R → q_H → Prop} {d mc ms : Nat} {x1 : Int} {s : Nat} (hs : s = 110 ∨ s = 116) (rs0 : q_r σ 94 32 = s) (rs1 : q_r σ 94 33 = (s + 1)) (rs2 : q_r σ 94 34 = (s + 2)) (rs3 : q_r σ 94 35 = (s + 3)) (rs4 : q_r σ 94 36 = (s + 4)) (rs5 : q_r σ 94 37 = (s + 5)) (hE : q_E σ) (h : (J ω m_M_go (d + 1) mc ms 0 0 2 [(0, .ref 94), (2, .int (zI x1))] [] σ Q)) : J ω m_M_go (d + 1) mc ms 0 0 0 [(0, .ref 94), (1, .int (zI x1))] [] σ Q := by
  refine j_iload_n d_M_go_0 1 rfl ?_
  refine j_istore_n (L' := [(2, .int (zI x1)), (0, .ref 94), (1, .int (zI x1))]) d_M_go_1 (by decide) rfl ?_
  exact j_sel [1, 0] rfl h
set_option maxHeartbeats 2000000 in
theorem b_M_go_2 {ω : q_W} {σ : q_H} {Q : q_R → q_H → Prop} {d mc ms : Nat} {x2 : Int} {s : Nat} (hs : s = 110 ∨ s = 116) (rs0 : q_r σ 94 32 = s) (rs1 : q_r σ 94 33 = (s + 1)) (rs2 : q_r σ 94 34 = (s + 2)) (rs3 : q_r σ 94 35 = (s + 3)) (rs4 : q_r σ 94 36 = (s + 4)) (rs5 : q_r σ 94 37 = (s + 5)) (hE : q_E σ) (h : inR x2 ∧ q_imp (x2 < 0) ((Q (.inl (some (.int (zI 0)))) σ)) ∧ q_imp (0 ≤ x2) ((J ω m_M_one d 0 0 0 0 0 [(0, .ref 94), (1, .int (zI x2))] [] σ (q_ki (fun v τ => J ω m_M_go (d + 1) mc ms 0 0 11 [(0, .ref 94), (2, .int (zI x2))] [.int (zI v)] τ Q))))) : J ω m_M_go (d + 1) mc ms 0 0 2 [(0, .ref 94), (2, .int (zI x2))] [] σ Q := by
  refine j_iload_n d_M_go_2 1 rfl ?_
  obtain ⟨r1, h⟩ := h
  obtain ⟨h1, h2⟩ := h
  refine zj_if_lt 28 d_M_go_3 (by decide) r1 (fun k2 => ?_) (fun k2 => ?_)
  · have h := h1 k2
    refine j_iconst (v := zI 0) d_M_go_28 (by decide) ?_
    exact zj_iret d_M_go_29 rfl (Nat.zero_le _) (Nat.zero_le _) h
  · have h := h2 k2
    refine j_aload_n d_M_go_6 0 rfl ?_
    refine j_iload_n d_M_go_7 1 rfl ?_
    refine j_callV m_M_one [.int (zI x2)] [] d 0 0 cV_M_386 d_M_go_8 rfl rfl (tg_94 hE) (q_okE hE (by decide)) (Nat.le_of_ble_eq_true rfl) (Nat.le_refl _) (Nat.le_of_ble_eq_true rfl) (Nat.zero_le _) (Nat.zero_le _) h (fun v τ h => ?_) (fun x τ h => ?_)
    · obtain ⟨v, hv, e1, h⟩ := h; cases e1; exact j_sel [0, 1] rfl h
    · obtain ⟨v, hv, e1, h⟩ := h; cases e1
set_option maxHeartbeats 2000000 in
theorem b_M_go_11 {ω : q_W} {σ : q_H} {Q : q_R → q_H → Prop} {d mc ms : Nat} {x2 : Int} {y0 : Int} {s : Nat} (hs : s = 110 ∨ s = 116) (rs0 : q_r σ 94 32 = s) (rs1 : q_r σ 94 33 = (s + 1)) (rs2 : q_r σ 94 34 = (s + 2)) (rs3 : q_r σ 94 35 = (s + 3)) (rs4 : q_r σ 94 36 = (s + 4)) (rs5 : q_r σ 94 37 = (s + 5)) (hE : q_E σ) (h : inR y0 ∧ q_imp (y0 = 0) ((0 ≤ x2 ∧ x2 < 9000) ∧ (J ω m_M_go (d + 1) mc ms 0 0 2 [(0, .ref 94), (2, .int (zI (z σ (s + 4) x2.toNat)))] [] σ Q)) ∧ q_imp (y0 ≠ 0) ((Q (.inl (some (.int (zI y0)))) σ))) : J ω m_M_go (d + 1) mc ms 0 0 11 [(0, .ref 94), (2, .int (zI x2))] [.int (zI y0)] σ Q := by
  refine j_istore_n (L' := [(3, .int (zI y0)), (0, .ref 94), (2, .int (zI x2))]) d_M_go_11 (by decide) rfl ?_
  refine j_iload_n d_M_go_12 0 rfl ?_
  obtain ⟨r3, h⟩ := h
  obtain ⟨h1, h2⟩ := h
  refine zj_if_eq 18 d_M_go_13 (by decide) r3 (fun k4 => ?_) (fun k4 => ?_)
  · have h := h1 k4
    refine j_aload_n d_M_go_18 1 rfl ?_
    refine j_getR (s + 4) f_M_73 d_M_go_19 (tg_94 hE) (q_okE hE (by decide)) (rs4) (by omega) ?_
    refine j_iload_n d_M_go_22 2 rfl ?_
    obtain ⟨c5, h⟩ := h
    refine zj_iald (z σ (s + 4) x2.toNat) d_M_go_23 (tY_s_4 hE hs) (q_okE hE (by omega)) c5 (by decide) (q_z _ _ _) ?_
    refine j_istore_n (L' := [(2, .int (zI (z σ (s + 4) x2.toNat))), (3, .int (zI y0)), (0, .ref 94)]) d_M_go_24 (by decide) rfl ?_
    refine j_goto 2 d_M_go_25 (by decide) ?_
    exact j_sel [2, 0] rfl h
  · have h := h2 k4
    refine j_iload_n d_M_go_16 0 rfl ?_
    exact zj_iret d_M_go_17 rfl (Nat.zero_le _) (Nat.zero_le _) h
theorem o_M_one_6 {x : Int} (cs258 : ¬ x = 258) (cs260 : ¬ x = 260) (cs262 : ¬ x = 262) (cs275 : ¬ x = 275) (cs276 : ¬ x = 276) : ¬ 258 = x ∧ ¬ 260 = x ∧ ¬ 262 = x ∧ ¬ 275 = x ∧ ¬ 276 = x := by omega
set_option maxHeartbeats 2000000 in
theorem b_M_one_0 {ω : q_W} {σ : q_H} {Q : q_R → q_H → Prop} {d mc ms : Nat} {x1 : Int} {s : Nat} (hs : s = 110 ∨ s = 116) (rs0 : q_r σ 94 32 = s) (rs1 : q_r σ 94 33 = (s + 1)) (rs2 : q_r σ 94 34 = (s + 2)) (rs3 : q_r σ 94 35 = (s + 3)) (rs4 : q_r σ 94 36 = (s + 4)) (rs5 : q_r σ 94 37 = (s + 5)) (hE : q_E σ) (h : (0 ≤ x1 ∧ x1 < 9000) ∧ q_imp ((z σ s x1.toNat) = 258) ((J ω m_M_eval d 0 0 0 0 0 [(0, .ref 94), (1, .int (zI (z σ (s + 1) x1.toNat)))] [] σ (q_ki (fun v τ => J ω m_M_one (d + 1) mc ms 0 0 109 [(0, .ref 94), (1, .int (zI x1))] [.int (zI v)] τ Q)))) ∧ q_imp ((z σ s x1.toNat) = 260) ((J ω m_M_one (d + 1) mc ms 0 0 151 [(0, .ref 94), (1, .int (zI x1)), (2, .int (zI 0))] [] σ Q)) ∧ q_imp ((z σ s x1.toNat) = 262) ((J ω m_M_eval d 0 0 0 0 0 [(0, .ref 94), (1, .int (zI (z σ (s + 1) x1.toNat)))] [] σ (q_ki (fun v τ => J ω m_M_one (d + 1) mc ms 0 0 228 [] [.int (zI v)] τ Q)))) ∧ q_imp ((z σ s x1.toNat) = 275) ((J ω m_M_go d 0 0 0 0 0 [(0, .ref 94), (1, .int (zI (z σ (s + 1) x1.toNat)))] [] σ (q_ki (fun v τ => J ω m_M_one (d + 1) mc ms 0 0 66 [] [.int (zI v)] τ Q)))) ∧ q_imp ((z σ s x1.toNat) = 276) ((J ω m_M_eval d 0 0 0 0 0 [(0, .ref 94), (1, .int (zI (z σ (s + 2) x1.toNat)))] [] σ (q_ki (fun v τ => J ω m_M_one (d + 1) mc ms 0 0 87 [(0, .ref 94), (1, .int (zI x1))] [.int (zI v), .int (zI (z σ (s + 1) x1.toNat)), .ref 128] τ Q)))) ∧ q_imp ((z σ s x1.toNat) ≠ 258 ∧ (z σ s x1.toNat) ≠ 260 ∧ (z σ s x1.toNat) ≠ 262 ∧ (z σ s x1.toNat) ≠ 275 ∧ (z σ s x1.toNat) ≠ 276) ((J ω m_M_eval d 0 0 0 0 0 [(0, .ref 94), (1, .int (zI (z σ (s + 1) x1.toNat)))] [] σ (q_ki (fun v τ => J ω m_M_one (d + 1) mc ms 0 0 247 [(0, .ref 94), (1, .int (zI x1))] [.int (zI v)] τ Q))))) : J ω m_M_one (d + 1) mc ms 0 0 0 [(0, .ref 94), (1, .int (zI x1))] [] σ Q := by
  refine j_aload_n d_M_one_0 0 rfl ?_
  refine j_getR s f_M_61 d_M_one_1 (tg_94 hE) (q_okE hE (by decide)) (rs0) (by omega) ?_
  refine j_iload_n d_M_one_4 1 rfl ?_
  obtain ⟨c1, h⟩ := h
  refine zj_iald (z σ s x1.toNat) d_M_one_5 (tY_s_0 hE hs) (q_okE hE (by omega)) c1 (by decide) (q_z _ _ _) ?_
  obtain ⟨g99, g149, g218, g56, g67, gD⟩ := h
  have jg99 : q_imp ((z σ s x1.toNat) = 258) (J ω m_M_one (d + 1) mc ms 0 0 99 [(0, .ref 94), (1, .int (zI x1))] [] σ Q) := by
    intro c
    have h := g99 c
    refine j_aload_n d_M_one_99 0 rfl ?_
    refine j_aload_n d_M_one_100 0 rfl ?_
    refine j_getR (s + 1) f_M_64 d_M_one_101 (tg_94 hE) (q_okE hE (by decide)) (rs1) (by omega) ?_
    refine j_iload_n d_M_one_104 1 rfl ?_
    refine zj_iald (z σ (s + 1) x1.toNat) d_M_one_105 (tY_s_1 hE hs) (q_okE hE (by omega)) c1 (by decide) (q_z _ _ _) ?_
    refine j_callV m_M_eval [.int (zI (z σ (s + 1) x1.toNat))] [] d 0 0 cV_M_378 d_M_one_106 rfl rfl (tg_94 hE) (q_okE hE (by decide)) (Nat.le_of_ble_eq_true rfl) (Nat.le_refl _) (Nat.le_of_ble_eq_true rfl) (Nat.zero_le _) (Nat.zero_le _) h (fun v τ h => ?_) (fun x τ h => ?_)
    · obtain ⟨v, hv, e1, h⟩ := h; cases e1; exact j_sel [0, 1] rfl h
    · obtain ⟨v, hv, e1, h⟩ := h; cases e1
  have jg149 : q_imp ((z σ s x1.toNat) = 260) (J ω m_M_one (d + 1) mc ms 0 0 149 [(0, .ref 94), (1, .int (zI x1))] [] σ Q) := by
    intro c
    have h := g149 c
    refine j_iconst (v := zI 0) d_M_one_149 (by decide) ?_
    refine j_istore_n (L' := [(2, .int (zI 0)), (0, .ref 94), (1, .int (zI x1))]) d_M_one_150 (by decide) rfl ?_
    exact j_sel [1, 2, 0] rfl h
  have jg218 : q_imp ((z σ s x1.toNat) = 262) (J ω m_M_one (d + 1) mc ms 0 0 218 [(0, .ref 94), (1, .int (zI x1))] [] σ Q) := by
    intro c
    have h := g218 c
    refine j_aload_n d_M_one_218 0 rfl ?_
    refine j_aload_n d_M_one_219 0 rfl ?_
    refine j_getR (s + 1) f_M_64 d_M_one_220 (tg_94 hE) (q_okE hE (by decide)) (rs1) (by omega) ?_
    refine j_iload_n d_M_one_223 1 rfl ?_
    refine zj_iald (z σ (s + 1) x1.toNat) d_M_one_224 (tY_s_1 hE hs) (q_okE hE (by omega)) c1 (by decide) (q_z _ _ _) ?_
    refine j_callV m_M_eval [.int (zI (z σ (s + 1) x1.toNat))] [] d 0 0 cV_M_378 d_M_one_225 rfl rfl (tg_94 hE) (q_okE hE (by decide)) (Nat.le_of_ble_eq_true rfl) (Nat.le_refl _) (Nat.le_of_ble_eq_true rfl) (Nat.zero_le _) (Nat.zero_le _) h (fun v τ h => ?_) (fun x τ h => ?_)
    · obtain ⟨v, hv, e1, h⟩ := h; cases e1; exact j_sel [] rfl h
    · obtain ⟨v, hv, e1, h⟩ := h; cases e1
  have jg56 : q_imp ((z σ s x1.toNat) = 275) (J ω m_M_one (d + 1) mc ms 0 0 56 [(0, .ref 94), (1, .int (zI x1))] [] σ Q) := by
    intro c
    have h := g56 c
    refine j_aload_n d_M_one_56 0 rfl ?_
    refine j_aload_n d_M_one_57 0 rfl ?_
    refine j_getR (s + 1) f_M_64 d_M_one_58 (tg_94 hE) (q_okE hE (by decide)) (rs1) (by omega) ?_
    refine j_iload_n d_M_one_61 1 rfl ?_
    refine zj_iald (z σ (s + 1) x1.toNat) d_M_one_62 (tY_s_1 hE hs) (q_okE hE (by omega)) c1 (by decide) (q_z _ _ _) ?_
    refine j_callV m_M_go [.int (zI (z σ (s + 1) x1.toNat))] [] d 0 0 cV_M_389 d_M_one_63 rfl rfl (tg_94 hE) (q_okE hE (by decide)) (Nat.le_of_ble_eq_true rfl) (Nat.le_refl _) (Nat.le_of_ble_eq_true rfl) (Nat.zero_le _) (Nat.zero_le _) h (fun v τ h => ?_) (fun x τ h => ?_)
    · obtain ⟨v, hv, e1, h⟩ := h; cases e1; exact j_sel [] rfl h
    · obtain ⟨v, hv, e1, h⟩ := h; cases e1
  have jg67 : q_imp ((z σ s x1.toNat) = 276) (J ω m_M_one (d + 1) mc ms 0 0 67 [(0, .ref 94), (1, .int (zI x1))] [] σ Q) := by
    intro c
    have h := g67 c
    refine j_aload_n d_M_one_67 0 rfl ?_
    refine j_getR 128 f_M_123 d_M_one_68 (tg_94 hE) (q_okE hE (by decide)) (rf_94_59 hE) (by decide) ?_
    refine j_aload_n d_M_one_71 0 rfl ?_
    refine j_getR (s + 1) f_M_64 d_M_one_72 (tg_94 hE) (q_okE hE (by decide)) (rs1) (by omega) ?_
    refine j_iload_n d_M_one_75 1 rfl ?_
    refine zj_iald (z σ (s + 1) x1.toNat) d_M_one_76 (tY_s_1 hE hs) (q_okE hE (by omega)) c1 (by decide) (q_z _ _ _) ?_
    refine j_aload_n d_M_one_77 0 rfl ?_
    refine j_aload_n d_M_one_78 0 rfl ?_
    refine j_getR (s + 2) f_M_67 d_M_one_79 (tg_94 hE) (q_okE hE (by decide)) (rs2) (by omega) ?_
    refine j_iload_n d_M_one_82 1 rfl ?_
    refine zj_iald (z σ (s + 2) x1.toNat) d_M_one_83 (tY_s_2 hE hs) (q_okE hE (by omega)) c1 (by decide) (q_z _ _ _) ?_
    refine j_callV m_M_eval [.int (zI (z σ (s + 2) x1.toNat))] [.int (zI (z σ (s + 1) x1.toNat)), .ref 128] d 0 0 cV_M_378 d_M_one_84 rfl rfl (tg_94 hE) (q_okE hE (by decide)) (Nat.le_of_ble_eq_true rfl) (Nat.le_refl _) (Nat.le_of_ble_eq_true rfl) (Nat.zero_le _) (Nat.zero_le _) h (fun v τ h => ?_) (fun x τ h => ?_)
    · obtain ⟨v, hv, e1, h⟩ := h; cases e1; exact j_sel [0, 1] rfl h
    · obtain ⟨v, hv, e1, h⟩ := h; cases e1
  have jgD : q_imp ((z σ s x1.toNat) ≠ 258 ∧ (z σ s x1.toNat) ≠ 260 ∧ (z σ s x1.toNat) ≠ 262 ∧ (z σ s x1.toNat) ≠ 275 ∧ (z σ s x1.toNat) ≠ 276) (J ω m_M_one (d + 1) mc ms 0 0 237 [(0, .ref 94), (1, .int (zI x1))] [] σ Q) := by
    intro c
    have h := gD c
    refine j_aload_n d_M_one_237 0 rfl ?_
    refine j_aload_n d_M_one_238 0 rfl ?_
    refine j_getR (s + 1) f_M_64 d_M_one_239 (tg_94 hE) (q_okE hE (by decide)) (rs1) (by omega) ?_
    refine j_iload_n d_M_one_242 1 rfl ?_
    refine zj_iald (z σ (s + 1) x1.toNat) d_M_one_243 (tY_s_1 hE hs) (q_okE hE (by omega)) c1 (by decide) (q_z _ _ _) ?_
    refine j_callV m_M_eval [.int (zI (z σ (s + 1) x1.toNat))] [] d 0 0 cV_M_378 d_M_one_244 rfl rfl (tg_94 hE) (q_okE hE (by decide)) (Nat.le_of_ble_eq_true rfl) (Nat.le_refl _) (Nat.le_of_ble_eq_true rfl) (Nat.zero_le _) (Nat.zero_le _) h (fun v τ h => ?_) (fun x τ h => ?_)
    · obtain ⟨v, hv, e1, h⟩ := h; cases e1; exact j_sel [0, 1] rfl h
    · obtain ⟨v, hv, e1, h⟩ := h; cases e1
  by_cases cs258 : (z σ s x1.toNat) = 258
  · exact j_topE (v := zI 258) (by rw [cs258]) (j_lookup 99 d_M_one_6 (by decide) (by rfl) (by decide) (jg99 cs258))
  by_cases cs260 : (z σ s x1.toNat) = 260
  · exact j_topE (v := zI 260) (by rw [cs260]) (j_lookup 149 d_M_one_6 (by decide) (by rfl) (by decide) (jg149 cs260))
  by_cases cs262 : (z σ s x1.toNat) = 262
  · exact j_topE (v := zI 262) (by rw [cs262]) (j_lookup 218 d_M_one_6 (by decide) (by rfl) (by decide) (jg218 cs262))
  by_cases cs275 : (z σ s x1.toNat) = 275
  · exact j_topE (v := zI 275) (by rw [cs275]) (j_lookup 56 d_M_one_6 (by decide) (by rfl) (by decide) (jg56 cs275))
  by_cases cs276 : (z σ s x1.toNat) = 276
  · exact j_topE (v := zI 276) (by rw [cs276]) (j_lookup 67 d_M_one_6 (by decide) (by rfl) (by decide) (jg67 cs276))
  exact zj_lookd 237 d_M_one_6 (by decide) (z_R _ _ _) (by simp; exact o_M_one_6 cs258 cs260 cs262 cs275 cs276) (by decide) (jgD ⟨cs258, cs260, cs262, cs275, cs276⟩)
set_option maxHeartbeats 2000000 in
theorem b_M_one_109 {ω : q_W} {σ : q_H} {Q : q_R → q_H → Prop} {d mc ms : Nat} {x1 : Int} {y0 : Int} {s : Nat} (hs : s = 110 ∨ s = 116) (rs0 : q_r σ 94 32 = s) (rs1 : q_r σ 94 33 = (s + 1)) (rs2 : q_r σ 94 34 = (s + 2)) (rs3 : q_r σ 94 35 = (s + 3)) (rs4 : q_r σ 94 36 = (s + 4)) (rs5 : q_r σ 94 37 = (s + 5)) (hE : q_E σ) (h : inR y0 ∧ q_imp (y0 = 0) ((0 ≤ x1 ∧ x1 < 9000) ∧ q_imp (0 ≤ (z σ (s + 3) x1.toNat)) ((J ω m_M_one d 0 0 0 0 0 [(0, .ref 94), (1, .int (zI (z σ (s + 3) x1.toNat)))] [] σ (q_ki (fun v τ => J ω m_M_one (d + 1) mc ms 0 0 148 [] [.int (zI v)] τ Q)))) ∧ q_imp ((z σ (s + 3) x1.toNat) < 0) ((Q (.inl (some (.int (zI 0)))) σ))) ∧ q_imp (y0 ≠ 0) ((0 ≤ x1 ∧ x1 < 9000) ∧ (J ω m_M_one d 0 0 0 0 0 [(0, .ref 94), (1, .int (zI (z σ (s + 2) x1.toNat)))] [] σ (q_ki (fun v τ => J ω m_M_one (d + 1) mc ms 0 0 122 [] [.int (zI v)] τ Q))))) : J ω m_M_one (d + 1) mc ms 0 0 109 [(0, .ref 94), (1, .int (zI x1))] [.int (zI y0)] σ Q := by
  obtain ⟨r2, h⟩ := h
  obtain ⟨h1, h2⟩ := h
  refine zj_if_eq 125 d_M_one_109 (by decide) r2 (fun k3 => ?_) (fun k3 => ?_)
  · have h := h1 k3
    refine j_aload_n d_M_one_125 0 rfl ?_
    refine j_getR (s + 3) f_M_70 d_M_one_126 (tg_94 hE) (q_okE hE (by decide)) (rs3) (by omega) ?_
    refine j_iload_n d_M_one_129 1 rfl ?_
    obtain ⟨c4, h⟩ := h
    refine zj_iald (z σ (s + 3) x1.toNat) d_M_one_130 (tY_s_3 hE hs) (q_okE hE (by omega)) c4 (by decide) (q_z _ _ _) ?_
    obtain ⟨h1, h2⟩ := h
    refine zj_if_ge 138 d_M_one_131 (by decide) (z_R _ _ _) (fun k5 => ?_) (fun k5 => ?_)
    · have h := h1 k5
      refine j_aload_n d_M_one_138 0 rfl ?_
      refine j_aload_n d_M_one_139 0 rfl ?_
      refine j_getR (s + 3) f_M_70 d_M_one_140 (tg_94 hE) (q_okE hE (by decide)) (rs3) (by omega) ?_
      refine j_iload_n d_M_one_143 1 rfl ?_
      refine zj_iald (z σ (s + 3) x1.toNat) d_M_one_144 (tY_s_3 hE hs) (q_okE hE (by omega)) c4 (by decide) (q_z _ _ _) ?_
      refine j_callV m_M_one [.int (zI (z σ (s + 3) x1.toNat))] [] d 0 0 cV_M_386 d_M_one_145 rfl rfl (tg_94 hE) (q_okE hE (by decide)) (Nat.le_of_ble_eq_true rfl) (Nat.le_refl _) (Nat.le_of_ble_eq_true rfl) (Nat.zero_le _) (Nat.zero_le _) h (fun v τ h => ?_) (fun x τ h => ?_)
      · obtain ⟨v, hv, e1, h⟩ := h; cases e1; exact j_sel [] rfl h
      · obtain ⟨v, hv, e1, h⟩ := h; cases e1
    · have h := h2 k5
      refine j_iconst (v := zI 0) d_M_one_134 (by decide) ?_
      refine j_goto 148 d_M_one_135 (by decide) ?_
      exact zj_iret d_M_one_148 rfl (Nat.zero_le _) (Nat.zero_le _) h
  · have h := h2 k3
    refine j_aload_n d_M_one_112 0 rfl ?_
    refine j_aload_n d_M_one_113 0 rfl ?_
    refine j_getR (s + 2) f_M_67 d_M_one_114 (tg_94 hE) (q_okE hE (by decide)) (rs2) (by omega) ?_
    refine j_iload_n d_M_one_117 1 rfl ?_
    obtain ⟨c6, h⟩ := h
    refine zj_iald (z σ (s + 2) x1.toNat) d_M_one_118 (tY_s_2 hE hs) (q_okE hE (by omega)) c6 (by decide) (q_z _ _ _) ?_
    refine j_callV m_M_one [.int (zI (z σ (s + 2) x1.toNat))] [] d 0 0 cV_M_386 d_M_one_119 rfl rfl (tg_94 hE) (q_okE hE (by decide)) (Nat.le_of_ble_eq_true rfl) (Nat.le_refl _) (Nat.le_of_ble_eq_true rfl) (Nat.zero_le _) (Nat.zero_le _) h (fun v τ h => ?_) (fun x τ h => ?_)
    · obtain ⟨v, hv, e1, h⟩ := h; cases e1; exact j_sel [] rfl h
    · obtain ⟨v, hv, e1, h⟩ := h; cases e1
set_option maxHeartbeats 2000000 in
theorem b_M_one_151 {ω : q_W} {σ : q_H} {Q : q_R → q_H → Prop} {d mc ms : Nat} {x1 : Int} {x2 : Int} {s : Nat} (hs : s = 110 ∨ s = 116) (rs0 : q_r σ 94 32 = s) (rs1 : q_r σ 94 33 = (s + 1)) (rs2 : q_r σ 94 34 = (s + 2)) (rs3 : q_r σ 94 35 = (s + 3)) (rs4 : q_r σ 94 36 = (s + 4)) (rs5 : q_r σ 94 37 = (s + 5)) (hE : q_E σ) (h : (0 ≤ x1 ∧ x1 < 9000) ∧ inR x2 ∧ q_imp (x2 ≥ (z σ (s + 3) x1.toNat)) ((J ω m_M_eval d 0 0 0 0 0 [(0, .ref 94), (1, .int (zI (z σ (s + 1) x1.toNat)))] [] σ (q_ki (fun v τ => J ω m_M_one (d + 1) mc ms 0 0 209 [] [.int (zI v)] τ Q)))) ∧ q_imp (x2 < (z σ (s + 3) x1.toNat)) ((J ω m_M_eval d 0 0 0 0 0 [(0, .ref 94), (1, .int (zI (z σ (s + 1) x1.toNat)))] [] σ (q_ki (fun v τ => J ω m_M_one (d + 1) mc ms 0 0 171 [(0, .ref 94), (1, .int (zI x1)), (2, .int (zI x2))] [.int (zI v)] τ Q))))) : J ω m_M_one (d + 1) mc ms 0 0 151 [(0, .ref 94), (1, .int (zI x1)), (2, .int (zI x2))] [] σ Q := by
  refine j_iload_n d_M_one_151 2 rfl ?_
  refine j_aload_n d_M_one_152 0 rfl ?_
  refine j_getR (s + 3) f_M_70 d_M_one_153 (tg_94 hE) (q_okE hE (by decide)) (rs3) (by omega) ?_
  refine j_iload_n d_M_one_156 1 rfl ?_
  obtain ⟨c7, h⟩ := h
  refine zj_iald (z σ (s + 3) x1.toNat) d_M_one_157 (tY_s_3 hE hs) (q_okE hE (by omega)) c7 (by decide) (q_z _ _ _) ?_
  obtain ⟨r8, h⟩ := h
  obtain ⟨h1, h2⟩ := h
  refine zj_icmp_ge 199 d_M_one_158 (by decide) r8 (z_R _ _ _) (fun k9 => ?_) (fun k9 => ?_)
  · have h := h1 k9
    refine j_aload_n d_M_one_199 0 rfl ?_
    refine j_aload_n d_M_one_200 0 rfl ?_
    refine j_getR (s + 1) f_M_64 d_M_one_201 (tg_94 hE) (q_okE hE (by decide)) (rs1) (by omega) ?_
    refine j_iload_n d_M_one_204 1 rfl ?_
    refine zj_iald (z σ (s + 1) x1.toNat) d_M_one_205 (tY_s_1 hE hs) (q_okE hE (by omega)) c7 (by decide) (q_z _ _ _) ?_
    refine j_callV m_M_eval [.int (zI (z σ (s + 1) x1.toNat))] [] d 0 0 cV_M_378 d_M_one_206 rfl rfl (tg_94 hE) (q_okE hE (by decide)) (Nat.le_of_ble_eq_true rfl) (Nat.le_refl _) (Nat.le_of_ble_eq_true rfl) (Nat.zero_le _) (Nat.zero_le _) h (fun v τ h => ?_) (fun x τ h => ?_)
    · obtain ⟨v, hv, e1, h⟩ := h; cases e1; exact j_sel [] rfl h
    · obtain ⟨v, hv, e1, h⟩ := h; cases e1
  · have h := h2 k9
    refine j_aload_n d_M_one_161 0 rfl ?_
    refine j_aload_n d_M_one_162 0 rfl ?_
    refine j_getR (s + 1) f_M_64 d_M_one_163 (tg_94 hE) (q_okE hE (by decide)) (rs1) (by omega) ?_
    refine j_iload_n d_M_one_166 1 rfl ?_
    refine zj_iald (z σ (s + 1) x1.toNat) d_M_one_167 (tY_s_1 hE hs) (q_okE hE (by omega)) c7 (by decide) (q_z _ _ _) ?_
    refine j_callV m_M_eval [.int (zI (z σ (s + 1) x1.toNat))] [] d 0 0 cV_M_378 d_M_one_168 rfl rfl (tg_94 hE) (q_okE hE (by decide)) (Nat.le_of_ble_eq_true rfl) (Nat.le_refl _) (Nat.le_of_ble_eq_true rfl) (Nat.zero_le _) (Nat.zero_le _) h (fun v τ h => ?_) (fun x τ h => ?_)
    · obtain ⟨v, hv, e1, h⟩ := h; cases e1; exact j_sel [0, 1, 2] rfl h
    · obtain ⟨v, hv, e1, h⟩ := h; cases e1
set_option maxHeartbeats 2000000 in
theorem b_M_one_228 {ω : q_W} {σ : q_H} {Q : q_R → q_H → Prop} {d mc ms : Nat} {y0 : Int} {s : Nat} (hs : s = 110 ∨ s = 116) (rs0 : q_r σ 94 32 = s) (rs1 : q_r σ 94 33 = (s + 1)) (rs2 : q_r σ 94 34 = (s + 2)) (rs3 : q_r σ 94 35 = (s + 3)) (rs4 : q_r σ 94 36 = (s + 4)) (rs5 : q_r σ 94 37 = (s + 5)) (hE : q_E σ) (h : inR y0 ∧ q_imp (y0 ≠ 0) ((Q (.inl (some (.int (zI 0)))) σ)) ∧ q_imp (y0 = 0) ((Q (.inl (some (.int (zI 2)))) σ))) : J ω m_M_one (d + 1) mc ms 0 0 228 [] [.int (zI y0)] σ Q := by
  obtain ⟨r10, h⟩ := h
  obtain ⟨h1, h2⟩ := h
  refine zj_if_ne 235 d_M_one_228 (by decide) r10 (fun k11 => ?_) (fun k11 => ?_)
  · have h := h1 k11
    refine j_iconst (v := zI 0) d_M_one_235 (by decide) ?_
    exact zj_iret d_M_one_236 rfl (Nat.zero_le _) (Nat.zero_le _) h
  · have h := h2 k11
    refine j_iconst (v := zI 2) d_M_one_231 (by decide) ?_
    refine j_goto 236 d_M_one_232 (by decide) ?_
    exact zj_iret d_M_one_236 rfl (Nat.zero_le _) (Nat.zero_le _) h
set_option maxHeartbeats 2000000 in
theorem b_M_one_66 {ω : q_W} {σ : q_H} {Q : q_R → q_H → Prop} {d mc ms : Nat} {y0 : Int} {s : Nat} (hs : s = 110 ∨ s = 116) (rs0 : q_r σ 94 32 = s) (rs1 : q_r σ 94 33 = (s + 1)) (rs2 : q_r σ 94 34 = (s + 2)) (rs3 : q_r σ 94 35 = (s + 3)) (rs4 : q_r σ 94 36 = (s + 4)) (rs5 : q_r σ 94 37 = (s + 5)) (hE : q_E σ) (h : (Q (.inl (some (.int (zI y0)))) σ)) : J ω m_M_one (d + 1) mc ms 0 0 66 [] [.int (zI y0)] σ Q := by
  exact zj_iret d_M_one_66 rfl (Nat.zero_le _) (Nat.zero_le _) h
set_option maxHeartbeats 2000000 in
theorem b_M_one_87 {ω : q_W} {σ : q_H} {Q : q_R → q_H → Prop} {d mc ms : Nat} {x1 : Int} {y0 : Int} {y1 : Int} {s : Nat} (hs : s = 110 ∨ s = 116) (rs0 : q_r σ 94 32 = s) (rs1 : q_r σ 94 33 = (s + 1)) (rs2 : q_r σ 94 34 = (s + 2)) (rs3 : q_r σ 94 35 = (s + 3)) (rs4 : q_r σ 94 36 = (s + 4)) (rs5 : q_r σ 94 37 = (s + 5)) (hE : q_E σ) (h : (0 ≤ x1 ∧ x1 < 9000) ∧ inR y0 ∧ (0 ≤ y1 ∧ y1 < 16) ∧ (Q (.inl (some (.int (zI 0)))) (zs σ 128 y1.toNat (zAnd y0 (zShl 1 (z σ (s + 3) x1.toNat) - 1))))) : J ω m_M_one (d + 1) mc ms 0 0 87 [(0, .ref 94), (1, .int (zI x1))] [.int (zI y0), .int (zI y1), .ref 128] σ Q := by
  refine j_aload_n d_M_one_87 0 rfl ?_
  refine j_getR (s + 3) f_M_70 d_M_one_88 (tg_94 hE) (q_okE hE (by decide)) (rs3) (by omega) ?_
  refine j_iload_n d_M_one_91 1 rfl ?_
  obtain ⟨c12, h⟩ := h
  refine zj_iald (z σ (s + 3) x1.toNat) d_M_one_92 (tY_s_3 hE hs) (q_okE hE (by omega)) c12 (by decide) (q_z _ _ _) ?_
  obtain ⟨r13, h⟩ := h
  refine j_callS m_M_cut_2 [.int (zI y0), .int (zI (z σ (s + 3) x1.toNat))] [.int (zI y1), .ref 128] 0 0 0 cS_M_384 d_M_one_93 rfl rfl (Nat.le_of_ble_eq_true rfl) (Nat.succ_le_succ (Nat.zero_le _)) (Nat.le_of_ble_eq_true rfl) (Nat.zero_le _) (Nat.zero_le _) (c_M_cut_2 hE r13 (z_R _ _ _)) (fun v τ h => ?_) (fun x τ h => absurd h.1 (by simp))
  obtain ⟨e1, e2⟩ := h; cases e1; rw [e2]
  obtain ⟨c14, h⟩ := h
  refine zj_iast d_M_one_96 (tg_128 hE) (q_okE hE (by decide)) c14 (by decide) ?_
  refine j_iconst (v := zI 0) d_M_one_97 (by decide) ?_
  exact zj_iret d_M_one_98 rfl (Nat.zero_le _) (Nat.zero_le _) h
set_option maxHeartbeats 2000000 in
theorem b_M_one_247 {ω : q_W} {σ : q_H} {Q : q_R → q_H → Prop} {d mc ms : Nat} {x1 : Int} {y0 : Int} {s : Nat} (hs : s = 110 ∨ s = 116) (rs0 : q_r σ 94 32 = s) (rs1 : q_r σ 94 33 = (s + 1)) (rs2 : q_r σ 94 34 = (s + 2)) (rs3 : q_r σ 94 35 = (s + 3)) (rs4 : q_r σ 94 36 = (s + 4)) (rs5 : q_r σ 94 37 = (s + 5)) (hE : q_E σ) (h : inR y0 ∧ q_imp (y0 = 0) ((0 ≤ x1 ∧ x1 < 9000) ∧ (Q (.inl (some (.int (zI 1)))) (zs σ 94 61 (z σ (s + 2) x1.toNat)))) ∧ q_imp (y0 ≠ 0) ((Q (.inl (some (.int (zI 0)))) σ))) : J ω m_M_one (d + 1) mc ms 0 0 247 [(0, .ref 94), (1, .int (zI x1))] [.int (zI y0)] σ Q := by
  obtain ⟨r15, h⟩ := h
  obtain ⟨h1, h2⟩ := h
  refine zj_if_eq 252 d_M_one_247 (by decide) r15 (fun k16 => ?_) (fun k16 => ?_)
  · have h := h1 k16
    refine j_aload_n d_M_one_252 0 rfl ?_
    refine j_aload_n d_M_one_253 0 rfl ?_
    refine j_getR (s + 2) f_M_67 d_M_one_254 (tg_94 hE) (q_okE hE (by decide)) (rs2) (by omega) ?_
    refine j_iload_n d_M_one_257 1 rfl ?_
    obtain ⟨c17, h⟩ := h
    refine zj_iald (z σ (s + 2) x1.toNat) d_M_one_258 (tY_s_2 hE hs) (q_okE hE (by omega)) c17 (by decide) (q_z _ _ _) ?_
    refine zj_putI (g_M_392 _) d_M_one_259 (tg_94 hE) (q_okE hE (by decide)) ?_
    refine j_iconst (v := zI 1) d_M_one_262 (by decide) ?_
    exact zj_iret d_M_one_263 rfl (Nat.zero_le _) (Nat.zero_le _) h
  · have h := h2 k16
    refine j_iconst (v := zI 0) d_M_one_250 (by decide) ?_
    exact zj_iret d_M_one_251 rfl (Nat.zero_le _) (Nat.zero_le _) h
set_option maxHeartbeats 2000000 in
theorem b_M_one_148 {ω : q_W} {σ : q_H} {Q : q_R → q_H → Prop} {d mc ms : Nat} {y0 : Int} {s : Nat} (hs : s = 110 ∨ s = 116) (rs0 : q_r σ 94 32 = s) (rs1 : q_r σ 94 33 = (s + 1)) (rs2 : q_r σ 94 34 = (s + 2)) (rs3 : q_r σ 94 35 = (s + 3)) (rs4 : q_r σ 94 36 = (s + 4)) (rs5 : q_r σ 94 37 = (s + 5)) (hE : q_E σ) (h : (Q (.inl (some (.int (zI y0)))) σ)) : J ω m_M_one (d + 1) mc ms 0 0 148 [] [.int (zI y0)] σ Q := by
  exact zj_iret d_M_one_148 rfl (Nat.zero_le _) (Nat.zero_le _) h
set_option maxHeartbeats 2000000 in
theorem b_M_one_122 {ω : q_W} {σ : q_H} {Q : q_R → q_H → Prop} {d mc ms : Nat} {y0 : Int} {s : Nat} (hs : s = 110 ∨ s = 116) (rs0 : q_r σ 94 32 = s) (rs1 : q_r σ 94 33 = (s + 1)) (rs2 : q_r σ 94 34 = (s + 2)) (rs3 : q_r σ 94 35 = (s + 3)) (rs4 : q_r σ 94 36 = (s + 4)) (rs5 : q_r σ 94 37 = (s + 5)) (hE : q_E σ) (h : (Q (.inl (some (.int (zI y0)))) σ)) : J ω m_M_one (d + 1) mc ms 0 0 122 [] [.int (zI y0)] σ Q := by
  refine j_goto 148 d_M_one_122 (by decide) ?_
  exact zj_iret d_M_one_148 rfl (Nat.zero_le _) (Nat.zero_le _) h
set_option maxHeartbeats 2000000 in
theorem b_M_one_209 {ω : q_W} {σ : q_H} {Q : q_R → q_H → Prop} {d mc ms : Nat} {y0 : Int} {s : Nat} (hs : s = 110 ∨ s = 116) (rs0 : q_r σ 94 32 = s) (rs1 : q_r σ 94 33 = (s + 1)) (rs2 : q_r σ 94 34 = (s + 2)) (rs3 : q_r σ 94 35 = (s + 3)) (rs4 : q_r σ 94 36 = (s + 4)) (rs5 : q_r σ 94 37 = (s + 5)) (hE : q_E σ) (h : inR y0 ∧ q_imp (y0 ≠ 0) ((Q (.inl (some (.int (zI 2)))) σ)) ∧ q_imp (y0 = 0) ((Q (.inl (some (.int (zI 0)))) σ))) : J ω m_M_one (d + 1) mc ms 0 0 209 [] [.int (zI y0)] σ Q := by
  obtain ⟨r18, h⟩ := h
  obtain ⟨h1, h2⟩ := h
  refine zj_if_ne 216 d_M_one_209 (by decide) r18 (fun k19 => ?_) (fun k19 => ?_)
  · have h := h1 k19
    refine j_iconst (v := zI 2) d_M_one_216 (by decide) ?_
    exact zj_iret d_M_one_217 rfl (Nat.zero_le _) (Nat.zero_le _) h
  · have h := h2 k19
    refine j_iconst (v := zI 0) d_M_one_212 (by decide) ?_
    refine j_goto 217 d_M_one_213 (by decide) ?_
    exact zj_iret d_M_one_217 rfl (Nat.zero_le _) (Nat.zero_le _) h
set_option maxHeartbeats 2000000 in
theorem b_M_one_171 {ω : q_W} {σ : q_H} {Q : q_R → q_H → Prop} {d mc ms : Nat} {x1 : Int} {x2 : Int} {y0 : Int} {s : Nat} (hs : s = 110 ∨ s = 116) (rs0 : q_r σ 94 32 = s) (rs1 : q_r σ 94 33 = (s + 1)) (rs2 : q_r σ 94 34 = (s + 2)) (rs3 : q_r σ 94 35 = (s + 3)) (rs4 : q_r σ 94 36 = (s + 4)) (rs5 : q_r σ 94 37 = (s + 5)) (hE : q_E σ) (h : inR y0 ∧ q_imp (y0 ≠ 0) ((0 ≤ x1 ∧ x1 < 9000) ∧ (J ω m_M_one d 0 0 0 0 0 [(0, .ref 94), (1, .int (zI (z σ (s + 2) x1.toNat)))] [] σ (q_ki (fun v τ => J ω m_M_one (d + 1) mc ms 0 0 186 [(0, .ref 94), (1, .int (zI x1)), (2, .int (zI x2))] [.int (zI v)] τ Q)))) ∧ q_imp (y0 = 0) ((Q (.inl (some (.int (zI 0)))) σ))) : J ω m_M_one (d + 1) mc ms 0 0 171 [(0, .ref 94), (1, .int (zI x1)), (2, .int (zI x2))] [.int (zI y0)] σ Q := by
  obtain ⟨r20, h⟩ := h
  obtain ⟨h1, h2⟩ := h
  refine zj_if_ne 176 d_M_one_171 (by decide) r20 (fun k21 => ?_) (fun k21 => ?_)
  · have h := h1 k21
    refine j_aload_n d_M_one_176 0 rfl ?_
    refine j_aload_n d_M_one_177 0 rfl ?_
    refine j_getR (s + 2) f_M_67 d_M_one_178 (tg_94 hE) (q_okE hE (by decide)) (rs2) (by omega) ?_
    refine j_iload_n d_M_one_181 1 rfl ?_
    obtain ⟨c22, h⟩ := h
    refine zj_iald (z σ (s + 2) x1.toNat) d_M_one_182 (tY_s_2 hE hs) (q_okE hE (by omega)) c22 (by decide) (q_z _ _ _) ?_
    refine j_callV m_M_one [.int (zI (z σ (s + 2) x1.toNat))] [] d 0 0 cV_M_386 d_M_one_183 rfl rfl (tg_94 hE) (q_okE hE (by decide)) (Nat.le_of_ble_eq_true rfl) (Nat.le_refl _) (Nat.le_of_ble_eq_true rfl) (Nat.zero_le _) (Nat.zero_le _) h (fun v τ h => ?_) (fun x τ h => ?_)
    · obtain ⟨v, hv, e1, h⟩ := h; cases e1; exact j_sel [0, 1, 2] rfl h
    · obtain ⟨v, hv, e1, h⟩ := h; cases e1
  · have h := h2 k21
    refine j_iconst (v := zI 0) d_M_one_174 (by decide) ?_
    exact zj_iret d_M_one_175 rfl (Nat.zero_le _) (Nat.zero_le _) h
set_option maxHeartbeats 2000000 in
theorem b_M_one_186 {ω : q_W} {σ : q_H} {Q : q_R → q_H → Prop} {d mc ms : Nat} {x1 : Int} {x2 : Int} {y0 : Int} {s : Nat} (hs : s = 110 ∨ s = 116) (rs0 : q_r σ 94 32 = s) (rs1 : q_r σ 94 33 = (s + 1)) (rs2 : q_r σ 94 34 = (s + 2)) (rs3 : q_r σ 94 35 = (s + 3)) (rs4 : q_r σ 94 36 = (s + 4)) (rs5 : q_r σ 94 37 = (s + 5)) (hE : q_E σ) (h : inR y0 ∧ q_imp (y0 = 0) ((J ω m_M_one (d + 1) mc ms 0 0 151 [(0, .ref 94), (1, .int (zI x1)), (2, .int (zI (x2 + 1)))] [] σ Q)) ∧ q_imp (y0 ≠ 0) ((Q (.inl (some (.int (zI y0)))) σ))) : J ω m_M_one (d + 1) mc ms 0 0 186 [(0, .ref 94), (1, .int (zI x1)), (2, .int (zI x2))] [.int (zI y0)] σ Q := by
  refine j_istore_n (L' := [(3, .int (zI y0)), (0, .ref 94), (1, .int (zI x1)), (2, .int (zI x2))]) d_M_one_186 (by decide) rfl ?_
  refine j_iload_n d_M_one_187 0 rfl ?_
  obtain ⟨r23, h⟩ := h
  obtain ⟨h1, h2⟩ := h
  refine zj_if_eq 193 d_M_one_188 (by decide) r23 (fun k24 => ?_) (fun k24 => ?_)
  · have h := h1 k24
    refine zj_iinc (L' := [(2, .int (zI (x2 + 1))), (3, .int (zI y0)), (0, .ref 94), (1, .int (zI x1))]) (x2 + 1) d_M_one_193 3 rfl (by omega) (by decide) rfl ?_
    refine j_goto 151 d_M_one_196 (by decide) ?_
    exact j_sel [2, 3, 0] rfl h
  · have h := h2 k24
    refine j_iload_n d_M_one_191 0 rfl ?_
    exact zj_iret d_M_one_192 rfl (Nat.zero_le _) (Nat.zero_le _) h
set_option maxHeartbeats 2000000 in
theorem b_M_eval_0 {ω : q_W} {σ : q_H} {Q : q_R → q_H → Prop} {d mc ms : Nat} {x1 : Int} {s : Nat} (hs : s = 110 ∨ s = 116) (rs0 : q_r σ 94 32 = s) (rs1 : q_r σ 94 33 = (s + 1)) (rs2 : q_r σ 94 34 = (s + 2)) (rs3 : q_r σ 94 35 = (s + 3)) (rs4 : q_r σ 94 36 = (s + 4)) (rs5 : q_r σ 94 37 = (s + 5)) (hE : q_E σ) (h : (J ω m_M_eval (d + 1) mc ms 0 0 7 [(0, .ref 94), (2, .int (zI (z σ 94 65))), (3, .int (zI x1))] [] σ Q)) : J ω m_M_eval (d + 1) mc ms 0 0 0 [(0, .ref 94), (1, .int (zI x1))] [] σ Q := by
  refine j_aload_n d_M_eval_0 0 rfl ?_
  refine zj_getI (z σ 94 65) f_M_372 d_M_eval_1 (tg_94 hE) (q_okE hE (by decide)) (q_z _ _ _) ?_
  refine j_istore_n (L' := [(2, .int (zI (z σ 94 65))), (0, .ref 94), (1, .int (zI x1))]) d_M_eval_4 (by decide) rfl ?_
  refine j_iload_n d_M_eval_5 2 rfl ?_
  refine j_istore_n (L' := [(3, .int (zI x1)), (2, .int (zI (z σ 94 65))), (0, .ref 94), (1, .int (zI x1))]) d_M_eval_6 (by decide) rfl ?_
  exact j_sel [2, 1, 0] rfl h
set_option maxHeartbeats 2000000 in
theorem b_M_eval_7 {ω : q_W} {σ : q_H} {Q : q_R → q_H → Prop} {d mc ms : Nat} {x2 : Int} {x3 : Int} {s : Nat} (hs : s = 110 ∨ s = 116) (rs0 : q_r σ 94 32 = s) (rs1 : q_r σ 94 33 = (s + 1)) (rs2 : q_r σ 94 34 = (s + 2)) (rs3 : q_r σ 94 35 = (s + 3)) (rs4 : q_r σ 94 36 = (s + 4)) (rs5 : q_r σ 94 37 = (s + 5)) (hE : q_E σ) (h : (J ω m_M_isTwo d 0 0 0 0 0 [(0, .ref 94), (1, .int (zI x3))] [] σ (q_ki (fun v τ => J ω m_M_eval (d + 1) mc ms 0 0 12 [(0, .ref 94), (2, .int (zI x2)), (3, .int (zI x3))] [.int (zI v)] τ Q)))) : J ω m_M_eval (d + 1) mc ms 0 0 7 [(0, .ref 94), (2, .int (zI x2)), (3, .int (zI x3))] [] σ Q := by
  refine j_aload_n d_M_eval_7 0 rfl ?_
  refine j_iload_n d_M_eval_8 2 rfl ?_
  refine j_callV m_M_isTwo [.int (zI x3)] [] d 0 0 cV_M_305 d_M_eval_9 rfl rfl (tg_94 hE) (q_okE hE (by decide)) (Nat.le_of_ble_eq_true rfl) (Nat.le_refl _) (Nat.le_of_ble_eq_true rfl) (Nat.zero_le _) (Nat.zero_le _) h (fun v τ h => ?_) (fun x τ h => ?_)
  · obtain ⟨v, hv, e1, h⟩ := h; cases e1; exact j_sel [0, 1, 2] rfl h
  · obtain ⟨v, hv, e1, h⟩ := h; cases e1
set_option maxHeartbeats 2000000 in
theorem b_M_eval_12 {ω : q_W} {σ : q_H} {Q : q_R → q_H → Prop} {d mc ms : Nat} {x2 : Int} {x3 : Int} {y0 : Int} {s : Nat} (hs : s = 110 ∨ s = 116) (rs0 : q_r σ 94 32 = s) (rs1 : q_r σ 94 33 = (s + 1)) (rs2 : q_r σ 94 34 = (s + 2)) (rs3 : q_r σ 94 35 = (s + 3)) (rs4 : q_r σ 94 36 = (s + 4)) (rs5 : q_r σ 94 37 = (s + 5)) (hE : q_E σ) (h : inR y0 ∧ q_imp (y0 = 0) ((J ω m_M_other d 0 0 0 0 0 [(0, .ref 94), (1, .int (zI x3))] [] σ (q_ki (fun v τ => J ω m_M_eval (d + 1) mc ms 0 0 50 [(0, .ref 94), (2, .int (zI x2))] [.int (zI v)] τ Q)))) ∧ q_imp (y0 ≠ 0) ((0 ≤ (z σ 94 65) ∧ (z σ 94 65) < 9000) ∧ (0 ≤ x3 ∧ x3 < 9000) ∧ (J ω m_M_eval (d + 1) mc ms 0 0 7 [(0, .ref 94), (2, .int (zI x2)), (3, .int (zI (z σ (s + 1) x3.toNat)))] [] (zs (zs σ 130 (z σ 94 65).toNat x3) 94 65 ((z σ 94 65) + 1)) Q))) : J ω m_M_eval (d + 1) mc ms 0 0 12 [(0, .ref 94), (2, .int (zI x2)), (3, .int (zI x3))] [.int (zI y0)] σ Q := by
  obtain ⟨r1, h⟩ := h
  obtain ⟨h1, h2⟩ := h
  refine zj_if_eq 45 d_M_eval_12 (by decide) r1 (fun k2 => ?_) (fun k2 => ?_)
  · have h := h1 k2
    refine j_aload_n d_M_eval_45 0 rfl ?_
    refine j_iload_n d_M_eval_46 2 rfl ?_
    refine j_callV m_M_other [.int (zI x3)] [] d 0 0 cV_M_375 d_M_eval_47 rfl rfl (tg_94 hE) (q_okE hE (by decide)) (Nat.le_of_ble_eq_true rfl) (Nat.le_refl _) (Nat.le_of_ble_eq_true rfl) (Nat.zero_le _) (Nat.zero_le _) h (fun v τ h => ?_) (fun x τ h => ?_)
    · obtain ⟨v, hv, e1, h⟩ := h; cases e1; exact j_sel [0, 1] rfl h
    · obtain ⟨v, hv, e1, h⟩ := h; cases e1
  · have h := h2 k2
    refine j_aload_n d_M_eval_15 0 rfl ?_
    refine j_getR 130 f_M_135 d_M_eval_16 (tg_94 hE) (q_okE hE (by decide)) (rf_94_64 hE) (by decide) ?_
    refine j_aload_n d_M_eval_19 0 rfl ?_
    refine zj_getI (z σ 94 65) f_M_372 d_M_eval_20 (tg_94 hE) (q_okE hE (by decide)) (q_z _ _ _) ?_
    refine j_iload_n d_M_eval_23 2 rfl ?_
    obtain ⟨c3, h⟩ := h
    refine zj_iast d_M_eval_24 (tg_130 hE) (q_okE hE (by decide)) c3 (by decide) ?_
    refine j_aload_n d_M_eval_25 0 rfl ?_
    refine j_dup d_M_eval_26 rfl ?_
    refine zj_getI (z σ 94 65) f_M_372 d_M_eval_27 (tg_94 (zs_E hE)) (q_okE (zs_E hE) (by decide)) (Eq.trans (qs_o (by decide)) (q_z _ _ _)) ?_
    refine j_iconst (v := zI 1) d_M_eval_30 (by decide) ?_
    refine zj_iadd ((z σ 94 65) + 1) (by omega) d_M_eval_31 ?_
    refine zj_putI (g_M_372 _) d_M_eval_32 (tg_94 (zs_E hE)) (q_okE (zs_E hE) (by decide)) ?_
    refine j_aload_n d_M_eval_35 0 rfl ?_
    refine j_getR (s + 1) f_M_64 d_M_eval_36 (tg_94 (zs_E (zs_E hE))) (q_okE (zs_E (zs_E hE)) (by decide)) (Eq.trans (zs_r) (Eq.trans (zs_r) (rs1))) (by omega) ?_
    refine j_iload_n d_M_eval_39 2 rfl ?_
    obtain ⟨c4, h⟩ := h
    refine zj_iald (z σ (s + 1) x3.toNat) d_M_eval_40 (tY_s_1 (zs_E (zs_E hE)) hs) (q_okE (zs_E (zs_E hE)) (by omega)) c4 (by decide) (Eq.trans (qs_o (by omega)) (Eq.trans (qs_o (by omega)) (q_z _ _ _))) ?_
    refine j_istore_n (L' := [(3, .int (zI (z σ (s + 1) x3.toNat))), (0, .ref 94), (2, .int (zI x2))]) d_M_eval_41 (by decide) rfl ?_
    refine j_goto 7 d_M_eval_42 (by decide) ?_
    exact j_sel [1, 2, 0] rfl h
set_option maxHeartbeats 2000000 in
theorem b_M_eval_50 {ω : q_W} {σ : q_H} {Q : q_R → q_H → Prop} {d mc ms : Nat} {x2 : Int} {y0 : Int} {s : Nat} (hs : s = 110 ∨ s = 116) (rs0 : q_r σ 94 32 = s) (rs1 : q_r σ 94 33 = (s + 1)) (rs2 : q_r σ 94 34 = (s + 2)) (rs3 : q_r σ 94 35 = (s + 3)) (rs4 : q_r σ 94 36 = (s + 4)) (rs5 : q_r σ 94 37 = (s + 5)) (hE : q_E σ) (h : (J ω m_M_eval (d + 1) mc ms 0 0 52 [(0, .ref 94), (2, .int (zI x2)), (4, .int (zI y0))] [] σ Q)) : J ω m_M_eval (d + 1) mc ms 0 0 50 [(0, .ref 94), (2, .int (zI x2))] [.int (zI y0)] σ Q := by
  refine j_istore (L' := [(4, .int (zI y0)), (0, .ref 94), (2, .int (zI x2))]) d_M_eval_50 (by decide) rfl ?_
  exact j_sel [1, 2, 0] rfl h
set_option maxHeartbeats 2000000 in
theorem b_M_eval_52 {ω : q_W} {σ : q_H} {Q : q_R → q_H → Prop} {d mc ms : Nat} {x2 : Int} {x4 : Int} {s : Nat} (hs : s = 110 ∨ s = 116) (rs0 : q_r σ 94 32 = s) (rs1 : q_r σ 94 33 = (s + 1)) (rs2 : q_r σ 94 34 = (s + 2)) (rs3 : q_r σ 94 35 = (s + 3)) (rs4 : q_r σ 94 36 = (s + 4)) (rs5 : q_r σ 94 37 = (s + 5)) (hE : q_E σ) (h : inR x2 ∧ q_imp ((z σ 94 65) ≤ x2) ((Q (.inl (some (.int (zI x4)))) σ)) ∧ q_imp ((z σ 94 65) > x2) ((0 ≤ ((z σ 94 65) - 1) ∧ ((z σ 94 65) - 1) < 9000) ∧ (0 ≤ (z σ 130 ((z σ 94 65) - 1).toNat) ∧ (z σ 130 ((z σ 94 65) - 1).toNat) < 9000) ∧ (J ω m_M_eval d 0 0 0 0 0 [(0, .ref 94), (1, .int (zI (z σ (s + 2) (z σ 130 ((z σ 94 65) - 1).toNat).toNat)))] [] (zs σ 94 65 ((z σ 94 65) - 1)) (q_ki (fun v τ => J ω m_M_eval (d + 1) mc ms 0 0 108 [(0, .ref 94), (2, .int (zI x2))] [.int (zI v), .int (zI x4), .int (zI (z σ (s + 5) (z σ 130 ((z σ 94 65) - 1).toNat).toNat)), .int (zI (z σ s (z σ 130 ((z σ 94 65) - 1).toNat).toNat))] τ Q))))) : J ω m_M_eval (d + 1) mc ms 0 0 52 [(0, .ref 94), (2, .int (zI x2)), (4, .int (zI x4))] [] σ Q := by
  refine j_aload_n d_M_eval_52 0 rfl ?_
  refine zj_getI (z σ 94 65) f_M_372 d_M_eval_53 (tg_94 hE) (q_okE hE (by decide)) (q_z _ _ _) ?_
  refine j_iload_n d_M_eval_56 1 rfl ?_
  obtain ⟨r5, h⟩ := h
  obtain ⟨h1, h2⟩ := h
  refine zj_icmp_le 116 d_M_eval_57 (by decide) (z_R _ _ _) r5 (fun k6 => ?_) (fun k6 => ?_)
  · have h := h1 k6
    refine j_iload d_M_eval_116 2 rfl ?_
    exact zj_iret d_M_eval_118 rfl (Nat.zero_le _) (Nat.zero_le _) h
  · have h := h2 k6
    refine j_aload_n d_M_eval_60 0 rfl ?_
    refine j_dup d_M_eval_61 rfl ?_
    refine zj_getI (z σ 94 65) f_M_372 d_M_eval_62 (tg_94 hE) (q_okE hE (by decide)) (q_z _ _ _) ?_
    refine j_iconst (v := zI 1) d_M_eval_65 (by decide) ?_
    refine zj_isub ((z σ 94 65) - 1) (by omega) d_M_eval_66 ?_
    refine zj_putI (g_M_372 _) d_M_eval_67 (tg_94 hE) (q_okE hE (by decide)) ?_
    refine j_aload_n d_M_eval_70 0 rfl ?_
    refine j_getR 130 f_M_135 d_M_eval_71 (tg_94 (zs_E hE)) (q_okE (zs_E hE) (by decide)) (rf_94_64 (zs_E hE)) (by decide) ?_
    refine j_aload_n d_M_eval_74 0 rfl ?_
    refine zj_getI ((z σ 94 65) - 1) f_M_372 d_M_eval_75 (tg_94 (zs_E hE)) (q_okE (zs_E hE) (by decide)) (qs_s) ?_
    obtain ⟨c7, h⟩ := h
    refine zj_iald (z σ 130 ((z σ 94 65) - 1).toNat) d_M_eval_78 (tg_130 (zs_E hE)) (q_okE (zs_E hE) (by decide)) c7 (by decide) (Eq.trans (qs_o (by decide)) (q_z _ _ _)) ?_
    refine j_istore (L' := [(5, .int (zI (z σ 130 ((z σ 94 65) - 1).toNat))), (0, .ref 94), (2, .int (zI x2)), (4, .int (zI x4))]) d_M_eval_79 (by decide) rfl ?_
    refine j_aload_n d_M_eval_81 1 rfl ?_
    refine j_getR s f_M_61 d_M_eval_82 (tg_94 (zs_E hE)) (q_okE (zs_E hE) (by decide)) (Eq.trans (zs_r) (rs0)) (by omega) ?_
    refine j_iload d_M_eval_85 0 rfl ?_
    obtain ⟨c8, h⟩ := h
    refine zj_iald (z σ s (z σ 130 ((z σ 94 65) - 1).toNat).toNat) d_M_eval_87 (tY_s_0 (zs_E hE) hs) (q_okE (zs_E hE) (by omega)) c8 (by decide) (Eq.trans (qs_o (by omega)) (q_z _ _ _)) ?_
    refine j_aload_n d_M_eval_88 1 rfl ?_
    refine j_getR (s + 5) f_M_76 d_M_eval_89 (tg_94 (zs_E hE)) (q_okE (zs_E hE) (by decide)) (Eq.trans (zs_r) (rs5)) (by omega) ?_
    refine j_iload d_M_eval_92 0 rfl ?_
    refine zj_iald (z σ (s + 5) (z σ 130 ((z σ 94 65) - 1).toNat).toNat) d_M_eval_94 (tY_s_5 (zs_E hE) hs) (q_okE (zs_E hE) (by omega)) c8 (by decide) (Eq.trans (qs_o (by omega)) (q_z _ _ _)) ?_
    refine j_iload d_M_eval_95 3 rfl ?_
    refine j_aload_n d_M_eval_97 1 rfl ?_
    refine j_aload_n d_M_eval_98 1 rfl ?_
    refine j_getR (s + 2) f_M_67 d_M_eval_99 (tg_94 (zs_E hE)) (q_okE (zs_E hE) (by decide)) (Eq.trans (zs_r) (rs2)) (by omega) ?_
    refine j_iload d_M_eval_102 0 rfl ?_
    refine zj_iald (z σ (s + 2) (z σ 130 ((z σ 94 65) - 1).toNat).toNat) d_M_eval_104 (tY_s_2 (zs_E hE) hs) (q_okE (zs_E hE) (by omega)) c8 (by decide) (Eq.trans (qs_o (by omega)) (q_z _ _ _)) ?_
    refine j_callV m_M_eval [.int (zI (z σ (s + 2) (z σ 130 ((z σ 94 65) - 1).toNat).toNat))] [.int (zI x4), .int (zI (z σ (s + 5) (z σ 130 ((z σ 94 65) - 1).toNat).toNat)), .int (zI (z σ s (z σ 130 ((z σ 94 65) - 1).toNat).toNat))] d 0 0 cV_M_378 d_M_eval_105 rfl rfl (tg_94 (zs_E hE)) (q_okE (zs_E hE) (by decide)) (Nat.le_of_ble_eq_true rfl) (Nat.le_refl _) (Nat.le_of_ble_eq_true rfl) (Nat.zero_le _) (Nat.zero_le _) h (fun v τ h => ?_) (fun x τ h => ?_)
    · obtain ⟨v, hv, e1, h⟩ := h; cases e1; exact j_sel [1, 2] rfl h
    · obtain ⟨v, hv, e1, h⟩ := h; cases e1
set_option maxHeartbeats 2000000 in
theorem b_M_eval_108 {ω : q_W} {σ : q_H} {Q : q_R → q_H → Prop} {d mc ms : Nat} {x2 : Int} {y0 : Int} {y1 : Int} {y2 : Int} {y3 : Int} {s : Nat} (hs : s = 110 ∨ s = 116) (rs0 : q_r σ 94 32 = s) (rs1 : q_r σ 94 33 = (s + 1)) (rs2 : q_r σ 94 34 = (s + 2)) (rs3 : q_r σ 94 35 = (s + 3)) (rs4 : q_r σ 94 36 = (s + 4)) (rs5 : q_r σ 94 37 = (s + 5)) (hE : q_E σ) (h : (J ω m_M_two d 0 0 0 0 0 [(0, .int (zI y3)), (1, .int (zI y2)), (2, .int (zI y1)), (3, .int (zI y0))] [] σ (q_ki (fun v τ => J ω m_M_eval (d + 1) mc ms 0 0 111 [(0, .ref 94), (2, .int (zI x2))] [.int (zI v)] τ Q)))) : J ω m_M_eval (d + 1) mc ms 0 0 108 [(0, .ref 94), (2, .int (zI x2))] [.int (zI y0), .int (zI y1), .int (zI y2), .int (zI y3)] σ Q := by
  refine j_callS m_M_two [.int (zI y3), .int (zI y2), .int (zI y1), .int (zI y0)] [] d 0 0 cS_M_381 d_M_eval_108 rfl rfl (Nat.le_of_ble_eq_true rfl) (Nat.le_refl _) (Nat.le_of_ble_eq_true rfl) (Nat.zero_le _) (Nat.zero_le _) h (fun v τ h => ?_) (fun x τ h => ?_)
  · obtain ⟨v, hv, e1, h⟩ := h; cases e1; exact j_sel [0, 1] rfl h
  · obtain ⟨v, hv, e1, h⟩ := h; cases e1
set_option maxHeartbeats 2000000 in
theorem b_M_eval_111 {ω : q_W} {σ : q_H} {Q : q_R → q_H → Prop} {d mc ms : Nat} {x2 : Int} {y0 : Int} {s : Nat} (hs : s = 110 ∨ s = 116) (rs0 : q_r σ 94 32 = s) (rs1 : q_r σ 94 33 = (s + 1)) (rs2 : q_r σ 94 34 = (s + 2)) (rs3 : q_r σ 94 35 = (s + 3)) (rs4 : q_r σ 94 36 = (s + 4)) (rs5 : q_r σ 94 37 = (s + 5)) (hE : q_E σ) (h : (J ω m_M_eval (d + 1) mc ms 0 0 52 [(0, .ref 94), (2, .int (zI x2)), (4, .int (zI y0))] [] σ Q)) : J ω m_M_eval (d + 1) mc ms 0 0 111 [(0, .ref 94), (2, .int (zI x2))] [.int (zI y0)] σ Q := by
  refine j_istore (L' := [(4, .int (zI y0)), (0, .ref 94), (2, .int (zI x2))]) d_M_eval_111 (by decide) rfl ?_
  refine j_goto 52 d_M_eval_113 (by decide) ?_
  exact j_sel [1, 2, 0] rfl h
theorem o_M_other_13 {x : Int} (cs33 : ¬ x = 33) (cs126 : ¬ x = 126) (cs263 : ¬ x = 263) (cs264 : ¬ x = 264) (cs277 : ¬ x = 277) : ¬ 33 = x ∧ ¬ 126 = x ∧ ¬ 263 = x ∧ ¬ 264 = x ∧ ¬ 277 = x := by omega
set_option maxHeartbeats 2000000 in
theorem b_M_other_0 {ω : q_W} {σ : q_H} {Q : q_R → q_H → Prop} {d mc ms : Nat} {x1 : Int} {s : Nat} (hs : s = 110 ∨ s = 116) (rs0 : q_r σ 94 32 = s) (rs1 : q_r σ 94 33 = (s + 1)) (rs2 : q_r σ 94 34 = (s + 2)) (rs3 : q_r σ 94 35 = (s + 3)) (rs4 : q_r σ 94 36 = (s + 4)) (rs5 : q_r σ 94 37 = (s + 5)) (hE : q_E σ) (h : (0 ≤ x1 ∧ x1 < 9000) ∧ q_imp ((z σ s x1.toNat) = 33) ((J ω m_M_eval d 0 0 0 0 0 [(0, .ref 94), (1, .int (zI (z σ (s + 1) x1.toNat)))] [] σ (q_ki (fun v τ => J ω m_M_other (d + 1) mc ms 0 0 154 [] [.int (zI v)] τ Q)))) ∧ q_imp ((z σ s x1.toNat) = 126) ((J ω m_M_eval d 0 0 0 0 0 [(0, .ref 94), (1, .int (zI (z σ (s + 1) x1.toNat)))] [] σ (q_ki (fun v τ => J ω m_M_other (d + 1) mc ms 0 0 173 [(2, .int (zI (z σ (s + 5) x1.toNat)))] [.int (zI v)] τ Q)))) ∧ q_imp ((z σ s x1.toNat) = 263) (q_imp ((z σ (s + 2) x1.toNat) ≠ 1) ((0 ≤ (z σ (s + 1) x1.toNat) ∧ (z σ (s + 1) x1.toNat) < 16) ∧ (Q (.inl (some (.int (zI (z σ 128 (z σ (s + 1) x1.toNat).toNat))))) σ)) ∧ q_imp ((z σ (s + 2) x1.toNat) = 1) ((0 ≤ (z σ (s + 1) x1.toNat) ∧ (z σ (s + 1) x1.toNat) < 16) ∧ (Q (.inl (some (.int (zI (z σ 125 (z σ (s + 1) x1.toNat).toNat))))) σ))) ∧ q_imp ((z σ s x1.toNat) = 264) ((Q (.inl (some (.int (zI (z σ (s + 1) x1.toNat))))) σ)) ∧ q_imp ((z σ s x1.toNat) = 277) ((J ω m_M_eval d 0 0 0 0 0 [(0, .ref 94), (1, .int (zI (z σ (s + 1) x1.toNat)))] [] σ (q_ki (fun v τ => J ω m_M_other (d + 1) mc ms 0 0 117 [(0, .ref 94), (1, .int (zI x1))] [.int (zI v)] τ Q)))) ∧ q_imp ((z σ s x1.toNat) ≠ 33 ∧ (z σ s x1.toNat) ≠ 126 ∧ (z σ s x1.toNat) ≠ 263 ∧ (z σ s x1.toNat) ≠ 264 ∧ (z σ s x1.toNat) ≠ 277) ((J ω m_M_eval d 0 0 0 0 0 [(0, .ref 94), (1, .int (zI (z σ (s + 1) x1.toNat)))] [] σ (q_ki (fun v τ => J ω m_M_other (d + 1) mc ms 0 0 190 [(2, .int (zI (z σ (s + 5) x1.toNat)))] [.int (zI v)] τ Q))))) : J ω m_M_other (d + 1) mc ms 0 0 0 [(0, .ref 94), (1, .int (zI x1))] [] σ Q := by
  refine j_aload_n d_M_other_0 0 rfl ?_
  refine j_getR (s + 5) f_M_76 d_M_other_1 (tg_94 hE) (q_okE hE (by decide)) (rs5) (by omega) ?_
  refine j_iload_n d_M_other_4 1 rfl ?_
  obtain ⟨c1, h⟩ := h
  refine zj_iald (z σ (s + 5) x1.toNat) d_M_other_5 (tY_s_5 hE hs) (q_okE hE (by omega)) c1 (by decide) (q_z _ _ _) ?_
  refine j_istore_n (L' := [(2, .int (zI (z σ (s + 5) x1.toNat))), (0, .ref 94), (1, .int (zI x1))]) d_M_other_6 (by decide) rfl ?_
  refine j_aload_n d_M_other_7 1 rfl ?_
  refine j_getR s f_M_61 d_M_other_8 (tg_94 hE) (q_okE hE (by decide)) (rs0) (by omega) ?_
  refine j_iload_n d_M_other_11 2 rfl ?_
  refine zj_iald (z σ s x1.toNat) d_M_other_12 (tY_s_0 hE hs) (q_okE hE (by omega)) c1 (by decide) (q_z _ _ _) ?_
  obtain ⟨g144, g163, g71, g64, g107, gD⟩ := h
  have jg144 : q_imp ((z σ s x1.toNat) = 33) (J ω m_M_other (d + 1) mc ms 0 0 144 [(2, .int (zI (z σ (s + 5) x1.toNat))), (0, .ref 94), (1, .int (zI x1))] [] σ Q) := by
    intro c
    have h := g144 c
    refine j_aload_n d_M_other_144 1 rfl ?_
    refine j_aload_n d_M_other_145 1 rfl ?_
    refine j_getR (s + 1) f_M_64 d_M_other_146 (tg_94 hE) (q_okE hE (by decide)) (rs1) (by omega) ?_
    refine j_iload_n d_M_other_149 2 rfl ?_
    refine zj_iald (z σ (s + 1) x1.toNat) d_M_other_150 (tY_s_1 hE hs) (q_okE hE (by omega)) c1 (by decide) (q_z _ _ _) ?_
    refine j_callV m_M_eval [.int (zI (z σ (s + 1) x1.toNat))] [] d 0 0 cV_M_378 d_M_other_151 rfl rfl (tg_94 hE) (q_okE hE (by decide)) (Nat.le_of_ble_eq_true rfl) (Nat.le_refl _) (Nat.le_of_ble_eq_true rfl) (Nat.zero_le _) (Nat.zero_le _) h (fun v τ h => ?_) (fun x τ h => ?_)
    · obtain ⟨v, hv, e1, h⟩ := h; cases e1; exact j_sel [] rfl h
    · obtain ⟨v, hv, e1, h⟩ := h; cases e1
  have jg163 : q_imp ((z σ s x1.toNat) = 126) (J ω m_M_other (d + 1) mc ms 0 0 163 [(2, .int (zI (z σ (s + 5) x1.toNat))), (0, .ref 94), (1, .int (zI x1))] [] σ Q) := by
    intro c
    have h := g163 c
    refine j_aload_n d_M_other_163 1 rfl ?_
    refine j_aload_n d_M_other_164 1 rfl ?_
    refine j_getR (s + 1) f_M_64 d_M_other_165 (tg_94 hE) (q_okE hE (by decide)) (rs1) (by omega) ?_
    refine j_iload_n d_M_other_168 2 rfl ?_
    refine zj_iald (z σ (s + 1) x1.toNat) d_M_other_169 (tY_s_1 hE hs) (q_okE hE (by omega)) c1 (by decide) (q_z _ _ _) ?_
    refine j_callV m_M_eval [.int (zI (z σ (s + 1) x1.toNat))] [] d 0 0 cV_M_378 d_M_other_170 rfl rfl (tg_94 hE) (q_okE hE (by decide)) (Nat.le_of_ble_eq_true rfl) (Nat.le_refl _) (Nat.le_of_ble_eq_true rfl) (Nat.zero_le _) (Nat.zero_le _) h (fun v τ h => ?_) (fun x τ h => ?_)
    · obtain ⟨v, hv, e1, h⟩ := h; cases e1; exact j_sel [0] rfl h
    · obtain ⟨v, hv, e1, h⟩ := h; cases e1
  have jg71 : q_imp ((z σ s x1.toNat) = 263) (J ω m_M_other (d + 1) mc ms 0 0 71 [(2, .int (zI (z σ (s + 5) x1.toNat))), (0, .ref 94), (1, .int (zI x1))] [] σ Q) := by
    intro c
    have h := g71 c
    refine j_aload_n d_M_other_71 1 rfl ?_
    refine j_getR (s + 2) f_M_67 d_M_other_72 (tg_94 hE) (q_okE hE (by decide)) (rs2) (by omega) ?_
    refine j_iload_n d_M_other_75 2 rfl ?_
    refine zj_iald (z σ (s + 2) x1.toNat) d_M_other_76 (tY_s_2 hE hs) (q_okE hE (by omega)) c1 (by decide) (q_z _ _ _) ?_
    refine j_iconst (v := zI 1) d_M_other_77 (by decide) ?_
    obtain ⟨h1, h2⟩ := h
    refine zj_icmp_ne 95 d_M_other_78 (by decide) (z_R _ _ _) ⟨by decide, by decide⟩ (fun k2 => ?_) (fun k2 => ?_)
    · have h := h1 k2
      refine j_aload_n d_M_other_95 1 rfl ?_
      refine j_getR 128 f_M_123 d_M_other_96 (tg_94 hE) (q_okE hE (by decide)) (rf_94_59 hE) (by decide) ?_
      refine j_aload_n d_M_other_99 1 rfl ?_
      refine j_getR (s + 1) f_M_64 d_M_other_100 (tg_94 hE) (q_okE hE (by decide)) (rs1) (by omega) ?_
      refine j_iload_n d_M_other_103 2 rfl ?_
      refine zj_iald (z σ (s + 1) x1.toNat) d_M_other_104 (tY_s_1 hE hs) (q_okE hE (by omega)) c1 (by decide) (q_z _ _ _) ?_
      obtain ⟨c3, h⟩ := h
      refine zj_iald (z σ 128 (z σ (s + 1) x1.toNat).toNat) d_M_other_105 (tg_128 hE) (q_okE hE (by decide)) c3 (by decide) (q_z _ _ _) ?_
      exact zj_iret d_M_other_106 rfl (Nat.zero_le _) (Nat.zero_le _) h
    · have h := h2 k2
      refine j_aload_n d_M_other_81 1 rfl ?_
      refine j_getR 125 f_M_114 d_M_other_82 (tg_94 hE) (q_okE hE (by decide)) (rf_94_56 hE) (by decide) ?_
      refine j_aload_n d_M_other_85 1 rfl ?_
      refine j_getR (s + 1) f_M_64 d_M_other_86 (tg_94 hE) (q_okE hE (by decide)) (rs1) (by omega) ?_
      refine j_iload_n d_M_other_89 2 rfl ?_
      refine zj_iald (z σ (s + 1) x1.toNat) d_M_other_90 (tY_s_1 hE hs) (q_okE hE (by omega)) c1 (by decide) (q_z _ _ _) ?_
      obtain ⟨c4, h⟩ := h
      refine zj_iald (z σ 125 (z σ (s + 1) x1.toNat).toNat) d_M_other_91 (tg_125 hE) (q_okE hE (by decide)) c4 (by decide) (q_z _ _ _) ?_
      refine j_goto 106 d_M_other_92 (by decide) ?_
      exact zj_iret d_M_other_106 rfl (Nat.zero_le _) (Nat.zero_le _) h
  have jg64 : q_imp ((z σ s x1.toNat) = 264) (J ω m_M_other (d + 1) mc ms 0 0 64 [(2, .int (zI (z σ (s + 5) x1.toNat))), (0, .ref 94), (1, .int (zI x1))] [] σ Q) := by
    intro c
    have h := g64 c
    refine j_aload_n d_M_other_64 1 rfl ?_
    refine j_getR (s + 1) f_M_64 d_M_other_65 (tg_94 hE) (q_okE hE (by decide)) (rs1) (by omega) ?_
    refine j_iload_n d_M_other_68 2 rfl ?_
    refine zj_iald (z σ (s + 1) x1.toNat) d_M_other_69 (tY_s_1 hE hs) (q_okE hE (by omega)) c1 (by decide) (q_z _ _ _) ?_
    exact zj_iret d_M_other_70 rfl (Nat.zero_le _) (Nat.zero_le _) h
  have jg107 : q_imp ((z σ s x1.toNat) = 277) (J ω m_M_other (d + 1) mc ms 0 0 107 [(2, .int (zI (z σ (s + 5) x1.toNat))), (0, .ref 94), (1, .int (zI x1))] [] σ Q) := by
    intro c
    have h := g107 c
    refine j_aload_n d_M_other_107 1 rfl ?_
    refine j_aload_n d_M_other_108 1 rfl ?_
    refine j_getR (s + 1) f_M_64 d_M_other_109 (tg_94 hE) (q_okE hE (by decide)) (rs1) (by omega) ?_
    refine j_iload_n d_M_other_112 2 rfl ?_
    refine zj_iald (z σ (s + 1) x1.toNat) d_M_other_113 (tY_s_1 hE hs) (q_okE hE (by omega)) c1 (by decide) (q_z _ _ _) ?_
    refine j_callV m_M_eval [.int (zI (z σ (s + 1) x1.toNat))] [] d 0 0 cV_M_378 d_M_other_114 rfl rfl (tg_94 hE) (q_okE hE (by decide)) (Nat.le_of_ble_eq_true rfl) (Nat.le_refl _) (Nat.le_of_ble_eq_true rfl) (Nat.zero_le _) (Nat.zero_le _) h (fun v τ h => ?_) (fun x τ h => ?_)
    · obtain ⟨v, hv, e1, h⟩ := h; cases e1; exact j_sel [1, 2] rfl h
    · obtain ⟨v, hv, e1, h⟩ := h; cases e1
  have jgD : q_imp ((z σ s x1.toNat) ≠ 33 ∧ (z σ s x1.toNat) ≠ 126 ∧ (z σ s x1.toNat) ≠ 263 ∧ (z σ s x1.toNat) ≠ 264 ∧ (z σ s x1.toNat) ≠ 277) (J ω m_M_other (d + 1) mc ms 0 0 180 [(2, .int (zI (z σ (s + 5) x1.toNat))), (0, .ref 94), (1, .int (zI x1))] [] σ Q) := by
    intro c
    have h := gD c
    refine j_aload_n d_M_other_180 1 rfl ?_
    refine j_aload_n d_M_other_181 1 rfl ?_
    refine j_getR (s + 1) f_M_64 d_M_other_182 (tg_94 hE) (q_okE hE (by decide)) (rs1) (by omega) ?_
    refine j_iload_n d_M_other_185 2 rfl ?_
    refine zj_iald (z σ (s + 1) x1.toNat) d_M_other_186 (tY_s_1 hE hs) (q_okE hE (by omega)) c1 (by decide) (q_z _ _ _) ?_
    refine j_callV m_M_eval [.int (zI (z σ (s + 1) x1.toNat))] [] d 0 0 cV_M_378 d_M_other_187 rfl rfl (tg_94 hE) (q_okE hE (by decide)) (Nat.le_of_ble_eq_true rfl) (Nat.le_refl _) (Nat.le_of_ble_eq_true rfl) (Nat.zero_le _) (Nat.zero_le _) h (fun v τ h => ?_) (fun x τ h => ?_)
    · obtain ⟨v, hv, e1, h⟩ := h; cases e1; exact j_sel [0] rfl h
    · obtain ⟨v, hv, e1, h⟩ := h; cases e1
  by_cases cs33 : (z σ s x1.toNat) = 33
  · exact j_topE (v := zI 33) (by rw [cs33]) (j_lookup 144 d_M_other_13 (by decide) (by rfl) (by decide) (jg144 cs33))
  by_cases cs126 : (z σ s x1.toNat) = 126
  · exact j_topE (v := zI 126) (by rw [cs126]) (j_lookup 163 d_M_other_13 (by decide) (by rfl) (by decide) (jg163 cs126))
  by_cases cs263 : (z σ s x1.toNat) = 263
  · exact j_topE (v := zI 263) (by rw [cs263]) (j_lookup 71 d_M_other_13 (by decide) (by rfl) (by decide) (jg71 cs263))
  by_cases cs264 : (z σ s x1.toNat) = 264
  · exact j_topE (v := zI 264) (by rw [cs264]) (j_lookup 64 d_M_other_13 (by decide) (by rfl) (by decide) (jg64 cs264))
  by_cases cs277 : (z σ s x1.toNat) = 277
  · exact j_topE (v := zI 277) (by rw [cs277]) (j_lookup 107 d_M_other_13 (by decide) (by rfl) (by decide) (jg107 cs277))
  exact zj_lookd 180 d_M_other_13 (by decide) (z_R _ _ _) (by simp; exact o_M_other_13 cs33 cs126 cs263 cs264 cs277) (by decide) (jgD ⟨cs33, cs126, cs263, cs264, cs277⟩)
set_option maxHeartbeats 2000000 in
theorem b_M_other_154 {ω : q_W} {σ : q_H} {Q : q_R → q_H → Prop} {d mc ms : Nat} {y0 : Int} {s : Nat} (hs : s = 110 ∨ s = 116) (rs0 : q_r σ 94 32 = s) (rs1 : q_r σ 94 33 = (s + 1)) (rs2 : q_r σ 94 34 = (s + 2)) (rs3 : q_r σ 94 35 = (s + 3)) (rs4 : q_r σ 94 36 = (s + 4)) (rs5 : q_r σ 94 37 = (s + 5)) (hE : q_E σ) (h : inR y0 ∧ q_imp (y0 ≠ 0) ((Q (.inl (some (.int (zI 0)))) σ)) ∧ q_imp (y0 = 0) ((Q (.inl (some (.int (zI 1)))) σ))) : J ω m_M_other (d + 1) mc ms 0 0 154 [] [.int (zI y0)] σ Q := by
  obtain ⟨r5, h⟩ := h
  obtain ⟨h1, h2⟩ := h
  refine zj_if_ne 161 d_M_other_154 (by decide) r5 (fun k6 => ?_) (fun k6 => ?_)
  · have h := h1 k6
    refine j_iconst (v := zI 0) d_M_other_161 (by decide) ?_
    exact zj_iret d_M_other_162 rfl (Nat.zero_le _) (Nat.zero_le _) h
  · have h := h2 k6
    refine j_iconst (v := zI 1) d_M_other_157 (by decide) ?_
    refine j_goto 162 d_M_other_158 (by decide) ?_
    exact zj_iret d_M_other_162 rfl (Nat.zero_le _) (Nat.zero_le _) h
set_option maxHeartbeats 2000000 in
theorem b_M_other_173 {ω : q_W} {σ : q_H} {Q : q_R → q_H → Prop} {d mc ms : Nat} {x2 : Int} {y0 : Int} {s : Nat} (hs : s = 110 ∨ s = 116) (rs0 : q_r σ 94 32 = s) (rs1 : q_r σ 94 33 = (s + 1)) (rs2 : q_r σ 94 34 = (s + 2)) (rs3 : q_r σ 94 35 = (s + 3)) (rs4 : q_r σ 94 36 = (s + 4)) (rs5 : q_r σ 94 37 = (s + 5)) (hE : q_E σ) (h : inR x2 ∧ (Q (.inl (some (.int (zI (zAnd (zXor y0 (-1)) (zShl 1 x2 - 1)))))) σ)) : J ω m_M_other (d + 1) mc ms 0 0 173 [(2, .int (zI x2))] [.int (zI y0)] σ Q := by
  refine j_iconst (v := zI (-1)) d_M_other_173 (by decide) ?_
  refine zj_ixor d_M_other_174 ?_
  refine j_iload_n d_M_other_175 0 rfl ?_
  obtain ⟨r7, h⟩ := h
  refine j_callS m_M_cut_2 [.int (zI (zXor y0 (-1))), .int (zI x2)] [] 0 0 0 cS_M_384 d_M_other_176 rfl rfl (Nat.le_of_ble_eq_true rfl) (Nat.succ_le_succ (Nat.zero_le _)) (Nat.le_of_ble_eq_true rfl) (Nat.zero_le _) (Nat.zero_le _) (c_M_cut_2 hE (inR_of _) r7) (fun v τ h => ?_) (fun x τ h => absurd h.1 (by simp))
  obtain ⟨e1, e2⟩ := h; cases e1; rw [e2]
  exact zj_iret d_M_other_179 rfl (Nat.zero_le _) (Nat.zero_le _) h
set_option maxHeartbeats 2000000 in
theorem b_M_other_117 {ω : q_W} {σ : q_H} {Q : q_R → q_H → Prop} {d mc ms : Nat} {x1 : Int} {y0 : Int} {s : Nat} (hs : s = 110 ∨ s = 116) (rs0 : q_r σ 94 32 = s) (rs1 : q_r σ 94 33 = (s + 1)) (rs2 : q_r σ 94 34 = (s + 2)) (rs3 : q_r σ 94 35 = (s + 3)) (rs4 : q_r σ 94 36 = (s + 4)) (rs5 : q_r σ 94 37 = (s + 5)) (hE : q_E σ) (h : inR y0 ∧ q_imp (y0 = 0) ((0 ≤ x1 ∧ x1 < 9000) ∧ (J ω m_M_eval d 0 0 0 0 0 [(0, .ref 94), (1, .int (zI (z σ (s + 3) x1.toNat)))] [] σ (q_ki (fun v τ => J ω m_M_other (d + 1) mc ms 0 0 143 [] [.int (zI v)] τ Q)))) ∧ q_imp (y0 ≠ 0) ((0 ≤ x1 ∧ x1 < 9000) ∧ (J ω m_M_eval d 0 0 0 0 0 [(0, .ref 94), (1, .int (zI (z σ (s + 2) x1.toNat)))] [] σ (q_ki (fun v τ => J ω m_M_other (d + 1) mc ms 0 0 130 [] [.int (zI v)] τ Q))))) : J ω m_M_other (d + 1) mc ms 0 0 117 [(0, .ref 94), (1, .int (zI x1))] [.int (zI y0)] σ Q := by
  obtain ⟨r8, h⟩ := h
  obtain ⟨h1, h2⟩ := h
  refine zj_if_eq 133 d_M_other_117 (by decide) r8 (fun k9 => ?_) (fun k9 => ?_)
  · have h := h1 k9
    refine j_aload_n d_M_other_133 0 rfl ?_
    refine j_aload_n d_M_other_134 0 rfl ?_
    refine j_getR (s + 3) f_M_70 d_M_other_135 (tg_94 hE) (q_okE hE (by decide)) (rs3) (by omega) ?_
    refine j_iload_n d_M_other_138 1 rfl ?_
    obtain ⟨c10, h⟩ := h
    refine zj_iald (z σ (s + 3) x1.toNat) d_M_other_139 (tY_s_3 hE hs) (q_okE hE (by omega)) c10 (by decide) (q_z _ _ _) ?_
    refine j_callV m_M_eval [.int (zI (z σ (s + 3) x1.toNat))] [] d 0 0 cV_M_378 d_M_other_140 rfl rfl (tg_94 hE) (q_okE hE (by decide)) (Nat.le_of_ble_eq_true rfl) (Nat.le_refl _) (Nat.le_of_ble_eq_true rfl) (Nat.zero_le _) (Nat.zero_le _) h (fun v τ h => ?_) (fun x τ h => ?_)
    · obtain ⟨v, hv, e1, h⟩ := h; cases e1; exact j_sel [] rfl h
    · obtain ⟨v, hv, e1, h⟩ := h; cases e1
  · have h := h2 k9
    refine j_aload_n d_M_other_120 0 rfl ?_
    refine j_aload_n d_M_other_121 0 rfl ?_
    refine j_getR (s + 2) f_M_67 d_M_other_122 (tg_94 hE) (q_okE hE (by decide)) (rs2) (by omega) ?_
    refine j_iload_n d_M_other_125 1 rfl ?_
    obtain ⟨c11, h⟩ := h
    refine zj_iald (z σ (s + 2) x1.toNat) d_M_other_126 (tY_s_2 hE hs) (q_okE hE (by omega)) c11 (by decide) (q_z _ _ _) ?_
    refine j_callV m_M_eval [.int (zI (z σ (s + 2) x1.toNat))] [] d 0 0 cV_M_378 d_M_other_127 rfl rfl (tg_94 hE) (q_okE hE (by decide)) (Nat.le_of_ble_eq_true rfl) (Nat.le_refl _) (Nat.le_of_ble_eq_true rfl) (Nat.zero_le _) (Nat.zero_le _) h (fun v τ h => ?_) (fun x τ h => ?_)
    · obtain ⟨v, hv, e1, h⟩ := h; cases e1; exact j_sel [] rfl h
    · obtain ⟨v, hv, e1, h⟩ := h; cases e1
set_option maxHeartbeats 2000000 in
theorem b_M_other_190 {ω : q_W} {σ : q_H} {Q : q_R → q_H → Prop} {d mc ms : Nat} {x2 : Int} {y0 : Int} {s : Nat} (hs : s = 110 ∨ s = 116) (rs0 : q_r σ 94 32 = s) (rs1 : q_r σ 94 33 = (s + 1)) (rs2 : q_r σ 94 34 = (s + 2)) (rs3 : q_r σ 94 35 = (s + 3)) (rs4 : q_r σ 94 36 = (s + 4)) (rs5 : q_r σ 94 37 = (s + 5)) (hE : q_E σ) (h : inR (-y0) ∧ inR x2 ∧ (Q (.inl (some (.int (zI (zAnd (-y0) (zShl 1 x2 - 1)))))) σ)) : J ω m_M_other (d + 1) mc ms 0 0 190 [(2, .int (zI x2))] [.int (zI y0)] σ Q := by
  refine zj_ineg d_M_other_190 ?_
  refine j_iload_n d_M_other_191 0 rfl ?_
  obtain ⟨r12, h⟩ := h
  obtain ⟨r13, h⟩ := h
  refine j_callS m_M_cut_2 [.int (zI (-y0)), .int (zI x2)] [] 0 0 0 cS_M_384 d_M_other_192 rfl rfl (Nat.le_of_ble_eq_true rfl) (Nat.succ_le_succ (Nat.zero_le _)) (Nat.le_of_ble_eq_true rfl) (Nat.zero_le _) (Nat.zero_le _) (c_M_cut_2 hE r12 r13) (fun v τ h => ?_) (fun x τ h => absurd h.1 (by simp))
  obtain ⟨e1, e2⟩ := h; cases e1; rw [e2]
  exact zj_iret d_M_other_195 rfl (Nat.zero_le _) (Nat.zero_le _) h
set_option maxHeartbeats 2000000 in
theorem b_M_other_143 {ω : q_W} {σ : q_H} {Q : q_R → q_H → Prop} {d mc ms : Nat} {y0 : Int} {s : Nat} (hs : s = 110 ∨ s = 116) (rs0 : q_r σ 94 32 = s) (rs1 : q_r σ 94 33 = (s + 1)) (rs2 : q_r σ 94 34 = (s + 2)) (rs3 : q_r σ 94 35 = (s + 3)) (rs4 : q_r σ 94 36 = (s + 4)) (rs5 : q_r σ 94 37 = (s + 5)) (hE : q_E σ) (h : (Q (.inl (some (.int (zI y0)))) σ)) : J ω m_M_other (d + 1) mc ms 0 0 143 [] [.int (zI y0)] σ Q := by
  exact zj_iret d_M_other_143 rfl (Nat.zero_le _) (Nat.zero_le _) h
set_option maxHeartbeats 2000000 in
theorem b_M_other_130 {ω : q_W} {σ : q_H} {Q : q_R → q_H → Prop} {d mc ms : Nat} {y0 : Int} {s : Nat} (hs : s = 110 ∨ s = 116) (rs0 : q_r σ 94 32 = s) (rs1 : q_r σ 94 33 = (s + 1)) (rs2 : q_r σ 94 34 = (s + 2)) (rs3 : q_r σ 94 35 = (s + 3)) (rs4 : q_r σ 94 36 = (s + 4)) (rs5 : q_r σ 94 37 = (s + 5)) (hE : q_E σ) (h : (Q (.inl (some (.int (zI y0)))) σ)) : J ω m_M_other (d + 1) mc ms 0 0 130 [] [.int (zI y0)] σ Q := by
  refine j_goto 143 d_M_other_130 (by decide) ?_
  exact zj_iret d_M_other_143 rfl (Nat.zero_le _) (Nat.zero_le _) h
theorem o_M_two_1 {x : Int} (cs37 : ¬ x = 37) (cs38 : ¬ x = 38) (cs42 : ¬ x = 42) (cs43 : ¬ x = 43) (cs45 : ¬ x = 45) (cs47 : ¬ x = 47) (cs60 : ¬ x = 60) (cs62 : ¬ x = 62) (cs94 : ¬ x = 94) (cs124 : ¬ x = 124) (cs265 : ¬ x = 265) (cs266 : ¬ x = 266) (cs267 : ¬ x = 267) (cs268 : ¬ x = 268) (cs269 : ¬ x = 269) (cs270 : ¬ x = 270) (cs271 : ¬ x = 271) : ¬ 37 = x ∧ ¬ 38 = x ∧ ¬ 42 = x ∧ ¬ 43 = x ∧ ¬ 45 = x ∧ ¬ 47 = x ∧ ¬ 60 = x ∧ ¬ 62 = x ∧ ¬ 94 = x ∧ ¬ 124 = x ∧ ¬ 265 = x ∧ ¬ 266 = x ∧ ¬ 267 = x ∧ ¬ 268 = x ∧ ¬ 269 = x ∧ ¬ 270 = x ∧ ¬ 271 = x := by omega
set_option maxHeartbeats 2000000 in
theorem b_M_two_0 {ω : q_W} {σ : q_H} {Q : q_R → q_H → Prop} {d mc ms : Nat} {x0 : Int} {x1 : Int} {x2 : Int} {x3 : Int}  (hE : q_E σ) (h : inR x0 ∧ q_imp (x0 = 37) (inR x3 ∧ q_imp (x3 ≠ 0) ((inR x3 ∧ x3 ≠ 0) ∧ (Q (.inl (some (.int (zI (zRem x2 x3))))) σ)) ∧ q_imp (x3 = 0) ((Q (.inl (some (.int (zI x2)))) σ))) ∧ q_imp (x0 = 38) ((Q (.inl (some (.int (zI (zAnd x2 x3))))) σ)) ∧ q_imp (x0 = 42) (inR (x2 * x3) ∧ inR x1 ∧ (Q (.inl (some (.int (zI (zAnd (x2 * x3) (zShl 1 x1 - 1)))))) σ)) ∧ q_imp (x0 = 43) (inR (x2 + x3) ∧ inR x1 ∧ (Q (.inl (some (.int (zI (zAnd (x2 + x3) (zShl 1 x1 - 1)))))) σ)) ∧ q_imp (x0 = 45) (inR (x2 - x3) ∧ inR x1 ∧ (Q (.inl (some (.int (zI (zAnd (x2 - x3) (zShl 1 x1 - 1)))))) σ)) ∧ q_imp (x0 = 47) (inR x3 ∧ q_imp (x3 ≠ 0) ((inR x3 ∧ x3 ≠ 0) ∧ (Q (.inl (some (.int (zI (zDiv x2 x3))))) σ)) ∧ q_imp (x3 = 0) (inR x1 ∧ (Q (.inl (some (.int (zI (zAnd (-1) (zShl 1 x1 - 1)))))) σ))) ∧ q_imp (x0 = 60) (inR x2 ∧ inR x3 ∧ q_imp (x2 ≥ x3) ((Q (.inl (some (.int (zI 0)))) σ)) ∧ q_imp (x2 < x3) ((Q (.inl (some (.int (zI 1)))) σ))) ∧ q_imp (x0 = 62) (inR x2 ∧ inR x3 ∧ q_imp (x2 ≤ x3) ((Q (.inl (some (.int (zI 0)))) σ)) ∧ q_imp (x2 > x3) ((Q (.inl (some (.int (zI 1)))) σ))) ∧ q_imp (x0 = 94) ((Q (.inl (some (.int (zI (zXor x2 x3))))) σ)) ∧ q_imp (x0 = 124) ((Q (.inl (some (.int (zI (zOr x2 x3))))) σ)) ∧ q_imp (x0 = 265) (inR x2 ∧ inR x3 ∧ q_imp (x2 ≠ x3) ((Q (.inl (some (.int (zI 0)))) σ)) ∧ q_imp (x2 = x3) ((Q (.inl (some (.int (zI 1)))) σ))) ∧ q_imp (x0 = 266) (inR x2 ∧ inR x3 ∧ q_imp (x2 = x3) ((Q (.inl (some (.int (zI 0)))) σ)) ∧ q_imp (x2 ≠ x3) ((Q (.inl (some (.int (zI 1)))) σ))) ∧ q_imp (x0 = 267) (inR x2 ∧ inR x3 ∧ q_imp (x2 > x3) ((Q (.inl (some (.int (zI 0)))) σ)) ∧ q_imp (x2 ≤ x3) ((Q (.inl (some (.int (zI 1)))) σ))) ∧ q_imp (x0 = 268) (inR x2 ∧ inR x3 ∧ q_imp (x2 < x3) ((Q (.inl (some (.int (zI 0)))) σ)) ∧ q_imp (x2 ≥ x3) ((Q (.inl (some (.int (zI 1)))) σ))) ∧ q_imp (x0 = 269) (inR x3 ∧ inR x1 ∧ q_imp (x3 < x1) ((Q (.inl (some (.int (zI (zAnd (zShl x2 x3) (zShl 1 x1 - 1)))))) σ)) ∧ q_imp (x3 ≥ x1) ((Q (.inl (some (.int (zI 0)))) σ))) ∧ q_imp (x0 = 270) (inR x3 ∧ inR x1 ∧ q_imp (x3 < x1) ((Q (.inl (some (.int (zI (zShr x2 x3))))) σ)) ∧ q_imp (x3 ≥ x1) ((Q (.inl (some (.int (zI 0)))) σ))) ∧ q_imp (x0 = 271) (inR x2 ∧ q_imp (x2 = 0) ((Q (.inl (some (.int (zI 0)))) σ)) ∧ q_imp (x2 ≠ 0) (inR x3 ∧ q_imp (x3 = 0) ((Q (.inl (some (.int (zI 0)))) σ)) ∧ q_imp (x3 ≠ 0) ((Q (.inl (some (.int (zI 1)))) σ)))) ∧ q_imp (x0 ≠ 37 ∧ x0 ≠ 38 ∧ x0 ≠ 42 ∧ x0 ≠ 43 ∧ x0 ≠ 45 ∧ x0 ≠ 47 ∧ x0 ≠ 60 ∧ x0 ≠ 62 ∧ x0 ≠ 94 ∧ x0 ≠ 124 ∧ x0 ≠ 265 ∧ x0 ≠ 266 ∧ x0 ≠ 267 ∧ x0 ≠ 268 ∧ x0 ≠ 269 ∧ x0 ≠ 270 ∧ x0 ≠ 271) (inR x2 ∧ q_imp (x2 ≠ 0) ((Q (.inl (some (.int (zI 1)))) σ)) ∧ q_imp (x2 = 0) (inR x3 ∧ q_imp (x3 = 0) ((Q (.inl (some (.int (zI 0)))) σ)) ∧ q_imp (x3 ≠ 0) ((Q (.inl (some (.int (zI 1)))) σ))))) : J ω m_M_two (d + 1) mc ms 0 0 0 [(0, .int (zI x0)), (1, .int (zI x1)), (2, .int (zI x2)), (3, .int (zI x3))] [] σ Q := by
  refine j_iload_n d_M_two_0 0 rfl ?_
  obtain ⟨r1, h⟩ := h
  obtain ⟨g188, g200, g164, g148, g156, g172, g264, g286, g208, g204, g242, g253, g275, g297, g212, g229, g308, gD⟩ := h
  have jg188 : q_imp (x0 = 37) (J ω m_M_two (d + 1) mc ms 0 0 188 [(0, .int (zI x0)), (1, .int (zI x1)), (2, .int (zI x2)), (3, .int (zI x3))] [] σ Q) := by
    intro c
    have h := g188 c
    refine j_iload_n d_M_two_188 3 rfl ?_
    obtain ⟨r2, h⟩ := h
    obtain ⟨h1, h2⟩ := h
    refine zj_if_ne 196 d_M_two_189 (by decide) r2 (fun k3 => ?_) (fun k3 => ?_)
    · have h := h1 k3
      refine j_iload_n d_M_two_196 2 rfl ?_
      refine j_iload_n d_M_two_197 3 rfl ?_
      obtain ⟨c4, h⟩ := h
      refine zj_irem d_M_two_198 c4 ?_
      exact zj_iret d_M_two_199 rfl (Nat.zero_le _) (Nat.zero_le _) h
    · have h := h2 k3
      refine j_iload_n d_M_two_192 2 rfl ?_
      refine j_goto 199 d_M_two_193 (by decide) ?_
      exact zj_iret d_M_two_199 rfl (Nat.zero_le _) (Nat.zero_le _) h
  have jg200 : q_imp (x0 = 38) (J ω m_M_two (d + 1) mc ms 0 0 200 [(0, .int (zI x0)), (1, .int (zI x1)), (2, .int (zI x2)), (3, .int (zI x3))] [] σ Q) := by
    intro c
    have h := g200 c
    refine j_iload_n d_M_two_200 2 rfl ?_
    refine j_iload_n d_M_two_201 3 rfl ?_
    refine zj_iand d_M_two_202 ?_
    exact zj_iret d_M_two_203 rfl (Nat.zero_le _) (Nat.zero_le _) h
  have jg164 : q_imp (x0 = 42) (J ω m_M_two (d + 1) mc ms 0 0 164 [(0, .int (zI x0)), (1, .int (zI x1)), (2, .int (zI x2)), (3, .int (zI x3))] [] σ Q) := by
    intro c
    have h := g164 c
    refine j_iload_n d_M_two_164 2 rfl ?_
    refine j_iload_n d_M_two_165 3 rfl ?_
    refine zj_imul (x2 * x3) rfl d_M_two_166 ?_
    refine j_iload_n d_M_two_167 1 rfl ?_
    obtain ⟨r5, h⟩ := h
    obtain ⟨r6, h⟩ := h
    refine j_callS m_M_cut_2 [.int (zI (x2 * x3)), .int (zI x1)] [] 0 0 0 cS_M_384 d_M_two_168 rfl rfl (Nat.le_of_ble_eq_true rfl) (Nat.succ_le_succ (Nat.zero_le _)) (Nat.le_of_ble_eq_true rfl) (Nat.zero_le _) (Nat.zero_le _) (c_M_cut_2 hE r5 r6) (fun v τ h => ?_) (fun x τ h => absurd h.1 (by simp))
    obtain ⟨e1, e2⟩ := h; cases e1; rw [e2]
    exact zj_iret d_M_two_171 rfl (Nat.zero_le _) (Nat.zero_le _) h
  have jg148 : q_imp (x0 = 43) (J ω m_M_two (d + 1) mc ms 0 0 148 [(0, .int (zI x0)), (1, .int (zI x1)), (2, .int (zI x2)), (3, .int (zI x3))] [] σ Q) := by
    intro c
    have h := g148 c
    refine j_iload_n d_M_two_148 2 rfl ?_
    refine j_iload_n d_M_two_149 3 rfl ?_
    refine zj_iadd (x2 + x3) rfl d_M_two_150 ?_
    refine j_iload_n d_M_two_151 1 rfl ?_
    obtain ⟨r7, h⟩ := h
    obtain ⟨r8, h⟩ := h
    refine j_callS m_M_cut_2 [.int (zI (x2 + x3)), .int (zI x1)] [] 0 0 0 cS_M_384 d_M_two_152 rfl rfl (Nat.le_of_ble_eq_true rfl) (Nat.succ_le_succ (Nat.zero_le _)) (Nat.le_of_ble_eq_true rfl) (Nat.zero_le _) (Nat.zero_le _) (c_M_cut_2 hE r7 r8) (fun v τ h => ?_) (fun x τ h => absurd h.1 (by simp))
    obtain ⟨e1, e2⟩ := h; cases e1; rw [e2]
    exact zj_iret d_M_two_155 rfl (Nat.zero_le _) (Nat.zero_le _) h
  have jg156 : q_imp (x0 = 45) (J ω m_M_two (d + 1) mc ms 0 0 156 [(0, .int (zI x0)), (1, .int (zI x1)), (2, .int (zI x2)), (3, .int (zI x3))] [] σ Q) := by
    intro c
    have h := g156 c
    refine j_iload_n d_M_two_156 2 rfl ?_
    refine j_iload_n d_M_two_157 3 rfl ?_
    refine zj_isub (x2 - x3) rfl d_M_two_158 ?_
    refine j_iload_n d_M_two_159 1 rfl ?_
    obtain ⟨r9, h⟩ := h
    obtain ⟨r10, h⟩ := h
    refine j_callS m_M_cut_2 [.int (zI (x2 - x3)), .int (zI x1)] [] 0 0 0 cS_M_384 d_M_two_160 rfl rfl (Nat.le_of_ble_eq_true rfl) (Nat.succ_le_succ (Nat.zero_le _)) (Nat.le_of_ble_eq_true rfl) (Nat.zero_le _) (Nat.zero_le _) (c_M_cut_2 hE r9 r10) (fun v τ h => ?_) (fun x τ h => absurd h.1 (by simp))
    obtain ⟨e1, e2⟩ := h; cases e1; rw [e2]
    exact zj_iret d_M_two_163 rfl (Nat.zero_le _) (Nat.zero_le _) h
  have jg172 : q_imp (x0 = 47) (J ω m_M_two (d + 1) mc ms 0 0 172 [(0, .int (zI x0)), (1, .int (zI x1)), (2, .int (zI x2)), (3, .int (zI x3))] [] σ Q) := by
    intro c
    have h := g172 c
    refine j_iload_n d_M_two_172 3 rfl ?_
    obtain ⟨r11, h⟩ := h
    obtain ⟨h1, h2⟩ := h
    refine zj_if_ne 184 d_M_two_173 (by decide) r11 (fun k12 => ?_) (fun k12 => ?_)
    · have h := h1 k12
      refine j_iload_n d_M_two_184 2 rfl ?_
      refine j_iload_n d_M_two_185 3 rfl ?_
      obtain ⟨c13, h⟩ := h
      refine zj_idiv d_M_two_186 c13 ?_
      exact zj_iret d_M_two_187 rfl (Nat.zero_le _) (Nat.zero_le _) h
    · have h := h2 k12
      refine j_iconst (v := zI (-1)) d_M_two_176 (by decide) ?_
      refine j_iload_n d_M_two_177 1 rfl ?_
      obtain ⟨r14, h⟩ := h
      refine j_callS m_M_cut_2 [.int (zI (-1)), .int (zI x1)] [] 0 0 0 cS_M_384 d_M_two_178 rfl rfl (Nat.le_of_ble_eq_true rfl) (Nat.succ_le_succ (Nat.zero_le _)) (Nat.le_of_ble_eq_true rfl) (Nat.zero_le _) (Nat.zero_le _) (c_M_cut_2 hE ⟨by decide, by decide⟩ r14) (fun v τ h => ?_) (fun x τ h => absurd h.1 (by simp))
      obtain ⟨e1, e2⟩ := h; cases e1; rw [e2]
      refine j_goto 187 d_M_two_181 (by decide) ?_
      exact zj_iret d_M_two_187 rfl (Nat.zero_le _) (Nat.zero_le _) h
  have jg264 : q_imp (x0 = 60) (J ω m_M_two (d + 1) mc ms 0 0 264 [(0, .int (zI x0)), (1, .int (zI x1)), (2, .int (zI x2)), (3, .int (zI x3))] [] σ Q) := by
    intro c
    have h := g264 c
    refine j_iload_n d_M_two_264 2 rfl ?_
    refine j_iload_n d_M_two_265 3 rfl ?_
    obtain ⟨r15, h⟩ := h
    obtain ⟨r16, h⟩ := h
    obtain ⟨h1, h2⟩ := h
    refine zj_icmp_ge 273 d_M_two_266 (by decide) r15 r16 (fun k17 => ?_) (fun k17 => ?_)
    · have h := h1 k17
      refine j_iconst (v := zI 0) d_M_two_273 (by decide) ?_
      exact zj_iret d_M_two_274 rfl (Nat.zero_le _) (Nat.zero_le _) h
    · have h := h2 k17
      refine j_iconst (v := zI 1) d_M_two_269 (by decide) ?_
      refine j_goto 274 d_M_two_270 (by decide) ?_
      exact zj_iret d_M_two_274 rfl (Nat.zero_le _) (Nat.zero_le _) h
  have jg286 : q_imp (x0 = 62) (J ω m_M_two (d + 1) mc ms 0 0 286 [(0, .int (zI x0)), (1, .int (zI x1)), (2, .int (zI x2)), (3, .int (zI x3))] [] σ Q) := by
    intro c
    have h := g286 c
    refine j_iload_n d_M_two_286 2 rfl ?_
    refine j_iload_n d_M_two_287 3 rfl ?_
    obtain ⟨r18, h⟩ := h
    obtain ⟨r19, h⟩ := h
    obtain ⟨h1, h2⟩ := h
    refine zj_icmp_le 295 d_M_two_288 (by decide) r18 r19 (fun k20 => ?_) (fun k20 => ?_)
    · have h := h1 k20
      refine j_iconst (v := zI 0) d_M_two_295 (by decide) ?_
      exact zj_iret d_M_two_296 rfl (Nat.zero_le _) (Nat.zero_le _) h
    · have h := h2 k20
      refine j_iconst (v := zI 1) d_M_two_291 (by decide) ?_
      refine j_goto 296 d_M_two_292 (by decide) ?_
      exact zj_iret d_M_two_296 rfl (Nat.zero_le _) (Nat.zero_le _) h
  have jg208 : q_imp (x0 = 94) (J ω m_M_two (d + 1) mc ms 0 0 208 [(0, .int (zI x0)), (1, .int (zI x1)), (2, .int (zI x2)), (3, .int (zI x3))] [] σ Q) := by
    intro c
    have h := g208 c
    refine j_iload_n d_M_two_208 2 rfl ?_
    refine j_iload_n d_M_two_209 3 rfl ?_
    refine zj_ixor d_M_two_210 ?_
    exact zj_iret d_M_two_211 rfl (Nat.zero_le _) (Nat.zero_le _) h
  have jg204 : q_imp (x0 = 124) (J ω m_M_two (d + 1) mc ms 0 0 204 [(0, .int (zI x0)), (1, .int (zI x1)), (2, .int (zI x2)), (3, .int (zI x3))] [] σ Q) := by
    intro c
    have h := g204 c
    refine j_iload_n d_M_two_204 2 rfl ?_
    refine j_iload_n d_M_two_205 3 rfl ?_
    refine zj_ior d_M_two_206 ?_
    exact zj_iret d_M_two_207 rfl (Nat.zero_le _) (Nat.zero_le _) h
  have jg242 : q_imp (x0 = 265) (J ω m_M_two (d + 1) mc ms 0 0 242 [(0, .int (zI x0)), (1, .int (zI x1)), (2, .int (zI x2)), (3, .int (zI x3))] [] σ Q) := by
    intro c
    have h := g242 c
    refine j_iload_n d_M_two_242 2 rfl ?_
    refine j_iload_n d_M_two_243 3 rfl ?_
    obtain ⟨r21, h⟩ := h
    obtain ⟨r22, h⟩ := h
    obtain ⟨h1, h2⟩ := h
    refine zj_icmp_ne 251 d_M_two_244 (by decide) r21 r22 (fun k23 => ?_) (fun k23 => ?_)
    · have h := h1 k23
      refine j_iconst (v := zI 0) d_M_two_251 (by decide) ?_
      exact zj_iret d_M_two_252 rfl (Nat.zero_le _) (Nat.zero_le _) h
    · have h := h2 k23
      refine j_iconst (v := zI 1) d_M_two_247 (by decide) ?_
      refine j_goto 252 d_M_two_248 (by decide) ?_
      exact zj_iret d_M_two_252 rfl (Nat.zero_le _) (Nat.zero_le _) h
  have jg253 : q_imp (x0 = 266) (J ω m_M_two (d + 1) mc ms 0 0 253 [(0, .int (zI x0)), (1, .int (zI x1)), (2, .int (zI x2)), (3, .int (zI x3))] [] σ Q) := by
    intro c
    have h := g253 c
    refine j_iload_n d_M_two_253 2 rfl ?_
    refine j_iload_n d_M_two_254 3 rfl ?_
    obtain ⟨r24, h⟩ := h
    obtain ⟨r25, h⟩ := h
    obtain ⟨h1, h2⟩ := h
    refine zj_icmp_eq 262 d_M_two_255 (by decide) r24 r25 (fun k26 => ?_) (fun k26 => ?_)
    · have h := h1 k26
      refine j_iconst (v := zI 0) d_M_two_262 (by decide) ?_
      exact zj_iret d_M_two_263 rfl (Nat.zero_le _) (Nat.zero_le _) h
    · have h := h2 k26
      refine j_iconst (v := zI 1) d_M_two_258 (by decide) ?_
      refine j_goto 263 d_M_two_259 (by decide) ?_
      exact zj_iret d_M_two_263 rfl (Nat.zero_le _) (Nat.zero_le _) h
  have jg275 : q_imp (x0 = 267) (J ω m_M_two (d + 1) mc ms 0 0 275 [(0, .int (zI x0)), (1, .int (zI x1)), (2, .int (zI x2)), (3, .int (zI x3))] [] σ Q) := by
    intro c
    have h := g275 c
    refine j_iload_n d_M_two_275 2 rfl ?_
    refine j_iload_n d_M_two_276 3 rfl ?_
    obtain ⟨r27, h⟩ := h
    obtain ⟨r28, h⟩ := h
    obtain ⟨h1, h2⟩ := h
    refine zj_icmp_gt 284 d_M_two_277 (by decide) r27 r28 (fun k29 => ?_) (fun k29 => ?_)
    · have h := h1 k29
      refine j_iconst (v := zI 0) d_M_two_284 (by decide) ?_
      exact zj_iret d_M_two_285 rfl (Nat.zero_le _) (Nat.zero_le _) h
    · have h := h2 k29
      refine j_iconst (v := zI 1) d_M_two_280 (by decide) ?_
      refine j_goto 285 d_M_two_281 (by decide) ?_
      exact zj_iret d_M_two_285 rfl (Nat.zero_le _) (Nat.zero_le _) h
  have jg297 : q_imp (x0 = 268) (J ω m_M_two (d + 1) mc ms 0 0 297 [(0, .int (zI x0)), (1, .int (zI x1)), (2, .int (zI x2)), (3, .int (zI x3))] [] σ Q) := by
    intro c
    have h := g297 c
    refine j_iload_n d_M_two_297 2 rfl ?_
    refine j_iload_n d_M_two_298 3 rfl ?_
    obtain ⟨r30, h⟩ := h
    obtain ⟨r31, h⟩ := h
    obtain ⟨h1, h2⟩ := h
    refine zj_icmp_lt 306 d_M_two_299 (by decide) r30 r31 (fun k32 => ?_) (fun k32 => ?_)
    · have h := h1 k32
      refine j_iconst (v := zI 0) d_M_two_306 (by decide) ?_
      exact zj_iret d_M_two_307 rfl (Nat.zero_le _) (Nat.zero_le _) h
    · have h := h2 k32
      refine j_iconst (v := zI 1) d_M_two_302 (by decide) ?_
      refine j_goto 307 d_M_two_303 (by decide) ?_
      exact zj_iret d_M_two_307 rfl (Nat.zero_le _) (Nat.zero_le _) h
  have jg212 : q_imp (x0 = 269) (J ω m_M_two (d + 1) mc ms 0 0 212 [(0, .int (zI x0)), (1, .int (zI x1)), (2, .int (zI x2)), (3, .int (zI x3))] [] σ Q) := by
    intro c
    have h := g212 c
    refine j_iload_n d_M_two_212 3 rfl ?_
    refine j_iload_n d_M_two_213 1 rfl ?_
    obtain ⟨r33, h⟩ := h
    obtain ⟨r34, h⟩ := h
    obtain ⟨h1, h2⟩ := h
    refine zj_icmp_lt 221 d_M_two_214 (by decide) r33 r34 (fun k35 => ?_) (fun k35 => ?_)
    · have h := h1 k35
      refine j_iload_n d_M_two_221 2 rfl ?_
      refine j_iload_n d_M_two_222 3 rfl ?_
      refine zj_ishl d_M_two_223 ?_
      refine j_iload_n d_M_two_224 1 rfl ?_
      refine j_callS m_M_cut_2 [.int (zI (zShl x2 x3)), .int (zI x1)] [] 0 0 0 cS_M_384 d_M_two_225 rfl rfl (Nat.le_of_ble_eq_true rfl) (Nat.succ_le_succ (Nat.zero_le _)) (Nat.le_of_ble_eq_true rfl) (Nat.zero_le _) (Nat.zero_le _) (c_M_cut_2 hE (inR_of _) r34) (fun v τ h => ?_) (fun x τ h => absurd h.1 (by simp))
      obtain ⟨e1, e2⟩ := h; cases e1; rw [e2]
      exact zj_iret d_M_two_228 rfl (Nat.zero_le _) (Nat.zero_le _) h
    · have h := h2 k35
      refine j_iconst (v := zI 0) d_M_two_217 (by decide) ?_
      refine j_goto 228 d_M_two_218 (by decide) ?_
      exact zj_iret d_M_two_228 rfl (Nat.zero_le _) (Nat.zero_le _) h
  have jg229 : q_imp (x0 = 270) (J ω m_M_two (d + 1) mc ms 0 0 229 [(0, .int (zI x0)), (1, .int (zI x1)), (2, .int (zI x2)), (3, .int (zI x3))] [] σ Q) := by
    intro c
    have h := g229 c
    refine j_iload_n d_M_two_229 3 rfl ?_
    refine j_iload_n d_M_two_230 1 rfl ?_
    obtain ⟨r36, h⟩ := h
    obtain ⟨r37, h⟩ := h
    obtain ⟨h1, h2⟩ := h
    refine zj_icmp_lt 238 d_M_two_231 (by decide) r36 r37 (fun k38 => ?_) (fun k38 => ?_)
    · have h := h1 k38
      refine j_iload_n d_M_two_238 2 rfl ?_
      refine j_iload_n d_M_two_239 3 rfl ?_
      refine zj_ishr d_M_two_240 ?_
      exact zj_iret d_M_two_241 rfl (Nat.zero_le _) (Nat.zero_le _) h
    · have h := h2 k38
      refine j_iconst (v := zI 0) d_M_two_234 (by decide) ?_
      refine j_goto 241 d_M_two_235 (by decide) ?_
      exact zj_iret d_M_two_241 rfl (Nat.zero_le _) (Nat.zero_le _) h
  have jg308 : q_imp (x0 = 271) (J ω m_M_two (d + 1) mc ms 0 0 308 [(0, .int (zI x0)), (1, .int (zI x1)), (2, .int (zI x2)), (3, .int (zI x3))] [] σ Q) := by
    intro c
    have h := g308 c
    refine j_iload_n d_M_two_308 2 rfl ?_
    obtain ⟨r39, h⟩ := h
    obtain ⟨h1, h2⟩ := h
    refine zj_if_eq 320 d_M_two_309 (by decide) r39 (fun k40 => ?_) (fun k40 => ?_)
    · have h := h1 k40
      refine j_iconst (v := zI 0) d_M_two_320 (by decide) ?_
      exact zj_iret d_M_two_321 rfl (Nat.zero_le _) (Nat.zero_le _) h
    · have h := h2 k40
      refine j_iload_n d_M_two_312 3 rfl ?_
      obtain ⟨r41, h⟩ := h
      obtain ⟨h1, h2⟩ := h
      refine zj_if_eq 320 d_M_two_313 (by decide) r41 (fun k42 => ?_) (fun k42 => ?_)
      · have h := h1 k42
        refine j_iconst (v := zI 0) d_M_two_320 (by decide) ?_
        exact zj_iret d_M_two_321 rfl (Nat.zero_le _) (Nat.zero_le _) h
      · have h := h2 k42
        refine j_iconst (v := zI 1) d_M_two_316 (by decide) ?_
        refine j_goto 321 d_M_two_317 (by decide) ?_
        exact zj_iret d_M_two_321 rfl (Nat.zero_le _) (Nat.zero_le _) h
  have jgD : q_imp (x0 ≠ 37 ∧ x0 ≠ 38 ∧ x0 ≠ 42 ∧ x0 ≠ 43 ∧ x0 ≠ 45 ∧ x0 ≠ 47 ∧ x0 ≠ 60 ∧ x0 ≠ 62 ∧ x0 ≠ 94 ∧ x0 ≠ 124 ∧ x0 ≠ 265 ∧ x0 ≠ 266 ∧ x0 ≠ 267 ∧ x0 ≠ 268 ∧ x0 ≠ 269 ∧ x0 ≠ 270 ∧ x0 ≠ 271) (J ω m_M_two (d + 1) mc ms 0 0 322 [(0, .int (zI x0)), (1, .int (zI x1)), (2, .int (zI x2)), (3, .int (zI x3))] [] σ Q) := by
    intro c
    have h := gD c
    refine j_iload_n d_M_two_322 2 rfl ?_
    obtain ⟨r43, h⟩ := h
    obtain ⟨h1, h2⟩ := h
    refine zj_if_ne 330 d_M_two_323 (by decide) r43 (fun k44 => ?_) (fun k44 => ?_)
    · have h := h1 k44
      refine j_iconst (v := zI 1) d_M_two_330 (by decide) ?_
      refine j_goto 335 d_M_two_331 (by decide) ?_
      exact zj_iret d_M_two_335 rfl (Nat.zero_le _) (Nat.zero_le _) h
    · have h := h2 k44
      refine j_iload_n d_M_two_326 3 rfl ?_
      obtain ⟨r45, h⟩ := h
      obtain ⟨h1, h2⟩ := h
      refine zj_if_eq 334 d_M_two_327 (by decide) r45 (fun k46 => ?_) (fun k46 => ?_)
      · have h := h1 k46
        refine j_iconst (v := zI 0) d_M_two_334 (by decide) ?_
        exact zj_iret d_M_two_335 rfl (Nat.zero_le _) (Nat.zero_le _) h
      · have h := h2 k46
        refine j_iconst (v := zI 1) d_M_two_330 (by decide) ?_
        refine j_goto 335 d_M_two_331 (by decide) ?_
        exact zj_iret d_M_two_335 rfl (Nat.zero_le _) (Nat.zero_le _) h
  by_cases cs37 : x0 = 37
  · exact j_topE (v := zI 37) (by rw [cs37]) (j_lookup 188 d_M_two_1 (by decide) (by rfl) (by decide) (jg188 cs37))
  by_cases cs38 : x0 = 38
  · exact j_topE (v := zI 38) (by rw [cs38]) (j_lookup 200 d_M_two_1 (by decide) (by rfl) (by decide) (jg200 cs38))
  by_cases cs42 : x0 = 42
  · exact j_topE (v := zI 42) (by rw [cs42]) (j_lookup 164 d_M_two_1 (by decide) (by rfl) (by decide) (jg164 cs42))
  by_cases cs43 : x0 = 43
  · exact j_topE (v := zI 43) (by rw [cs43]) (j_lookup 148 d_M_two_1 (by decide) (by rfl) (by decide) (jg148 cs43))
  by_cases cs45 : x0 = 45
  · exact j_topE (v := zI 45) (by rw [cs45]) (j_lookup 156 d_M_two_1 (by decide) (by rfl) (by decide) (jg156 cs45))
  by_cases cs47 : x0 = 47
  · exact j_topE (v := zI 47) (by rw [cs47]) (j_lookup 172 d_M_two_1 (by decide) (by rfl) (by decide) (jg172 cs47))
  by_cases cs60 : x0 = 60
  · exact j_topE (v := zI 60) (by rw [cs60]) (j_lookup 264 d_M_two_1 (by decide) (by rfl) (by decide) (jg264 cs60))
  by_cases cs62 : x0 = 62
  · exact j_topE (v := zI 62) (by rw [cs62]) (j_lookup 286 d_M_two_1 (by decide) (by rfl) (by decide) (jg286 cs62))
  by_cases cs94 : x0 = 94
  · exact j_topE (v := zI 94) (by rw [cs94]) (j_lookup 208 d_M_two_1 (by decide) (by rfl) (by decide) (jg208 cs94))
  by_cases cs124 : x0 = 124
  · exact j_topE (v := zI 124) (by rw [cs124]) (j_lookup 204 d_M_two_1 (by decide) (by rfl) (by decide) (jg204 cs124))
  by_cases cs265 : x0 = 265
  · exact j_topE (v := zI 265) (by rw [cs265]) (j_lookup 242 d_M_two_1 (by decide) (by rfl) (by decide) (jg242 cs265))
  by_cases cs266 : x0 = 266
  · exact j_topE (v := zI 266) (by rw [cs266]) (j_lookup 253 d_M_two_1 (by decide) (by rfl) (by decide) (jg253 cs266))
  by_cases cs267 : x0 = 267
  · exact j_topE (v := zI 267) (by rw [cs267]) (j_lookup 275 d_M_two_1 (by decide) (by rfl) (by decide) (jg275 cs267))
  by_cases cs268 : x0 = 268
  · exact j_topE (v := zI 268) (by rw [cs268]) (j_lookup 297 d_M_two_1 (by decide) (by rfl) (by decide) (jg297 cs268))
  by_cases cs269 : x0 = 269
  · exact j_topE (v := zI 269) (by rw [cs269]) (j_lookup 212 d_M_two_1 (by decide) (by rfl) (by decide) (jg212 cs269))
  by_cases cs270 : x0 = 270
  · exact j_topE (v := zI 270) (by rw [cs270]) (j_lookup 229 d_M_two_1 (by decide) (by rfl) (by decide) (jg229 cs270))
  by_cases cs271 : x0 = 271
  · exact j_topE (v := zI 271) (by rw [cs271]) (j_lookup 308 d_M_two_1 (by decide) (by rfl) (by decide) (jg308 cs271))
  exact zj_lookd 322 d_M_two_1 (by decide) r1 (by simp; exact o_M_two_1 cs37 cs38 cs42 cs43 cs45 cs47 cs60 cs62 cs94 cs124 cs265 cs266 cs267 cs268 cs269 cs270 cs271) (by decide) (jgD ⟨cs37, cs38, cs42, cs43, cs45, cs47, cs60, cs62, cs94, cs124, cs265, cs266, cs267, cs268, cs269, cs270, cs271⟩)
set_option maxHeartbeats 2000000 in
theorem b_M_asked_0 {ω : q_W} {σ : q_H} {Q : q_R → q_H → Prop} {d mc ms : Nat} {x1 : Int} {s : Nat} (hs : s = 110 ∨ s = 116) (rs0 : q_r σ 94 32 = s) (rs1 : q_r σ 94 33 = (s + 1)) (rs2 : q_r σ 94 34 = (s + 2)) (rs3 : q_r σ 94 35 = (s + 3)) (rs4 : q_r σ 94 36 = (s + 4)) (rs5 : q_r σ 94 37 = (s + 5)) (hE : q_E σ) (h : inR x1 ∧ q_imp (0 ≤ x1) ((Q (.inl (some (.int (zI 1)))) (zs (zs σ 94 0 0) 94 62 x1))) ∧ q_imp (x1 < 0) ((Q (.inl (some (.int (zI 0)))) (zs (zs σ 94 0 0) 94 62 x1)))) : J ω m_M_asked d mc ms 0 0 0 [(0, .ref 94), (1, .int (zI x1))] [] σ Q := by
  refine j_aload_n d_M_asked_0 0 rfl ?_
  refine j_iconst (v := zI 0) d_M_asked_1 (by decide) ?_
  refine zj_putI (g_M_141 _) d_M_asked_2 (tg_94 hE) (q_okE hE (by decide)) ?_
  refine j_aload_n d_M_asked_5 0 rfl ?_
  refine j_iload_n d_M_asked_6 1 rfl ?_
  refine zj_putI (g_M_129 _) d_M_asked_7 (tg_94 (zs_E hE)) (q_okE (zs_E hE) (by decide)) ?_
  refine j_iload_n d_M_asked_10 1 rfl ?_
  obtain ⟨r1, h⟩ := h
  obtain ⟨h1, h2⟩ := h
  refine zj_if_ge 18 d_M_asked_11 (by decide) r1 (fun k2 => ?_) (fun k2 => ?_)
  · have h := h1 k2
    refine j_iconst (v := zI 1) d_M_asked_18 (by decide) ?_
    exact zj_iret d_M_asked_19 rfl (Nat.zero_le _) (Nat.zero_le _) h
  · have h := h2 k2
    refine j_iconst (v := zI 0) d_M_asked_14 (by decide) ?_
    refine j_goto 19 d_M_asked_15 (by decide) ?_
    exact zj_iret d_M_asked_19 rfl (Nat.zero_le _) (Nat.zero_le _) h
set_option maxHeartbeats 2000000 in
theorem b_M_failsAt_0 {ω : q_W} {σ : q_H} {Q : q_R → q_H → Prop} {d mc ms : Nat} {x1 : Int} {s : Nat} (hs : s = 110 ∨ s = 116) (rs0 : q_r σ 94 32 = s) (rs1 : q_r σ 94 33 = (s + 1)) (rs2 : q_r σ 94 34 = (s + 2)) (rs3 : q_r σ 94 35 = (s + 3)) (rs4 : q_r σ 94 36 = (s + 4)) (rs5 : q_r σ 94 37 = (s + 5)) (hE : q_E σ) (h : (J ω m_M_questions d 0 0 0 0 0 [(0, .ref 94)] [] σ (q_ki (fun v τ => J ω m_M_failsAt (d + 1) mc ms 0 0 4 [(0, .ref 94), (1, .int (zI x1))] [.int (zI v)] τ Q)))) : J ω m_M_failsAt (d + 1) mc ms 0 0 0 [(0, .ref 94), (1, .int (zI x1))] [] σ Q := by
  refine j_aload_n d_M_failsAt_0 0 rfl ?_
  refine j_callV m_M_questions [] [] d 0 0 cV_M_402 d_M_failsAt_1 rfl rfl (tg_94 hE) (q_okE hE (by decide)) (Nat.le_of_ble_eq_true rfl) (Nat.le_refl _) (Nat.le_of_ble_eq_true rfl) (Nat.zero_le _) (Nat.zero_le _) h (fun v τ h => ?_) (fun x τ h => ?_)
  · obtain ⟨v, hv, e1, h⟩ := h; cases e1; exact j_sel [0, 1] rfl h
  · obtain ⟨v, hv, e1, h⟩ := h; cases e1
set_option maxHeartbeats 2000000 in
theorem b_M_failsAt_4 {ω : q_W} {σ : q_H} {Q : q_R → q_H → Prop} {d mc ms : Nat} {x1 : Int} {y0 : Int} {s : Nat} (hs : s = 110 ∨ s = 116) (rs0 : q_r σ 94 32 = s) (rs1 : q_r σ 94 33 = (s + 1)) (rs2 : q_r σ 94 34 = (s + 2)) (rs3 : q_r σ 94 35 = (s + 3)) (rs4 : q_r σ 94 36 = (s + 4)) (rs5 : q_r σ 94 37 = (s + 5)) (hE : q_E σ) (h : inR y0 ∧ q_imp (y0 ≠ 0) (inR x1 ∧ q_imp (x1 < 0) ((J ω m_M_no d 0 0 0 0 0 [(0, .ref 94), (1, .int (zI 2))] [] σ (q_ki (fun v τ => J ω m_M_failsAt (d + 1) mc ms 0 0 30 [] [.int (zI v)] τ Q)))) ∧ q_imp (0 ≤ x1) (q_imp (x1 < (z σ 94 28)) ((J ω m_M_failsAt (d + 1) mc ms 0 0 33 [(0, .ref 94), (1, .int (zI x1)), (2, .int (zI 0))] [] σ Q)) ∧ q_imp (x1 ≥ (z σ 94 28)) ((J ω m_M_no d 0 0 0 0 0 [(0, .ref 94), (1, .int (zI 2))] [] σ (q_ki (fun v τ => J ω m_M_failsAt (d + 1) mc ms 0 0 30 [] [.int (zI v)] τ Q)))))) ∧ q_imp (y0 = 0) ((J ω m_M_no d 0 0 0 0 0 [(0, .ref 94), (1, .int (zI 1))] [] σ (q_ki (fun v τ => J ω m_M_failsAt (d + 1) mc ms 0 0 12 [] [.int (zI v)] τ Q))))) : J ω m_M_failsAt (d + 1) mc ms 0 0 4 [(0, .ref 94), (1, .int (zI x1))] [.int (zI y0)] σ Q := by
  obtain ⟨r1, h⟩ := h
  obtain ⟨h1, h2⟩ := h
  refine zj_if_ne 13 d_M_failsAt_4 (by decide) r1 (fun k2 => ?_) (fun k2 => ?_)
  · have h := h1 k2
    refine j_iload_n d_M_failsAt_13 1 rfl ?_
    obtain ⟨r3, h⟩ := h
    obtain ⟨h1, h2⟩ := h
    refine zj_if_lt 25 d_M_failsAt_14 (by decide) r3 (fun k4 => ?_) (fun k4 => ?_)
    · have h := h1 k4
      refine j_aload_n d_M_failsAt_25 0 rfl ?_
      refine j_iconst (v := zI 2) d_M_failsAt_26 (by decide) ?_
      refine j_callV m_M_no [.int (zI 2)] [] d 0 0 cV_M_147 d_M_failsAt_27 rfl rfl (tg_94 hE) (q_okE hE (by decide)) (Nat.le_of_ble_eq_true rfl) (Nat.le_refl _) (Nat.le_of_ble_eq_true rfl) (Nat.zero_le _) (Nat.zero_le _) h (fun v τ h => ?_) (fun x τ h => ?_)
      · obtain ⟨v, hv, e1, h⟩ := h; cases e1; exact j_sel [] rfl h
      · obtain ⟨v, hv, e1, h⟩ := h; cases e1
    · have h := h2 k4
      refine j_iload_n d_M_failsAt_17 1 rfl ?_
      refine j_aload_n d_M_failsAt_18 0 rfl ?_
      refine zj_getI (z σ 94 28) f_M_363 d_M_failsAt_19 (tg_94 hE) (q_okE hE (by decide)) (q_z _ _ _) ?_
      obtain ⟨h1, h2⟩ := h
      refine zj_icmp_lt 31 d_M_failsAt_22 (by decide) r3 (z_R _ _ _) (fun k5 => ?_) (fun k5 => ?_)
      · have h := h1 k5
        refine j_iconst (v := zI 0) d_M_failsAt_31 (by decide) ?_
        refine j_istore_n (L' := [(2, .int (zI 0)), (0, .ref 94), (1, .int (zI x1))]) d_M_failsAt_32 (by decide) rfl ?_
        exact j_sel [1, 2, 0] rfl h
      · have h := h2 k5
        refine j_aload_n d_M_failsAt_25 0 rfl ?_
        refine j_iconst (v := zI 2) d_M_failsAt_26 (by decide) ?_
        refine j_callV m_M_no [.int (zI 2)] [] d 0 0 cV_M_147 d_M_failsAt_27 rfl rfl (tg_94 hE) (q_okE hE (by decide)) (Nat.le_of_ble_eq_true rfl) (Nat.le_refl _) (Nat.le_of_ble_eq_true rfl) (Nat.zero_le _) (Nat.zero_le _) h (fun v τ h => ?_) (fun x τ h => ?_)
        · obtain ⟨v, hv, e1, h⟩ := h; cases e1; exact j_sel [] rfl h
        · obtain ⟨v, hv, e1, h⟩ := h; cases e1
  · have h := h2 k2
    refine j_aload_n d_M_failsAt_7 0 rfl ?_
    refine j_iconst (v := zI 1) d_M_failsAt_8 (by decide) ?_
    refine j_callV m_M_no [.int (zI 1)] [] d 0 0 cV_M_147 d_M_failsAt_9 rfl rfl (tg_94 hE) (q_okE hE (by decide)) (Nat.le_of_ble_eq_true rfl) (Nat.le_refl _) (Nat.le_of_ble_eq_true rfl) (Nat.zero_le _) (Nat.zero_le _) h (fun v τ h => ?_) (fun x τ h => ?_)
    · obtain ⟨v, hv, e1, h⟩ := h; cases e1; exact j_sel [] rfl h
    · obtain ⟨v, hv, e1, h⟩ := h; cases e1
set_option maxHeartbeats 2000000 in
theorem b_M_failsAt_30 {ω : q_W} {σ : q_H} {Q : q_R → q_H → Prop} {d mc ms : Nat} {y0 : Int} {s : Nat} (hs : s = 110 ∨ s = 116) (rs0 : q_r σ 94 32 = s) (rs1 : q_r σ 94 33 = (s + 1)) (rs2 : q_r σ 94 34 = (s + 2)) (rs3 : q_r σ 94 35 = (s + 3)) (rs4 : q_r σ 94 36 = (s + 4)) (rs5 : q_r σ 94 37 = (s + 5)) (hE : q_E σ) (h : (Q (.inl (some (.int (zI y0)))) σ)) : J ω m_M_failsAt (d + 1) mc ms 0 0 30 [] [.int (zI y0)] σ Q := by
  exact zj_iret d_M_failsAt_30 rfl (Nat.zero_le _) (Nat.zero_le _) h
set_option maxHeartbeats 2000000 in
theorem b_M_failsAt_33 {ω : q_W} {σ : q_H} {Q : q_R → q_H → Prop} {d mc ms : Nat} {x1 : Int} {x2 : Int} {s : Nat} (hs : s = 110 ∨ s = 116) (rs0 : q_r σ 94 32 = s) (rs1 : q_r σ 94 33 = (s + 1)) (rs2 : q_r σ 94 34 = (s + 2)) (rs3 : q_r σ 94 35 = (s + 3)) (rs4 : q_r σ 94 36 = (s + 4)) (rs5 : q_r σ 94 37 = (s + 5)) (hE : q_E σ) (h : inR x2 ∧ q_imp (x2 ≥ (zShl 1 (z σ 94 29))) ((J ω m_M_asked d 0 0 0 0 0 [(0, .ref 94), (1, .int (zI (-1)))] [] σ (q_ki (fun v τ => J ω m_M_failsAt (d + 1) mc ms 0 0 80 [] [.int (zI v)] τ Q)))) ∧ q_imp (x2 < (zShl 1 (z σ 94 29))) ((0 ≤ x2 ∧ x2 < 4096) ∧ q_imp ((z σ 122 x2.toNat) ≠ 1) ((J ω m_M_failsAt (d + 1) mc ms 0 0 33 [(0, .ref 94), (1, .int (zI x1)), (2, .int (zI (x2 + 1)))] [] σ Q)) ∧ q_imp ((z σ 122 x2.toNat) = 1) (inR x1 ∧ q_imp ((z σ 131 x2.toNat) ≠ x1) ((J ω m_M_failsAt (d + 1) mc ms 0 0 33 [(0, .ref 94), (1, .int (zI x1)), (2, .int (zI (x2 + 1)))] [] σ Q)) ∧ q_imp ((z σ 131 x2.toNat) = x1) ((J ω m_M_asked d 0 0 0 0 0 [(0, .ref 94), (1, .int (zI x2))] [] σ (q_ki (fun v τ => J ω m_M_failsAt (d + 1) mc ms 0 0 68 [] [.int (zI v)] τ Q))))))) : J ω m_M_failsAt (d + 1) mc ms 0 0 33 [(0, .ref 94), (1, .int (zI x1)), (2, .int (zI x2))] [] σ Q := by
  refine j_iload_n d_M_failsAt_33 2 rfl ?_
  refine j_iconst (v := zI 1) d_M_failsAt_34 (by decide) ?_
  refine j_aload_n d_M_failsAt_35 0 rfl ?_
  refine zj_getI (z σ 94 29) f_M_366 d_M_failsAt_36 (tg_94 hE) (q_okE hE (by decide)) (q_z _ _ _) ?_
  refine zj_ishl d_M_failsAt_39 ?_
  obtain ⟨r6, h⟩ := h
  obtain ⟨h1, h2⟩ := h
  refine zj_icmp_ge 75 d_M_failsAt_40 (by decide) r6 (inR_of _) (fun k7 => ?_) (fun k7 => ?_)
  · have h := h1 k7
    refine j_aload_n d_M_failsAt_75 0 rfl ?_
    refine j_iconst (v := zI (-1)) d_M_failsAt_76 (by decide) ?_
    refine j_callV m_M_asked [.int (zI (-1))] [] d 0 0 cV_M_406 d_M_failsAt_77 rfl rfl (tg_94 hE) (q_okE hE (by decide)) (Nat.le_of_ble_eq_true rfl) (Nat.le_refl _) (Nat.le_of_ble_eq_true rfl) (Nat.zero_le _) (Nat.zero_le _) h (fun v τ h => ?_) (fun x τ h => ?_)
    · obtain ⟨v, hv, e1, h⟩ := h; cases e1; exact j_sel [] rfl h
    · obtain ⟨v, hv, e1, h⟩ := h; cases e1
  · have h := h2 k7
    refine j_aload_n d_M_failsAt_43 0 rfl ?_
    refine j_getR 122 f_M_104 d_M_failsAt_44 (tg_94 hE) (q_okE hE (by decide)) (rf_94_52 hE) (by decide) ?_
    refine j_iload_n d_M_failsAt_47 2 rfl ?_
    obtain ⟨c8, h⟩ := h
    refine zj_bald (z σ 122 x2.toNat) d_M_failsAt_48 (tg_122 hE) (q_okE hE (by decide)) c8 (by decide) (q_z _ _ _) ?_
    refine j_iconst (v := zI 1) d_M_failsAt_49 (by decide) ?_
    obtain ⟨h1, h2⟩ := h
    refine zj_icmp_ne 69 d_M_failsAt_50 (by decide) (z_R _ _ _) ⟨by decide, by decide⟩ (fun k9 => ?_) (fun k9 => ?_)
    · have h := h1 k9
      refine zj_iinc (L' := [(2, .int (zI (x2 + 1))), (0, .ref 94), (1, .int (zI x1))]) (x2 + 1) d_M_failsAt_69 2 rfl (by omega) (by decide) rfl ?_
      refine j_goto 33 d_M_failsAt_72 (by decide) ?_
      exact j_sel [1, 2, 0] rfl h
    · have h := h2 k9
      refine j_aload_n d_M_failsAt_53 0 rfl ?_
      refine j_getR 131 f_M_138 d_M_failsAt_54 (tg_94 hE) (q_okE hE (by decide)) (rf_94_66 hE) (by decide) ?_
      refine j_iload_n d_M_failsAt_57 2 rfl ?_
      refine zj_iald (z σ 131 x2.toNat) d_M_failsAt_58 (tg_131 hE) (q_okE hE (by decide)) c8 (by decide) (q_z _ _ _) ?_
      refine j_iload_n d_M_failsAt_59 1 rfl ?_
      obtain ⟨r10, h⟩ := h
      obtain ⟨h1, h2⟩ := h
      refine zj_icmp_ne 69 d_M_failsAt_60 (by decide) (z_R _ _ _) r10 (fun k11 => ?_) (fun k11 => ?_)
      · have h := h1 k11
        refine zj_iinc (L' := [(2, .int (zI (x2 + 1))), (0, .ref 94), (1, .int (zI x1))]) (x2 + 1) d_M_failsAt_69 2 rfl (by omega) (by decide) rfl ?_
        refine j_goto 33 d_M_failsAt_72 (by decide) ?_
        exact j_sel [1, 2, 0] rfl h
      · have h := h2 k11
        refine j_aload_n d_M_failsAt_63 0 rfl ?_
        refine j_iload_n d_M_failsAt_64 2 rfl ?_
        refine j_callV m_M_asked [.int (zI x2)] [] d 0 0 cV_M_406 d_M_failsAt_65 rfl rfl (tg_94 hE) (q_okE hE (by decide)) (Nat.le_of_ble_eq_true rfl) (Nat.le_refl _) (Nat.le_of_ble_eq_true rfl) (Nat.zero_le _) (Nat.zero_le _) h (fun v τ h => ?_) (fun x τ h => ?_)
        · obtain ⟨v, hv, e1, h⟩ := h; cases e1; exact j_sel [] rfl h
        · obtain ⟨v, hv, e1, h⟩ := h; cases e1
set_option maxHeartbeats 2000000 in
theorem b_M_failsAt_12 {ω : q_W} {σ : q_H} {Q : q_R → q_H → Prop} {d mc ms : Nat} {y0 : Int} {s : Nat} (hs : s = 110 ∨ s = 116) (rs0 : q_r σ 94 32 = s) (rs1 : q_r σ 94 33 = (s + 1)) (rs2 : q_r σ 94 34 = (s + 2)) (rs3 : q_r σ 94 35 = (s + 3)) (rs4 : q_r σ 94 36 = (s + 4)) (rs5 : q_r σ 94 37 = (s + 5)) (hE : q_E σ) (h : (Q (.inl (some (.int (zI y0)))) σ)) : J ω m_M_failsAt (d + 1) mc ms 0 0 12 [] [.int (zI y0)] σ Q := by
  exact zj_iret d_M_failsAt_12 rfl (Nat.zero_le _) (Nat.zero_le _) h
set_option maxHeartbeats 2000000 in
theorem b_M_failsAt_80 {ω : q_W} {σ : q_H} {Q : q_R → q_H → Prop} {d mc ms : Nat} {y0 : Int} {s : Nat} (hs : s = 110 ∨ s = 116) (rs0 : q_r σ 94 32 = s) (rs1 : q_r σ 94 33 = (s + 1)) (rs2 : q_r σ 94 34 = (s + 2)) (rs3 : q_r σ 94 35 = (s + 3)) (rs4 : q_r σ 94 36 = (s + 4)) (rs5 : q_r σ 94 37 = (s + 5)) (hE : q_E σ) (h : (Q (.inl (some (.int (zI y0)))) σ)) : J ω m_M_failsAt (d + 1) mc ms 0 0 80 [] [.int (zI y0)] σ Q := by
  exact zj_iret d_M_failsAt_80 rfl (Nat.zero_le _) (Nat.zero_le _) h
set_option maxHeartbeats 2000000 in
theorem b_M_failsAt_68 {ω : q_W} {σ : q_H} {Q : q_R → q_H → Prop} {d mc ms : Nat} {y0 : Int} {s : Nat} (hs : s = 110 ∨ s = 116) (rs0 : q_r σ 94 32 = s) (rs1 : q_r σ 94 33 = (s + 1)) (rs2 : q_r σ 94 34 = (s + 2)) (rs3 : q_r σ 94 35 = (s + 3)) (rs4 : q_r σ 94 36 = (s + 4)) (rs5 : q_r σ 94 37 = (s + 5)) (hE : q_E σ) (h : (Q (.inl (some (.int (zI y0)))) σ)) : J ω m_M_failsAt (d + 1) mc ms 0 0 68 [] [.int (zI y0)] σ Q := by
  exact zj_iret d_M_failsAt_68 rfl (Nat.zero_le _) (Nat.zero_le _) h
set_option maxHeartbeats 2000000 in
theorem b_M_least_0 {ω : q_W} {σ : q_H} {Q : q_R → q_H → Prop} {d mc ms : Nat} {x1 : Int} {s : Nat} (hs : s = 110 ∨ s = 116) (rs0 : q_r σ 94 32 = s) (rs1 : q_r σ 94 33 = (s + 1)) (rs2 : q_r σ 94 34 = (s + 2)) (rs3 : q_r σ 94 35 = (s + 3)) (rs4 : q_r σ 94 36 = (s + 4)) (rs5 : q_r σ 94 37 = (s + 5)) (hE : q_E σ) (h : (J ω m_M_extreme d 0 0 0 0 0 [(0, .ref 94), (1, .int (zI x1)), (2, .int (zI 1))] [] σ (q_ki (fun v τ => J ω m_M_least (d + 1) mc ms 0 0 6 [] [.int (zI v)] τ Q)))) : J ω m_M_least (d + 1) mc ms 0 0 0 [(0, .ref 94), (1, .int (zI x1))] [] σ Q := by
  refine j_aload_n d_M_least_0 0 rfl ?_
  refine j_iload_n d_M_least_1 1 rfl ?_
  refine j_iconst (v := zI 1) d_M_least_2 (by decide) ?_
  refine j_callV m_M_extreme [.int (zI x1), .int (zI 1)] [] d 0 0 cV_M_415 d_M_least_3 rfl rfl (tg_94 hE) (q_okE hE (by decide)) (Nat.le_of_ble_eq_true rfl) (Nat.le_refl _) (Nat.le_of_ble_eq_true rfl) (Nat.zero_le _) (Nat.zero_le _) h (fun v τ h => ?_) (fun x τ h => ?_)
  · obtain ⟨v, hv, e1, h⟩ := h; cases e1; exact j_sel [] rfl h
  · obtain ⟨v, hv, e1, h⟩ := h; cases e1
set_option maxHeartbeats 2000000 in
theorem b_M_least_6 {ω : q_W} {σ : q_H} {Q : q_R → q_H → Prop} {d mc ms : Nat} {y0 : Int} {s : Nat} (hs : s = 110 ∨ s = 116) (rs0 : q_r σ 94 32 = s) (rs1 : q_r σ 94 33 = (s + 1)) (rs2 : q_r σ 94 34 = (s + 2)) (rs3 : q_r σ 94 35 = (s + 3)) (rs4 : q_r σ 94 36 = (s + 4)) (rs5 : q_r σ 94 37 = (s + 5)) (hE : q_E σ) (h : (Q (.inl (some (.int (zI y0)))) σ)) : J ω m_M_least (d + 1) mc ms 0 0 6 [] [.int (zI y0)] σ Q := by
  exact zj_iret d_M_least_6 rfl (Nat.zero_le _) (Nat.zero_le _) h
set_option maxHeartbeats 2000000 in
theorem b_M_extreme_0 {ω : q_W} {σ : q_H} {Q : q_R → q_H → Prop} {d mc ms : Nat} {x1 : Int} {x2 : Int} {s : Nat} (hs : s = 110 ∨ s = 116) (rs0 : q_r σ 94 32 = s) (rs1 : q_r σ 94 33 = (s + 1)) (rs2 : q_r σ 94 34 = (s + 2)) (rs3 : q_r σ 94 35 = (s + 3)) (rs4 : q_r σ 94 36 = (s + 4)) (rs5 : q_r σ 94 37 = (s + 5)) (hE : q_E σ) (h : (J ω m_M_questions d 0 0 0 0 0 [(0, .ref 94)] [] σ (q_ki (fun v τ => J ω m_M_extreme (d + 1) mc ms 0 0 4 [(0, .ref 94), (1, .int (zI x1)), (2, .int (zI x2))] [.int (zI v)] τ Q)))) : J ω m_M_extreme (d + 1) mc ms 0 0 0 [(0, .ref 94), (1, .int (zI x1)), (2, .int (zI x2))] [] σ Q := by
  refine j_aload_n d_M_extreme_0 0 rfl ?_
  refine j_callV m_M_questions [] [] d 0 0 cV_M_402 d_M_extreme_1 rfl rfl (tg_94 hE) (q_okE hE (by decide)) (Nat.le_of_ble_eq_true rfl) (Nat.le_refl _) (Nat.le_of_ble_eq_true rfl) (Nat.zero_le _) (Nat.zero_le _) h (fun v τ h => ?_) (fun x τ h => ?_)
  · obtain ⟨v, hv, e1, h⟩ := h; cases e1; exact j_sel [0, 1, 2] rfl h
  · obtain ⟨v, hv, e1, h⟩ := h; cases e1
set_option maxHeartbeats 2000000 in
theorem b_M_extreme_4 {ω : q_W} {σ : q_H} {Q : q_R → q_H → Prop} {d mc ms : Nat} {x1 : Int} {x2 : Int} {y0 : Int} {s : Nat} (hs : s = 110 ∨ s = 116) (rs0 : q_r σ 94 32 = s) (rs1 : q_r σ 94 33 = (s + 1)) (rs2 : q_r σ 94 34 = (s + 2)) (rs3 : q_r σ 94 35 = (s + 3)) (rs4 : q_r σ 94 36 = (s + 4)) (rs5 : q_r σ 94 37 = (s + 5)) (hE : q_E σ) (h : inR y0 ∧ q_imp (y0 ≠ 0) ((J ω m_M_isVar d 0 0 0 0 0 [(0, .ref 94), (1, .int (zI x1))] [] σ (q_ki (fun v τ => J ω m_M_extreme (d + 1) mc ms 0 0 18 [(0, .ref 94), (1, .int (zI x1)), (2, .int (zI x2))] [.int (zI v)] τ Q)))) ∧ q_imp (y0 = 0) ((J ω m_M_no d 0 0 0 0 0 [(0, .ref 94), (1, .int (zI 1))] [] σ (q_ki (fun v τ => J ω m_M_extreme (d + 1) mc ms 0 0 12 [] [.int (zI v)] τ Q))))) : J ω m_M_extreme (d + 1) mc ms 0 0 4 [(0, .ref 94), (1, .int (zI x1)), (2, .int (zI x2))] [.int (zI y0)] σ Q := by
  obtain ⟨r1, h⟩ := h
  obtain ⟨h1, h2⟩ := h
  refine zj_if_ne 13 d_M_extreme_4 (by decide) r1 (fun k2 => ?_) (fun k2 => ?_)
  · have h := h1 k2
    refine j_aload_n d_M_extreme_13 0 rfl ?_
    refine j_iload_n d_M_extreme_14 1 rfl ?_
    refine j_callV m_M_isVar [.int (zI x1)] [] d 0 0 cV_M_409 d_M_extreme_15 rfl rfl (tg_94 hE) (q_okE hE (by decide)) (Nat.le_of_ble_eq_true rfl) (Nat.le_refl _) (Nat.le_of_ble_eq_true rfl) (Nat.zero_le _) (Nat.zero_le _) h (fun v τ h => ?_) (fun x τ h => ?_)
    · obtain ⟨v, hv, e1, h⟩ := h; cases e1; exact j_sel [0, 1, 2] rfl h
    · obtain ⟨v, hv, e1, h⟩ := h; cases e1
  · have h := h2 k2
    refine j_aload_n d_M_extreme_7 0 rfl ?_
    refine j_iconst (v := zI 1) d_M_extreme_8 (by decide) ?_
    refine j_callV m_M_no [.int (zI 1)] [] d 0 0 cV_M_147 d_M_extreme_9 rfl rfl (tg_94 hE) (q_okE hE (by decide)) (Nat.le_of_ble_eq_true rfl) (Nat.le_refl _) (Nat.le_of_ble_eq_true rfl) (Nat.zero_le _) (Nat.zero_le _) h (fun v τ h => ?_) (fun x τ h => ?_)
    · obtain ⟨v, hv, e1, h⟩ := h; cases e1; exact j_sel [] rfl h
    · obtain ⟨v, hv, e1, h⟩ := h; cases e1
set_option maxHeartbeats 2000000 in
theorem b_M_extreme_18 {ω : q_W} {σ : q_H} {Q : q_R → q_H → Prop} {d mc ms : Nat} {x1 : Int} {x2 : Int} {y0 : Int} {s : Nat} (hs : s = 110 ∨ s = 116) (rs0 : q_r σ 94 32 = s) (rs1 : q_r σ 94 33 = (s + 1)) (rs2 : q_r σ 94 34 = (s + 2)) (rs3 : q_r σ 94 35 = (s + 3)) (rs4 : q_r σ 94 36 = (s + 4)) (rs5 : q_r σ 94 37 = (s + 5)) (hE : q_E σ) (h : inR y0 ∧ q_imp (y0 ≠ 0) ((J ω m_M_extreme (d + 1) mc ms 0 0 32 [(0, .ref 94), (1, .int (zI x1)), (2, .int (zI x2)), (3, .int (zI (-1))), (4, .int (zI 0))] [] σ Q)) ∧ q_imp (y0 = 0) ((J ω m_M_no d 0 0 0 0 0 [(0, .ref 94), (1, .int (zI 2))] [] σ (q_ki (fun v τ => J ω m_M_extreme (d + 1) mc ms 0 0 26 [] [.int (zI v)] τ Q))))) : J ω m_M_extreme (d + 1) mc ms 0 0 18 [(0, .ref 94), (1, .int (zI x1)), (2, .int (zI x2))] [.int (zI y0)] σ Q := by
  obtain ⟨r3, h⟩ := h
  obtain ⟨h1, h2⟩ := h
  refine zj_if_ne 27 d_M_extreme_18 (by decide) r3 (fun k4 => ?_) (fun k4 => ?_)
  · have h := h1 k4
    refine j_iconst (v := zI (-1)) d_M_extreme_27 (by decide) ?_
    refine j_istore_n (L' := [(3, .int (zI (-1))), (0, .ref 94), (1, .int (zI x1)), (2, .int (zI x2))]) d_M_extreme_28 (by decide) rfl ?_
    refine j_iconst (v := zI 0) d_M_extreme_29 (by decide) ?_
    refine j_istore (L' := [(4, .int (zI 0)), (3, .int (zI (-1))), (0, .ref 94), (1, .int (zI x1)), (2, .int (zI x2))]) d_M_extreme_30 (by decide) rfl ?_
    exact j_sel [2, 3, 4, 1, 0] rfl h
  · have h := h2 k4
    refine j_aload_n d_M_extreme_21 0 rfl ?_
    refine j_iconst (v := zI 2) d_M_extreme_22 (by decide) ?_
    refine j_callV m_M_no [.int (zI 2)] [] d 0 0 cV_M_147 d_M_extreme_23 rfl rfl (tg_94 hE) (q_okE hE (by decide)) (Nat.le_of_ble_eq_true rfl) (Nat.le_refl _) (Nat.le_of_ble_eq_true rfl) (Nat.zero_le _) (Nat.zero_le _) h (fun v τ h => ?_) (fun x τ h => ?_)
    · obtain ⟨v, hv, e1, h⟩ := h; cases e1; exact j_sel [] rfl h
    · obtain ⟨v, hv, e1, h⟩ := h; cases e1
set_option maxHeartbeats 2000000 in
theorem b_M_extreme_12 {ω : q_W} {σ : q_H} {Q : q_R → q_H → Prop} {d mc ms : Nat} {y0 : Int} {s : Nat} (hs : s = 110 ∨ s = 116) (rs0 : q_r σ 94 32 = s) (rs1 : q_r σ 94 33 = (s + 1)) (rs2 : q_r σ 94 34 = (s + 2)) (rs3 : q_r σ 94 35 = (s + 3)) (rs4 : q_r σ 94 36 = (s + 4)) (rs5 : q_r σ 94 37 = (s + 5)) (hE : q_E σ) (h : (Q (.inl (some (.int (zI y0)))) σ)) : J ω m_M_extreme (d + 1) mc ms 0 0 12 [] [.int (zI y0)] σ Q := by
  exact zj_iret d_M_extreme_12 rfl (Nat.zero_le _) (Nat.zero_le _) h
set_option maxHeartbeats 2000000 in
theorem b_M_extreme_32 {ω : q_W} {σ : q_H} {Q : q_R → q_H → Prop} {d mc ms : Nat} {x1 : Int} {x2 : Int} {x3 : Int} {x4 : Int} {s : Nat} (hs : s = 110 ∨ s = 116) (rs0 : q_r σ 94 32 = s) (rs1 : q_r σ 94 33 = (s + 1)) (rs2 : q_r σ 94 34 = (s + 2)) (rs3 : q_r σ 94 35 = (s + 3)) (rs4 : q_r σ 94 36 = (s + 4)) (rs5 : q_r σ 94 37 = (s + 5)) (hE : q_E σ) (h : inR x4 ∧ q_imp (x4 ≥ (zShl 1 (z σ 94 29))) ((J ω m_M_asked d 0 0 0 0 0 [(0, .ref 94), (1, .int (zI x3))] [] σ (q_ki (fun v τ => J ω m_M_extreme (d + 1) mc ms 0 0 91 [(0, .ref 94), (1, .int (zI x1)), (3, .int (zI x3))] [.int (zI v)] τ Q)))) ∧ q_imp (x4 < (zShl 1 (z σ 94 29))) ((0 ≤ x4 ∧ x4 < 4096) ∧ q_imp ((z σ 122 x4.toNat) ≠ 0) ((J ω m_M_extreme (d + 1) mc ms 0 0 32 [(0, .ref 94), (1, .int (zI x1)), (2, .int (zI x2)), (3, .int (zI x3)), (4, .int (zI (x4 + 1)))] [] σ Q)) ∧ q_imp ((z σ 122 x4.toNat) = 0) (inR x3 ∧ q_imp (x3 < 0) ((J ω m_M_extreme (d + 1) mc ms 0 0 32 [(0, .ref 94), (1, .int (zI x1)), (2, .int (zI x2)), (3, .int (zI x4)), (4, .int (zI (x4 + 1)))] [] σ Q)) ∧ q_imp (0 ≤ x3) ((J ω m_M_valueAt d 0 0 0 0 0 [(0, .ref 94), (1, .int (zI x4)), (2, .int (zI x1))] [] σ (q_ki (fun v τ => J ω m_M_extreme (d + 1) mc ms 0 0 65 [(0, .ref 94), (1, .int (zI x1)), (2, .int (zI x2)), (3, .int (zI x3)), (4, .int (zI x4))] [.int (zI v), .int (zI x2)] τ Q))))))) : J ω m_M_extreme (d + 1) mc ms 0 0 32 [(0, .ref 94), (1, .int (zI x1)), (2, .int (zI x2)), (3, .int (zI x3)), (4, .int (zI x4))] [] σ Q := by
  refine j_iload d_M_extreme_32 4 rfl ?_
  refine j_iconst (v := zI 1) d_M_extreme_34 (by decide) ?_
  refine j_aload_n d_M_extreme_35 0 rfl ?_
  refine zj_getI (z σ 94 29) f_M_366 d_M_extreme_36 (tg_94 hE) (q_okE hE (by decide)) (q_z _ _ _) ?_
  refine zj_ishl d_M_extreme_39 ?_
  obtain ⟨r5, h⟩ := h
  obtain ⟨h1, h2⟩ := h
  refine zj_icmp_ge 86 d_M_extreme_40 (by decide) r5 (inR_of _) (fun k6 => ?_) (fun k6 => ?_)
  · have h := h1 k6
    refine j_aload_n d_M_extreme_86 0 rfl ?_
    refine j_iload_n d_M_extreme_87 3 rfl ?_
    refine j_callV m_M_asked [.int (zI x3)] [] d 0 0 cV_M_406 d_M_extreme_88 rfl rfl (tg_94 hE) (q_okE hE (by decide)) (Nat.le_of_ble_eq_true rfl) (Nat.le_refl _) (Nat.le_of_ble_eq_true rfl) (Nat.zero_le _) (Nat.zero_le _) h (fun v τ h => ?_) (fun x τ h => ?_)
    · obtain ⟨v, hv, e1, h⟩ := h; cases e1; exact j_sel [0, 1, 3] rfl h
    · obtain ⟨v, hv, e1, h⟩ := h; cases e1
  · have h := h2 k6
    refine j_aload_n d_M_extreme_43 0 rfl ?_
    refine j_getR 122 f_M_104 d_M_extreme_44 (tg_94 hE) (q_okE hE (by decide)) (rf_94_52 hE) (by decide) ?_
    refine j_iload d_M_extreme_47 4 rfl ?_
    obtain ⟨c7, h⟩ := h
    refine zj_bald (z σ 122 x4.toNat) d_M_extreme_49 (tg_122 hE) (q_okE hE (by decide)) c7 (by decide) (q_z _ _ _) ?_
    obtain ⟨h1, h2⟩ := h
    refine zj_if_ne 80 d_M_extreme_50 (by decide) (z_R _ _ _) (fun k8 => ?_) (fun k8 => ?_)
    · have h := h1 k8
      refine zj_iinc (L' := [(4, .int (zI (x4 + 1))), (0, .ref 94), (1, .int (zI x1)), (2, .int (zI x2)), (3, .int (zI x3))]) (x4 + 1) d_M_extreme_80 4 rfl (by omega) (by decide) rfl ?_
      refine j_goto 32 d_M_extreme_83 (by decide) ?_
      exact j_sel [1, 2, 3, 4, 0] rfl h
    · have h := h2 k8
      refine j_iload_n d_M_extreme_53 3 rfl ?_
      obtain ⟨r9, h⟩ := h
      obtain ⟨h1, h2⟩ := h
      refine zj_if_lt 77 d_M_extreme_54 (by decide) r9 (fun k10 => ?_) (fun k10 => ?_)
      · have h := h1 k10
        refine j_iload d_M_extreme_77 4 rfl ?_
        refine j_istore_n (L' := [(3, .int (zI x4)), (0, .ref 94), (1, .int (zI x1)), (2, .int (zI x2)), (4, .int (zI x4))]) d_M_extreme_79 (by decide) rfl ?_
        refine zj_iinc (L' := [(4, .int (zI (x4 + 1))), (3, .int (zI x4)), (0, .ref 94), (1, .int (zI x1)), (2, .int (zI x2))]) (x4 + 1) d_M_extreme_80 4 rfl (by omega) (by decide) rfl ?_
        refine j_goto 32 d_M_extreme_83 (by decide) ?_
        exact j_sel [2, 3, 4, 1, 0] rfl h
      · have h := h2 k10
        refine j_iload_n d_M_extreme_57 2 rfl ?_
        refine j_aload_n d_M_extreme_58 0 rfl ?_
        refine j_iload d_M_extreme_59 4 rfl ?_
        refine j_iload_n d_M_extreme_61 1 rfl ?_
        refine j_callV m_M_valueAt [.int (zI x4), .int (zI x1)] [.int (zI x2)] d 0 0 cV_M_412 d_M_extreme_62 rfl rfl (tg_94 hE) (q_okE hE (by decide)) (Nat.le_of_ble_eq_true rfl) (Nat.le_refl _) (Nat.le_of_ble_eq_true rfl) (Nat.zero_le _) (Nat.zero_le _) h (fun v τ h => ?_) (fun x τ h => ?_)
        · obtain ⟨v, hv, e1, h⟩ := h; cases e1; exact j_sel [0, 1, 2, 3, 4] rfl h
        · obtain ⟨v, hv, e1, h⟩ := h; cases e1
set_option maxHeartbeats 2000000 in
theorem b_M_extreme_26 {ω : q_W} {σ : q_H} {Q : q_R → q_H → Prop} {d mc ms : Nat} {y0 : Int} {s : Nat} (hs : s = 110 ∨ s = 116) (rs0 : q_r σ 94 32 = s) (rs1 : q_r σ 94 33 = (s + 1)) (rs2 : q_r σ 94 34 = (s + 2)) (rs3 : q_r σ 94 35 = (s + 3)) (rs4 : q_r σ 94 36 = (s + 4)) (rs5 : q_r σ 94 37 = (s + 5)) (hE : q_E σ) (h : (Q (.inl (some (.int (zI y0)))) σ)) : J ω m_M_extreme (d + 1) mc ms 0 0 26 [] [.int (zI y0)] σ Q := by
  exact zj_iret d_M_extreme_26 rfl (Nat.zero_le _) (Nat.zero_le _) h
set_option maxHeartbeats 2000000 in
theorem b_M_extreme_91 {ω : q_W} {σ : q_H} {Q : q_R → q_H → Prop} {d mc ms : Nat} {x1 : Int} {x3 : Int} {y0 : Int} {s : Nat} (hs : s = 110 ∨ s = 116) (rs0 : q_r σ 94 32 = s) (rs1 : q_r σ 94 33 = (s + 1)) (rs2 : q_r σ 94 34 = (s + 2)) (rs3 : q_r σ 94 35 = (s + 3)) (rs4 : q_r σ 94 36 = (s + 4)) (rs5 : q_r σ 94 37 = (s + 5)) (hE : q_E σ) (h : inR y0 ∧ q_imp (y0 ≠ 0) ((J ω m_M_valueAt d 0 0 0 0 0 [(0, .ref 94), (1, .int (zI x3)), (2, .int (zI x1))] [] σ (q_ki (fun v τ => J ω m_M_extreme (d + 1) mc ms 0 0 108 [] [.int (zI v)] τ Q)))) ∧ q_imp (y0 = 0) ((Q (.inl (some (.int (zI (-1))))) σ))) : J ω m_M_extreme (d + 1) mc ms 0 0 91 [(0, .ref 94), (1, .int (zI x1)), (3, .int (zI x3))] [.int (zI y0)] σ Q := by
  refine j_istore (L' := [(4, .int (zI y0)), (0, .ref 94), (1, .int (zI x1)), (3, .int (zI x3))]) d_M_extreme_91 (by decide) rfl ?_
  refine j_iload d_M_extreme_93 0 rfl ?_
  obtain ⟨r11, h⟩ := h
  obtain ⟨h1, h2⟩ := h
  refine zj_if_ne 102 d_M_extreme_95 (by decide) r11 (fun k12 => ?_) (fun k12 => ?_)
  · have h := h1 k12
    refine j_aload_n d_M_extreme_102 1 rfl ?_
    refine j_iload_n d_M_extreme_103 3 rfl ?_
    refine j_iload_n d_M_extreme_104 2 rfl ?_
    refine j_callV m_M_valueAt [.int (zI x3), .int (zI x1)] [] d 0 0 cV_M_412 d_M_extreme_105 rfl rfl (tg_94 hE) (q_okE hE (by decide)) (Nat.le_of_ble_eq_true rfl) (Nat.le_refl _) (Nat.le_of_ble_eq_true rfl) (Nat.zero_le _) (Nat.zero_le _) h (fun v τ h => ?_) (fun x τ h => ?_)
    · obtain ⟨v, hv, e1, h⟩ := h; cases e1; exact j_sel [] rfl h
    · obtain ⟨v, hv, e1, h⟩ := h; cases e1
  · have h := h2 k12
    refine j_iconst (v := zI (-1)) d_M_extreme_98 (by decide) ?_
    refine j_goto 108 d_M_extreme_99 (by decide) ?_
    exact zj_iret d_M_extreme_108 rfl (Nat.zero_le _) (Nat.zero_le _) h
set_option maxHeartbeats 2000000 in
theorem b_M_extreme_65 {ω : q_W} {σ : q_H} {Q : q_R → q_H → Prop} {d mc ms : Nat} {x1 : Int} {x2 : Int} {x3 : Int} {x4 : Int} {y0 : Int} {y1 : Int} {s : Nat} (hs : s = 110 ∨ s = 116) (rs0 : q_r σ 94 32 = s) (rs1 : q_r σ 94 33 = (s + 1)) (rs2 : q_r σ 94 34 = (s + 2)) (rs3 : q_r σ 94 35 = (s + 3)) (rs4 : q_r σ 94 36 = (s + 4)) (rs5 : q_r σ 94 37 = (s + 5)) (hE : q_E σ) (h : (J ω m_M_valueAt d 0 0 0 0 0 [(0, .ref 94), (1, .int (zI x3)), (2, .int (zI x1))] [] σ (q_ki (fun v τ => J ω m_M_extreme (d + 1) mc ms 0 0 73 [(0, .ref 94), (1, .int (zI x1)), (2, .int (zI x2)), (3, .int (zI x3)), (4, .int (zI x4))] [.int (zI v), .int (zI x2), .int (zI (y1 * y0))] τ Q)))) : J ω m_M_extreme (d + 1) mc ms 0 0 65 [(0, .ref 94), (1, .int (zI x1)), (2, .int (zI x2)), (3, .int (zI x3)), (4, .int (zI x4))] [.int (zI y0), .int (zI y1)] σ Q := by
  refine zj_imul (y1 * y0) rfl d_M_extreme_65 ?_
  refine j_iload_n d_M_extreme_66 2 rfl ?_
  refine j_aload_n d_M_extreme_67 0 rfl ?_
  refine j_iload_n d_M_extreme_68 3 rfl ?_
  refine j_iload_n d_M_extreme_69 1 rfl ?_
  refine j_callV m_M_valueAt [.int (zI x3), .int (zI x1)] [.int (zI x2), .int (zI (y1 * y0))] d 0 0 cV_M_412 d_M_extreme_70 rfl rfl (tg_94 hE) (q_okE hE (by decide)) (Nat.le_of_ble_eq_true rfl) (Nat.le_refl _) (Nat.le_of_ble_eq_true rfl) (Nat.zero_le _) (Nat.zero_le _) h (fun v τ h => ?_) (fun x τ h => ?_)
  · obtain ⟨v, hv, e1, h⟩ := h; cases e1; exact j_sel [0, 1, 2, 3, 4] rfl h
  · obtain ⟨v, hv, e1, h⟩ := h; cases e1
set_option maxHeartbeats 2000000 in
theorem b_M_extreme_108 {ω : q_W} {σ : q_H} {Q : q_R → q_H → Prop} {d mc ms : Nat} {y0 : Int} {s : Nat} (hs : s = 110 ∨ s = 116) (rs0 : q_r σ 94 32 = s) (rs1 : q_r σ 94 33 = (s + 1)) (rs2 : q_r σ 94 34 = (s + 2)) (rs3 : q_r σ 94 35 = (s + 3)) (rs4 : q_r σ 94 36 = (s + 4)) (rs5 : q_r σ 94 37 = (s + 5)) (hE : q_E σ) (h : (Q (.inl (some (.int (zI y0)))) σ)) : J ω m_M_extreme (d + 1) mc ms 0 0 108 [] [.int (zI y0)] σ Q := by
  exact zj_iret d_M_extreme_108 rfl (Nat.zero_le _) (Nat.zero_le _) h
set_option maxHeartbeats 2000000 in
theorem b_M_extreme_73 {ω : q_W} {σ : q_H} {Q : q_R → q_H → Prop} {d mc ms : Nat} {x1 : Int} {x2 : Int} {x3 : Int} {x4 : Int} {y0 : Int} {y1 : Int} {y2 : Int} {s : Nat} (hs : s = 110 ∨ s = 116) (rs0 : q_r σ 94 32 = s) (rs1 : q_r σ 94 33 = (s + 1)) (rs2 : q_r σ 94 34 = (s + 2)) (rs3 : q_r σ 94 35 = (s + 3)) (rs4 : q_r σ 94 36 = (s + 4)) (rs5 : q_r σ 94 37 = (s + 5)) (hE : q_E σ) (h : inR y2 ∧ inR (y1 * y0) ∧ q_imp (y2 ≥ (y1 * y0)) ((J ω m_M_extreme (d + 1) mc ms 0 0 32 [(0, .ref 94), (1, .int (zI x1)), (2, .int (zI x2)), (3, .int (zI x3)), (4, .int (zI (x4 + 1)))] [] σ Q)) ∧ q_imp (y2 < (y1 * y0)) ((J ω m_M_extreme (d + 1) mc ms 0 0 32 [(0, .ref 94), (1, .int (zI x1)), (2, .int (zI x2)), (3, .int (zI x4)), (4, .int (zI (x4 + 1)))] [] σ Q))) : J ω m_M_extreme (d + 1) mc ms 0 0 73 [(0, .ref 94), (1, .int (zI x1)), (2, .int (zI x2)), (3, .int (zI x3)), (4, .int (zI x4))] [.int (zI y0), .int (zI y1), .int (zI y2)] σ Q := by
  refine zj_imul (y1 * y0) rfl d_M_extreme_73 ?_
  obtain ⟨r13, h⟩ := h
  obtain ⟨r14, h⟩ := h
  obtain ⟨h1, h2⟩ := h
  refine zj_icmp_ge 80 d_M_extreme_74 (by decide) r13 r14 (fun k15 => ?_) (fun k15 => ?_)
  · have h := h1 k15
    refine zj_iinc (L' := [(4, .int (zI (x4 + 1))), (0, .ref 94), (1, .int (zI x1)), (2, .int (zI x2)), (3, .int (zI x3))]) (x4 + 1) d_M_extreme_80 4 rfl (by omega) (by decide) rfl ?_
    refine j_goto 32 d_M_extreme_83 (by decide) ?_
    exact j_sel [1, 2, 3, 4, 0] rfl h
  · have h := h2 k15
    refine j_iload d_M_extreme_77 4 rfl ?_
    refine j_istore_n (L' := [(3, .int (zI x4)), (0, .ref 94), (1, .int (zI x1)), (2, .int (zI x2)), (4, .int (zI x4))]) d_M_extreme_79 (by decide) rfl ?_
    refine zj_iinc (L' := [(4, .int (zI (x4 + 1))), (3, .int (zI x4)), (0, .ref 94), (1, .int (zI x1)), (2, .int (zI x2))]) (x4 + 1) d_M_extreme_80 4 rfl (by omega) (by decide) rfl ?_
    refine j_goto 32 d_M_extreme_83 (by decide) ?_
    exact j_sel [2, 3, 4, 1, 0] rfl h
set_option maxHeartbeats 2000000 in
theorem b_M_isVar_0 {ω : q_W} {σ : q_H} {Q : q_R → q_H → Prop} {d mc ms : Nat} {x1 : Int} {s : Nat} (hs : s = 110 ∨ s = 116) (rs0 : q_r σ 94 32 = s) (rs1 : q_r σ 94 33 = (s + 1)) (rs2 : q_r σ 94 34 = (s + 2)) (rs3 : q_r σ 94 35 = (s + 3)) (rs4 : q_r σ 94 36 = (s + 4)) (rs5 : q_r σ 94 37 = (s + 5)) (hE : q_E σ) (h : inR x1 ∧ q_imp (x1 < 0) ((Q (.inl (some (.int (zI 0)))) σ)) ∧ q_imp (0 ≤ x1) (q_imp (x1 ≥ (z σ 94 27)) ((Q (.inl (some (.int (zI 0)))) σ)) ∧ q_imp (x1 < (z σ 94 27)) ((Q (.inl (some (.int (zI 1)))) σ)))) : J ω m_M_isVar d mc ms 0 0 0 [(0, .ref 94), (1, .int (zI x1))] [] σ Q := by
  refine j_iload_n d_M_isVar_0 1 rfl ?_
  obtain ⟨r1, h⟩ := h
  obtain ⟨h1, h2⟩ := h
  refine zj_if_lt 16 d_M_isVar_1 (by decide) r1 (fun k2 => ?_) (fun k2 => ?_)
  · have h := h1 k2
    refine j_iconst (v := zI 0) d_M_isVar_16 (by decide) ?_
    exact zj_zret d_M_isVar_17 rfl (by decide) (Nat.zero_le _) (Nat.zero_le _) h
  · have h := h2 k2
    refine j_iload_n d_M_isVar_4 1 rfl ?_
    refine j_aload_n d_M_isVar_5 0 rfl ?_
    refine zj_getI (z σ 94 27) f_M_360 d_M_isVar_6 (tg_94 hE) (q_okE hE (by decide)) (q_z _ _ _) ?_
    obtain ⟨h1, h2⟩ := h
    refine zj_icmp_ge 16 d_M_isVar_9 (by decide) r1 (z_R _ _ _) (fun k3 => ?_) (fun k3 => ?_)
    · have h := h1 k3
      refine j_iconst (v := zI 0) d_M_isVar_16 (by decide) ?_
      exact zj_zret d_M_isVar_17 rfl (by decide) (Nat.zero_le _) (Nat.zero_le _) h
    · have h := h2 k3
      refine j_iconst (v := zI 1) d_M_isVar_12 (by decide) ?_
      refine j_goto 17 d_M_isVar_13 (by decide) ?_
      exact zj_zret d_M_isVar_17 rfl (by decide) (Nat.zero_le _) (Nat.zero_le _) h
set_option maxHeartbeats 2000000 in
theorem b_M_valueAt_0 {ω : q_W} {σ : q_H} {Q : q_R → q_H → Prop} {d mc ms : Nat} {x1 : Int} {x2 : Int} {s : Nat} (hs : s = 110 ∨ s = 116) (rs0 : q_r σ 94 32 = s) (rs1 : q_r σ 94 33 = (s + 1)) (rs2 : q_r σ 94 34 = (s + 2)) (rs3 : q_r σ 94 35 = (s + 3)) (rs4 : q_r σ 94 36 = (s + 4)) (rs5 : q_r σ 94 37 = (s + 5)) (hE : q_E σ) (h : (0 ≤ ((12 * x1) + x2) ∧ ((12 * x1) + x2) < 49152) ∧ (Q (.inl (some (.int (zI (zAnd (z σ 124 ((12 * x1) + x2).toNat) 255))))) σ)) : J ω m_M_valueAt d mc ms 0 0 0 [(0, .ref 94), (1, .int (zI x1)), (2, .int (zI x2))] [] σ Q := by
  refine j_aload_n d_M_valueAt_0 0 rfl ?_
  refine j_getR 124 f_M_111 d_M_valueAt_1 (tg_94 hE) (q_okE hE (by decide)) (rf_94_54 hE) (by decide) ?_
  refine j_bipush (v := zI 12) d_M_valueAt_4 (by decide) ?_
  refine j_iload_n d_M_valueAt_6 1 rfl ?_
  refine zj_imul (12 * x1) rfl d_M_valueAt_7 ?_
  refine j_iload_n d_M_valueAt_8 2 rfl ?_
  refine zj_iadd ((12 * x1) + x2) rfl d_M_valueAt_9 ?_
  obtain ⟨c1, h⟩ := h
  refine zj_bald (z σ 124 ((12 * x1) + x2).toNat) d_M_valueAt_10 (tg_124 hE) (q_okE hE (by decide)) c1 (by decide) (q_z _ _ _) ?_
  refine j_sipush (v := zI 255) d_M_valueAt_11 (by decide) ?_
  refine zj_iand d_M_valueAt_14 ?_
  exact zj_iret d_M_valueAt_15 rfl (Nat.zero_le _) (Nat.zero_le _) h
set_option maxHeartbeats 2000000 in
theorem b_M_greatest_0 {ω : q_W} {σ : q_H} {Q : q_R → q_H → Prop} {d mc ms : Nat} {x1 : Int} {s : Nat} (hs : s = 110 ∨ s = 116) (rs0 : q_r σ 94 32 = s) (rs1 : q_r σ 94 33 = (s + 1)) (rs2 : q_r σ 94 34 = (s + 2)) (rs3 : q_r σ 94 35 = (s + 3)) (rs4 : q_r σ 94 36 = (s + 4)) (rs5 : q_r σ 94 37 = (s + 5)) (hE : q_E σ) (h : (J ω m_M_extreme d 0 0 0 0 0 [(0, .ref 94), (1, .int (zI x1)), (2, .int (zI (-1)))] [] σ (q_ki (fun v τ => J ω m_M_greatest (d + 1) mc ms 0 0 6 [] [.int (zI v)] τ Q)))) : J ω m_M_greatest (d + 1) mc ms 0 0 0 [(0, .ref 94), (1, .int (zI x1))] [] σ Q := by
  refine j_aload_n d_M_greatest_0 0 rfl ?_
  refine j_iload_n d_M_greatest_1 1 rfl ?_
  refine j_iconst (v := zI (-1)) d_M_greatest_2 (by decide) ?_
  refine j_callV m_M_extreme [.int (zI x1), .int (zI (-1))] [] d 0 0 cV_M_415 d_M_greatest_3 rfl rfl (tg_94 hE) (q_okE hE (by decide)) (Nat.le_of_ble_eq_true rfl) (Nat.le_refl _) (Nat.le_of_ble_eq_true rfl) (Nat.zero_le _) (Nat.zero_le _) h (fun v τ h => ?_) (fun x τ h => ?_)
  · obtain ⟨v, hv, e1, h⟩ := h; cases e1; exact j_sel [] rfl h
  · obtain ⟨v, hv, e1, h⟩ := h; cases e1
set_option maxHeartbeats 2000000 in
theorem b_M_greatest_6 {ω : q_W} {σ : q_H} {Q : q_R → q_H → Prop} {d mc ms : Nat} {y0 : Int} {s : Nat} (hs : s = 110 ∨ s = 116) (rs0 : q_r σ 94 32 = s) (rs1 : q_r σ 94 33 = (s + 1)) (rs2 : q_r σ 94 34 = (s + 2)) (rs3 : q_r σ 94 35 = (s + 3)) (rs4 : q_r σ 94 36 = (s + 4)) (rs5 : q_r σ 94 37 = (s + 5)) (hE : q_E σ) (h : (Q (.inl (some (.int (zI y0)))) σ)) : J ω m_M_greatest (d + 1) mc ms 0 0 6 [] [.int (zI y0)] σ Q := by
  exact zj_iret d_M_greatest_6 rfl (Nat.zero_le _) (Nat.zero_le _) h
set_option maxHeartbeats 2000000 in
theorem b_M_differ_0 {ω : q_W} {σ : q_H} {Q : q_R → q_H → Prop} {d mc ms : Nat} {x1 : Int} {x2 : Int} {s : Nat} (hs : s = 110 ∨ s = 116) (rs0 : q_r σ 94 32 = s) (rs1 : q_r σ 94 33 = (s + 1)) (rs2 : q_r σ 94 34 = (s + 2)) (rs3 : q_r σ 94 35 = (s + 3)) (rs4 : q_r σ 94 36 = (s + 4)) (rs5 : q_r σ 94 37 = (s + 5)) (hE : q_E σ) (h : (J ω m_M_questions d 0 0 0 0 0 [(0, .ref 94)] [] σ (q_ki (fun v τ => J ω m_M_differ (d + 1) mc ms 0 0 4 [(0, .ref 94), (1, .int (zI x1)), (2, .int (zI x2))] [.int (zI v)] τ Q)))) : J ω m_M_differ (d + 1) mc ms 0 0 0 [(0, .ref 94), (1, .int (zI x1)), (2, .int (zI x2))] [] σ Q := by
  refine j_aload_n d_M_differ_0 0 rfl ?_
  refine j_callV m_M_questions [] [] d 0 0 cV_M_402 d_M_differ_1 rfl rfl (tg_94 hE) (q_okE hE (by decide)) (Nat.le_of_ble_eq_true rfl) (Nat.le_refl _) (Nat.le_of_ble_eq_true rfl) (Nat.zero_le _) (Nat.zero_le _) h (fun v τ h => ?_) (fun x τ h => ?_)
  · obtain ⟨v, hv, e1, h⟩ := h; cases e1; exact j_sel [0, 1, 2] rfl h
  · obtain ⟨v, hv, e1, h⟩ := h; cases e1
set_option maxHeartbeats 2000000 in
theorem b_M_differ_4 {ω : q_W} {σ : q_H} {Q : q_R → q_H → Prop} {d mc ms : Nat} {x1 : Int} {x2 : Int} {y0 : Int} {s : Nat} (hs : s = 110 ∨ s = 116) (rs0 : q_r σ 94 32 = s) (rs1 : q_r σ 94 33 = (s + 1)) (rs2 : q_r σ 94 34 = (s + 2)) (rs3 : q_r σ 94 35 = (s + 3)) (rs4 : q_r σ 94 36 = (s + 4)) (rs5 : q_r σ 94 37 = (s + 5)) (hE : q_E σ) (h : inR y0 ∧ q_imp (y0 ≠ 0) ((J ω m_M_isVar d 0 0 0 0 0 [(0, .ref 94), (1, .int (zI x1))] [] σ (q_ki (fun v τ => J ω m_M_differ (d + 1) mc ms 0 0 18 [(0, .ref 94), (1, .int (zI x1)), (2, .int (zI x2))] [.int (zI v)] τ Q)))) ∧ q_imp (y0 = 0) ((J ω m_M_no d 0 0 0 0 0 [(0, .ref 94), (1, .int (zI 1))] [] σ (q_ki (fun v τ => J ω m_M_differ (d + 1) mc ms 0 0 12 [] [.int (zI v)] τ Q))))) : J ω m_M_differ (d + 1) mc ms 0 0 4 [(0, .ref 94), (1, .int (zI x1)), (2, .int (zI x2))] [.int (zI y0)] σ Q := by
  obtain ⟨r1, h⟩ := h
  obtain ⟨h1, h2⟩ := h
  refine zj_if_ne 13 d_M_differ_4 (by decide) r1 (fun k2 => ?_) (fun k2 => ?_)
  · have h := h1 k2
    refine j_aload_n d_M_differ_13 0 rfl ?_
    refine j_iload_n d_M_differ_14 1 rfl ?_
    refine j_callV m_M_isVar [.int (zI x1)] [] d 0 0 cV_M_409 d_M_differ_15 rfl rfl (tg_94 hE) (q_okE hE (by decide)) (Nat.le_of_ble_eq_true rfl) (Nat.le_refl _) (Nat.le_of_ble_eq_true rfl) (Nat.zero_le _) (Nat.zero_le _) h (fun v τ h => ?_) (fun x τ h => ?_)
    · obtain ⟨v, hv, e1, h⟩ := h; cases e1; exact j_sel [0, 1, 2] rfl h
    · obtain ⟨v, hv, e1, h⟩ := h; cases e1
  · have h := h2 k2
    refine j_aload_n d_M_differ_7 0 rfl ?_
    refine j_iconst (v := zI 1) d_M_differ_8 (by decide) ?_
    refine j_callV m_M_no [.int (zI 1)] [] d 0 0 cV_M_147 d_M_differ_9 rfl rfl (tg_94 hE) (q_okE hE (by decide)) (Nat.le_of_ble_eq_true rfl) (Nat.le_refl _) (Nat.le_of_ble_eq_true rfl) (Nat.zero_le _) (Nat.zero_le _) h (fun v τ h => ?_) (fun x τ h => ?_)
    · obtain ⟨v, hv, e1, h⟩ := h; cases e1; exact j_sel [] rfl h
    · obtain ⟨v, hv, e1, h⟩ := h; cases e1
set_option maxHeartbeats 2000000 in
theorem b_M_differ_18 {ω : q_W} {σ : q_H} {Q : q_R → q_H → Prop} {d mc ms : Nat} {x1 : Int} {x2 : Int} {y0 : Int} {s : Nat} (hs : s = 110 ∨ s = 116) (rs0 : q_r σ 94 32 = s) (rs1 : q_r σ 94 33 = (s + 1)) (rs2 : q_r σ 94 34 = (s + 2)) (rs3 : q_r σ 94 35 = (s + 3)) (rs4 : q_r σ 94 36 = (s + 4)) (rs5 : q_r σ 94 37 = (s + 5)) (hE : q_E σ) (h : inR y0 ∧ q_imp (y0 = 0) ((J ω m_M_no d 0 0 0 0 0 [(0, .ref 94), (1, .int (zI 2))] [] σ (q_ki (fun v τ => J ω m_M_differ (d + 1) mc ms 0 0 34 [] [.int (zI v)] τ Q)))) ∧ q_imp (y0 ≠ 0) ((J ω m_M_isVar d 0 0 0 0 0 [(0, .ref 94), (1, .int (zI x2))] [] σ (q_ki (fun v τ => J ω m_M_differ (d + 1) mc ms 0 0 26 [(0, .ref 94), (1, .int (zI x1)), (2, .int (zI x2))] [.int (zI v)] τ Q))))) : J ω m_M_differ (d + 1) mc ms 0 0 18 [(0, .ref 94), (1, .int (zI x1)), (2, .int (zI x2))] [.int (zI y0)] σ Q := by
  obtain ⟨r3, h⟩ := h
  obtain ⟨h1, h2⟩ := h
  refine zj_if_eq 29 d_M_differ_18 (by decide) r3 (fun k4 => ?_) (fun k4 => ?_)
  · have h := h1 k4
    refine j_aload_n d_M_differ_29 0 rfl ?_
    refine j_iconst (v := zI 2) d_M_differ_30 (by decide) ?_
    refine j_callV m_M_no [.int (zI 2)] [] d 0 0 cV_M_147 d_M_differ_31 rfl rfl (tg_94 hE) (q_okE hE (by decide)) (Nat.le_of_ble_eq_true rfl) (Nat.le_refl _) (Nat.le_of_ble_eq_true rfl) (Nat.zero_le _) (Nat.zero_le _) h (fun v τ h => ?_) (fun x τ h => ?_)
    · obtain ⟨v, hv, e1, h⟩ := h; cases e1; exact j_sel [] rfl h
    · obtain ⟨v, hv, e1, h⟩ := h; cases e1
  · have h := h2 k4
    refine j_aload_n d_M_differ_21 0 rfl ?_
    refine j_iload_n d_M_differ_22 2 rfl ?_
    refine j_callV m_M_isVar [.int (zI x2)] [] d 0 0 cV_M_409 d_M_differ_23 rfl rfl (tg_94 hE) (q_okE hE (by decide)) (Nat.le_of_ble_eq_true rfl) (Nat.le_refl _) (Nat.le_of_ble_eq_true rfl) (Nat.zero_le _) (Nat.zero_le _) h (fun v τ h => ?_) (fun x τ h => ?_)
    · obtain ⟨v, hv, e1, h⟩ := h; cases e1; exact j_sel [0, 1, 2] rfl h
    · obtain ⟨v, hv, e1, h⟩ := h; cases e1
set_option maxHeartbeats 2000000 in
theorem b_M_differ_12 {ω : q_W} {σ : q_H} {Q : q_R → q_H → Prop} {d mc ms : Nat} {y0 : Int} {s : Nat} (hs : s = 110 ∨ s = 116) (rs0 : q_r σ 94 32 = s) (rs1 : q_r σ 94 33 = (s + 1)) (rs2 : q_r σ 94 34 = (s + 2)) (rs3 : q_r σ 94 35 = (s + 3)) (rs4 : q_r σ 94 36 = (s + 4)) (rs5 : q_r σ 94 37 = (s + 5)) (hE : q_E σ) (h : (Q (.inl (some (.int (zI y0)))) σ)) : J ω m_M_differ (d + 1) mc ms 0 0 12 [] [.int (zI y0)] σ Q := by
  exact zj_iret d_M_differ_12 rfl (Nat.zero_le _) (Nat.zero_le _) h
set_option maxHeartbeats 2000000 in
theorem b_M_differ_34 {ω : q_W} {σ : q_H} {Q : q_R → q_H → Prop} {d mc ms : Nat} {y0 : Int} {s : Nat} (hs : s = 110 ∨ s = 116) (rs0 : q_r σ 94 32 = s) (rs1 : q_r σ 94 33 = (s + 1)) (rs2 : q_r σ 94 34 = (s + 2)) (rs3 : q_r σ 94 35 = (s + 3)) (rs4 : q_r σ 94 36 = (s + 4)) (rs5 : q_r σ 94 37 = (s + 5)) (hE : q_E σ) (h : (Q (.inl (some (.int (zI y0)))) σ)) : J ω m_M_differ (d + 1) mc ms 0 0 34 [] [.int (zI y0)] σ Q := by
  exact zj_iret d_M_differ_34 rfl (Nat.zero_le _) (Nat.zero_le _) h
set_option maxHeartbeats 2000000 in
theorem b_M_differ_26 {ω : q_W} {σ : q_H} {Q : q_R → q_H → Prop} {d mc ms : Nat} {x1 : Int} {x2 : Int} {y0 : Int} {s : Nat} (hs : s = 110 ∨ s = 116) (rs0 : q_r σ 94 32 = s) (rs1 : q_r σ 94 33 = (s + 1)) (rs2 : q_r σ 94 34 = (s + 2)) (rs3 : q_r σ 94 35 = (s + 3)) (rs4 : q_r σ 94 36 = (s + 4)) (rs5 : q_r σ 94 37 = (s + 5)) (hE : q_E σ) (h : inR y0 ∧ q_imp (y0 ≠ 0) ((J ω m_M_differ (d + 1) mc ms 0 0 37 [(0, .ref 94), (1, .int (zI x1)), (2, .int (zI x2)), (3, .int (zI 0))] [] σ Q)) ∧ q_imp (y0 = 0) ((J ω m_M_no d 0 0 0 0 0 [(0, .ref 94), (1, .int (zI 2))] [] σ (q_ki (fun v τ => J ω m_M_differ (d + 1) mc ms 0 0 34 [] [.int (zI v)] τ Q))))) : J ω m_M_differ (d + 1) mc ms 0 0 26 [(0, .ref 94), (1, .int (zI x1)), (2, .int (zI x2))] [.int (zI y0)] σ Q := by
  obtain ⟨r5, h⟩ := h
  obtain ⟨h1, h2⟩ := h
  refine zj_if_ne 35 d_M_differ_26 (by decide) r5 (fun k6 => ?_) (fun k6 => ?_)
  · have h := h1 k6
    refine j_iconst (v := zI 0) d_M_differ_35 (by decide) ?_
    refine j_istore_n (L' := [(3, .int (zI 0)), (0, .ref 94), (1, .int (zI x1)), (2, .int (zI x2))]) d_M_differ_36 (by decide) rfl ?_
    exact j_sel [1, 2, 3, 0] rfl h
  · have h := h2 k6
    refine j_aload_n d_M_differ_29 0 rfl ?_
    refine j_iconst (v := zI 2) d_M_differ_30 (by decide) ?_
    refine j_callV m_M_no [.int (zI 2)] [] d 0 0 cV_M_147 d_M_differ_31 rfl rfl (tg_94 hE) (q_okE hE (by decide)) (Nat.le_of_ble_eq_true rfl) (Nat.le_refl _) (Nat.le_of_ble_eq_true rfl) (Nat.zero_le _) (Nat.zero_le _) h (fun v τ h => ?_) (fun x τ h => ?_)
    · obtain ⟨v, hv, e1, h⟩ := h; cases e1; exact j_sel [] rfl h
    · obtain ⟨v, hv, e1, h⟩ := h; cases e1
set_option maxHeartbeats 2000000 in
theorem b_M_differ_37 {ω : q_W} {σ : q_H} {Q : q_R → q_H → Prop} {d mc ms : Nat} {x1 : Int} {x2 : Int} {x3 : Int} {s : Nat} (hs : s = 110 ∨ s = 116) (rs0 : q_r σ 94 32 = s) (rs1 : q_r σ 94 33 = (s + 1)) (rs2 : q_r σ 94 34 = (s + 2)) (rs3 : q_r σ 94 35 = (s + 3)) (rs4 : q_r σ 94 36 = (s + 4)) (rs5 : q_r σ 94 37 = (s + 5)) (hE : q_E σ) (h : inR x3 ∧ q_imp (x3 ≥ (zShl 1 (z σ 94 29))) ((J ω m_M_asked d 0 0 0 0 0 [(0, .ref 94), (1, .int (zI (-1)))] [] σ (q_ki (fun v τ => J ω m_M_differ (d + 1) mc ms 0 0 88 [] [.int (zI v)] τ Q)))) ∧ q_imp (x3 < (zShl 1 (z σ 94 29))) ((0 ≤ x3 ∧ x3 < 4096) ∧ q_imp ((z σ 122 x3.toNat) ≠ 0) ((J ω m_M_differ (d + 1) mc ms 0 0 37 [(0, .ref 94), (1, .int (zI x1)), (2, .int (zI x2)), (3, .int (zI (x3 + 1)))] [] σ Q)) ∧ q_imp ((z σ 122 x3.toNat) = 0) ((J ω m_M_valueAt d 0 0 0 0 0 [(0, .ref 94), (1, .int (zI x3)), (2, .int (zI x1))] [] σ (q_ki (fun v τ => J ω m_M_differ (d + 1) mc ms 0 0 62 [(0, .ref 94), (1, .int (zI x1)), (2, .int (zI x2)), (3, .int (zI x3))] [.int (zI v)] τ Q)))))) : J ω m_M_differ (d + 1) mc ms 0 0 37 [(0, .ref 94), (1, .int (zI x1)), (2, .int (zI x2)), (3, .int (zI x3))] [] σ Q := by
  refine j_iload_n d_M_differ_37 3 rfl ?_
  refine j_iconst (v := zI 1) d_M_differ_38 (by decide) ?_
  refine j_aload_n d_M_differ_39 0 rfl ?_
  refine zj_getI (z σ 94 29) f_M_366 d_M_differ_40 (tg_94 hE) (q_okE hE (by decide)) (q_z _ _ _) ?_
  refine zj_ishl d_M_differ_43 ?_
  obtain ⟨r7, h⟩ := h
  obtain ⟨h1, h2⟩ := h
  refine zj_icmp_ge 83 d_M_differ_44 (by decide) r7 (inR_of _) (fun k8 => ?_) (fun k8 => ?_)
  · have h := h1 k8
    refine j_aload_n d_M_differ_83 0 rfl ?_
    refine j_iconst (v := zI (-1)) d_M_differ_84 (by decide) ?_
    refine j_callV m_M_asked [.int (zI (-1))] [] d 0 0 cV_M_406 d_M_differ_85 rfl rfl (tg_94 hE) (q_okE hE (by decide)) (Nat.le_of_ble_eq_true rfl) (Nat.le_refl _) (Nat.le_of_ble_eq_true rfl) (Nat.zero_le _) (Nat.zero_le _) h (fun v τ h => ?_) (fun x τ h => ?_)
    · obtain ⟨v, hv, e1, h⟩ := h; cases e1; exact j_sel [] rfl h
    · obtain ⟨v, hv, e1, h⟩ := h; cases e1
  · have h := h2 k8
    refine j_aload_n d_M_differ_47 0 rfl ?_
    refine j_getR 122 f_M_104 d_M_differ_48 (tg_94 hE) (q_okE hE (by decide)) (rf_94_52 hE) (by decide) ?_
    refine j_iload_n d_M_differ_51 3 rfl ?_
    obtain ⟨c9, h⟩ := h
    refine zj_bald (z σ 122 x3.toNat) d_M_differ_52 (tg_122 hE) (q_okE hE (by decide)) c9 (by decide) (q_z _ _ _) ?_
    obtain ⟨h1, h2⟩ := h
    refine zj_if_ne 77 d_M_differ_53 (by decide) (z_R _ _ _) (fun k10 => ?_) (fun k10 => ?_)
    · have h := h1 k10
      refine zj_iinc (L' := [(3, .int (zI (x3 + 1))), (0, .ref 94), (1, .int (zI x1)), (2, .int (zI x2))]) (x3 + 1) d_M_differ_77 3 rfl (by omega) (by decide) rfl ?_
      refine j_goto 37 d_M_differ_80 (by decide) ?_
      exact j_sel [1, 2, 3, 0] rfl h
    · have h := h2 k10
      refine j_aload_n d_M_differ_56 0 rfl ?_
      refine j_iload_n d_M_differ_57 3 rfl ?_
      refine j_iload_n d_M_differ_58 1 rfl ?_
      refine j_callV m_M_valueAt [.int (zI x3), .int (zI x1)] [] d 0 0 cV_M_412 d_M_differ_59 rfl rfl (tg_94 hE) (q_okE hE (by decide)) (Nat.le_of_ble_eq_true rfl) (Nat.le_refl _) (Nat.le_of_ble_eq_true rfl) (Nat.zero_le _) (Nat.zero_le _) h (fun v τ h => ?_) (fun x τ h => ?_)
      · obtain ⟨v, hv, e1, h⟩ := h; cases e1; exact j_sel [0, 1, 2, 3] rfl h
      · obtain ⟨v, hv, e1, h⟩ := h; cases e1
set_option maxHeartbeats 2000000 in
theorem b_M_differ_88 {ω : q_W} {σ : q_H} {Q : q_R → q_H → Prop} {d mc ms : Nat} {y0 : Int} {s : Nat} (hs : s = 110 ∨ s = 116) (rs0 : q_r σ 94 32 = s) (rs1 : q_r σ 94 33 = (s + 1)) (rs2 : q_r σ 94 34 = (s + 2)) (rs3 : q_r σ 94 35 = (s + 3)) (rs4 : q_r σ 94 36 = (s + 4)) (rs5 : q_r σ 94 37 = (s + 5)) (hE : q_E σ) (h : (Q (.inl (some (.int (zI y0)))) σ)) : J ω m_M_differ (d + 1) mc ms 0 0 88 [] [.int (zI y0)] σ Q := by
  exact zj_iret d_M_differ_88 rfl (Nat.zero_le _) (Nat.zero_le _) h
set_option maxHeartbeats 2000000 in
theorem b_M_differ_62 {ω : q_W} {σ : q_H} {Q : q_R → q_H → Prop} {d mc ms : Nat} {x1 : Int} {x2 : Int} {x3 : Int} {y0 : Int} {s : Nat} (hs : s = 110 ∨ s = 116) (rs0 : q_r σ 94 32 = s) (rs1 : q_r σ 94 33 = (s + 1)) (rs2 : q_r σ 94 34 = (s + 2)) (rs3 : q_r σ 94 35 = (s + 3)) (rs4 : q_r σ 94 36 = (s + 4)) (rs5 : q_r σ 94 37 = (s + 5)) (hE : q_E σ) (h : (J ω m_M_valueAt d 0 0 0 0 0 [(0, .ref 94), (1, .int (zI x3)), (2, .int (zI x2))] [] σ (q_ki (fun v τ => J ω m_M_differ (d + 1) mc ms 0 0 68 [(0, .ref 94), (1, .int (zI x1)), (2, .int (zI x2)), (3, .int (zI x3))] [.int (zI v), .int (zI y0)] τ Q)))) : J ω m_M_differ (d + 1) mc ms 0 0 62 [(0, .ref 94), (1, .int (zI x1)), (2, .int (zI x2)), (3, .int (zI x3))] [.int (zI y0)] σ Q := by
  refine j_aload_n d_M_differ_62 0 rfl ?_
  refine j_iload_n d_M_differ_63 3 rfl ?_
  refine j_iload_n d_M_differ_64 2 rfl ?_
  refine j_callV m_M_valueAt [.int (zI x3), .int (zI x2)] [.int (zI y0)] d 0 0 cV_M_412 d_M_differ_65 rfl rfl (tg_94 hE) (q_okE hE (by decide)) (Nat.le_of_ble_eq_true rfl) (Nat.le_refl _) (Nat.le_of_ble_eq_true rfl) (Nat.zero_le _) (Nat.zero_le _) h (fun v τ h => ?_) (fun x τ h => ?_)
  · obtain ⟨v, hv, e1, h⟩ := h; cases e1; exact j_sel [0, 1, 2, 3] rfl h
  · obtain ⟨v, hv, e1, h⟩ := h; cases e1
set_option maxHeartbeats 2000000 in
theorem b_M_differ_68 {ω : q_W} {σ : q_H} {Q : q_R → q_H → Prop} {d mc ms : Nat} {x1 : Int} {x2 : Int} {x3 : Int} {y0 : Int} {y1 : Int} {s : Nat} (hs : s = 110 ∨ s = 116) (rs0 : q_r σ 94 32 = s) (rs1 : q_r σ 94 33 = (s + 1)) (rs2 : q_r σ 94 34 = (s + 2)) (rs3 : q_r σ 94 35 = (s + 3)) (rs4 : q_r σ 94 36 = (s + 4)) (rs5 : q_r σ 94 37 = (s + 5)) (hE : q_E σ) (h : inR y1 ∧ inR y0 ∧ q_imp (y1 = y0) ((J ω m_M_differ (d + 1) mc ms 0 0 37 [(0, .ref 94), (1, .int (zI x1)), (2, .int (zI x2)), (3, .int (zI (x3 + 1)))] [] σ Q)) ∧ q_imp (y1 ≠ y0) ((J ω m_M_asked d 0 0 0 0 0 [(0, .ref 94), (1, .int (zI x3))] [] σ (q_ki (fun v τ => J ω m_M_differ (d + 1) mc ms 0 0 76 [] [.int (zI v)] τ Q))))) : J ω m_M_differ (d + 1) mc ms 0 0 68 [(0, .ref 94), (1, .int (zI x1)), (2, .int (zI x2)), (3, .int (zI x3))] [.int (zI y0), .int (zI y1)] σ Q := by
  obtain ⟨r11, h⟩ := h
  obtain ⟨r12, h⟩ := h
  obtain ⟨h1, h2⟩ := h
  refine zj_icmp_eq 77 d_M_differ_68 (by decide) r11 r12 (fun k13 => ?_) (fun k13 => ?_)
  · have h := h1 k13
    refine zj_iinc (L' := [(3, .int (zI (x3 + 1))), (0, .ref 94), (1, .int (zI x1)), (2, .int (zI x2))]) (x3 + 1) d_M_differ_77 3 rfl (by omega) (by decide) rfl ?_
    refine j_goto 37 d_M_differ_80 (by decide) ?_
    exact j_sel [1, 2, 3, 0] rfl h
  · have h := h2 k13
    refine j_aload_n d_M_differ_71 0 rfl ?_
    refine j_iload_n d_M_differ_72 3 rfl ?_
    refine j_callV m_M_asked [.int (zI x3)] [] d 0 0 cV_M_406 d_M_differ_73 rfl rfl (tg_94 hE) (q_okE hE (by decide)) (Nat.le_of_ble_eq_true rfl) (Nat.le_refl _) (Nat.le_of_ble_eq_true rfl) (Nat.zero_le _) (Nat.zero_le _) h (fun v τ h => ?_) (fun x τ h => ?_)
    · obtain ⟨v, hv, e1, h⟩ := h; cases e1; exact j_sel [] rfl h
    · obtain ⟨v, hv, e1, h⟩ := h; cases e1
set_option maxHeartbeats 2000000 in
theorem b_M_differ_76 {ω : q_W} {σ : q_H} {Q : q_R → q_H → Prop} {d mc ms : Nat} {y0 : Int} {s : Nat} (hs : s = 110 ∨ s = 116) (rs0 : q_r σ 94 32 = s) (rs1 : q_r σ 94 33 = (s + 1)) (rs2 : q_r σ 94 34 = (s + 2)) (rs3 : q_r σ 94 35 = (s + 3)) (rs4 : q_r σ 94 36 = (s + 4)) (rs5 : q_r σ 94 37 = (s + 5)) (hE : q_E σ) (h : (Q (.inl (some (.int (zI y0)))) σ)) : J ω m_M_differ (d + 1) mc ms 0 0 76 [] [.int (zI y0)] σ Q := by
  exact zj_iret d_M_differ_76 rfl (Nat.zero_le _) (Nat.zero_le _) h
set_option maxHeartbeats 2000000 in
theorem b_M_can_0 {ω : q_W} {σ : q_H} {Q : q_R → q_H → Prop} {d mc ms : Nat} {x1 : Int} {x2 : Int} {s : Nat} (hs : s = 110 ∨ s = 116) (rs0 : q_r σ 94 32 = s) (rs1 : q_r σ 94 33 = (s + 1)) (rs2 : q_r σ 94 34 = (s + 2)) (rs3 : q_r σ 94 35 = (s + 3)) (rs4 : q_r σ 94 36 = (s + 4)) (rs5 : q_r σ 94 37 = (s + 5)) (hE : q_E σ) (h : (J ω m_M_questions d 0 0 0 0 0 [(0, .ref 94)] [] σ (q_ki (fun v τ => J ω m_M_can (d + 1) mc ms 0 0 4 [(0, .ref 94), (1, .int (zI x1)), (2, .int (zI x2))] [.int (zI v)] τ Q)))) : J ω m_M_can (d + 1) mc ms 0 0 0 [(0, .ref 94), (1, .int (zI x1)), (2, .int (zI x2))] [] σ Q := by
  refine j_aload_n d_M_can_0 0 rfl ?_
  refine j_callV m_M_questions [] [] d 0 0 cV_M_402 d_M_can_1 rfl rfl (tg_94 hE) (q_okE hE (by decide)) (Nat.le_of_ble_eq_true rfl) (Nat.le_refl _) (Nat.le_of_ble_eq_true rfl) (Nat.zero_le _) (Nat.zero_le _) h (fun v τ h => ?_) (fun x τ h => ?_)
  · obtain ⟨v, hv, e1, h⟩ := h; cases e1; exact j_sel [0, 1, 2] rfl h
  · obtain ⟨v, hv, e1, h⟩ := h; cases e1
set_option maxHeartbeats 2000000 in
theorem b_M_can_4 {ω : q_W} {σ : q_H} {Q : q_R → q_H → Prop} {d mc ms : Nat} {x1 : Int} {x2 : Int} {y0 : Int} {s : Nat} (hs : s = 110 ∨ s = 116) (rs0 : q_r σ 94 32 = s) (rs1 : q_r σ 94 33 = (s + 1)) (rs2 : q_r σ 94 34 = (s + 2)) (rs3 : q_r σ 94 35 = (s + 3)) (rs4 : q_r σ 94 36 = (s + 4)) (rs5 : q_r σ 94 37 = (s + 5)) (hE : q_E σ) (h : inR y0 ∧ q_imp (y0 ≠ 0) ((J ω m_M_isVar d 0 0 0 0 0 [(0, .ref 94), (1, .int (zI x1))] [] σ (q_ki (fun v τ => J ω m_M_can (d + 1) mc ms 0 0 18 [(0, .ref 94), (1, .int (zI x1)), (2, .int (zI x2))] [.int (zI v)] τ Q)))) ∧ q_imp (y0 = 0) ((J ω m_M_no d 0 0 0 0 0 [(0, .ref 94), (1, .int (zI 1))] [] σ (q_ki (fun v τ => J ω m_M_can (d + 1) mc ms 0 0 12 [] [.int (zI v)] τ Q))))) : J ω m_M_can (d + 1) mc ms 0 0 4 [(0, .ref 94), (1, .int (zI x1)), (2, .int (zI x2))] [.int (zI y0)] σ Q := by
  obtain ⟨r1, h⟩ := h
  obtain ⟨h1, h2⟩ := h
  refine zj_if_ne 13 d_M_can_4 (by decide) r1 (fun k2 => ?_) (fun k2 => ?_)
  · have h := h1 k2
    refine j_aload_n d_M_can_13 0 rfl ?_
    refine j_iload_n d_M_can_14 1 rfl ?_
    refine j_callV m_M_isVar [.int (zI x1)] [] d 0 0 cV_M_409 d_M_can_15 rfl rfl (tg_94 hE) (q_okE hE (by decide)) (Nat.le_of_ble_eq_true rfl) (Nat.le_refl _) (Nat.le_of_ble_eq_true rfl) (Nat.zero_le _) (Nat.zero_le _) h (fun v τ h => ?_) (fun x τ h => ?_)
    · obtain ⟨v, hv, e1, h⟩ := h; cases e1; exact j_sel [0, 1, 2] rfl h
    · obtain ⟨v, hv, e1, h⟩ := h; cases e1
  · have h := h2 k2
    refine j_aload_n d_M_can_7 0 rfl ?_
    refine j_iconst (v := zI 1) d_M_can_8 (by decide) ?_
    refine j_callV m_M_no [.int (zI 1)] [] d 0 0 cV_M_147 d_M_can_9 rfl rfl (tg_94 hE) (q_okE hE (by decide)) (Nat.le_of_ble_eq_true rfl) (Nat.le_refl _) (Nat.le_of_ble_eq_true rfl) (Nat.zero_le _) (Nat.zero_le _) h (fun v τ h => ?_) (fun x τ h => ?_)
    · obtain ⟨v, hv, e1, h⟩ := h; cases e1; exact j_sel [] rfl h
    · obtain ⟨v, hv, e1, h⟩ := h; cases e1
set_option maxHeartbeats 2000000 in
theorem b_M_can_18 {ω : q_W} {σ : q_H} {Q : q_R → q_H → Prop} {d mc ms : Nat} {x1 : Int} {x2 : Int} {y0 : Int} {s : Nat} (hs : s = 110 ∨ s = 116) (rs0 : q_r σ 94 32 = s) (rs1 : q_r σ 94 33 = (s + 1)) (rs2 : q_r σ 94 34 = (s + 2)) (rs3 : q_r σ 94 35 = (s + 3)) (rs4 : q_r σ 94 36 = (s + 4)) (rs5 : q_r σ 94 37 = (s + 5)) (hE : q_E σ) (h : inR y0 ∧ q_imp (y0 ≠ 0) ((J ω m_M_can (d + 1) mc ms 0 0 29 [(0, .ref 94), (1, .int (zI x1)), (2, .int (zI x2)), (3, .int (zI 0))] [] σ Q)) ∧ q_imp (y0 = 0) ((J ω m_M_no d 0 0 0 0 0 [(0, .ref 94), (1, .int (zI 2))] [] σ (q_ki (fun v τ => J ω m_M_can (d + 1) mc ms 0 0 26 [] [.int (zI v)] τ Q))))) : J ω m_M_can (d + 1) mc ms 0 0 18 [(0, .ref 94), (1, .int (zI x1)), (2, .int (zI x2))] [.int (zI y0)] σ Q := by
  obtain ⟨r3, h⟩ := h
  obtain ⟨h1, h2⟩ := h
  refine zj_if_ne 27 d_M_can_18 (by decide) r3 (fun k4 => ?_) (fun k4 => ?_)
  · have h := h1 k4
    refine j_iconst (v := zI 0) d_M_can_27 (by decide) ?_
    refine j_istore_n (L' := [(3, .int (zI 0)), (0, .ref 94), (1, .int (zI x1)), (2, .int (zI x2))]) d_M_can_28 (by decide) rfl ?_
    exact j_sel [1, 2, 3, 0] rfl h
  · have h := h2 k4
    refine j_aload_n d_M_can_21 0 rfl ?_
    refine j_iconst (v := zI 2) d_M_can_22 (by decide) ?_
    refine j_callV m_M_no [.int (zI 2)] [] d 0 0 cV_M_147 d_M_can_23 rfl rfl (tg_94 hE) (q_okE hE (by decide)) (Nat.le_of_ble_eq_true rfl) (Nat.le_refl _) (Nat.le_of_ble_eq_true rfl) (Nat.zero_le _) (Nat.zero_le _) h (fun v τ h => ?_) (fun x τ h => ?_)
    · obtain ⟨v, hv, e1, h⟩ := h; cases e1; exact j_sel [] rfl h
    · obtain ⟨v, hv, e1, h⟩ := h; cases e1
set_option maxHeartbeats 2000000 in
theorem b_M_can_12 {ω : q_W} {σ : q_H} {Q : q_R → q_H → Prop} {d mc ms : Nat} {y0 : Int} {s : Nat} (hs : s = 110 ∨ s = 116) (rs0 : q_r σ 94 32 = s) (rs1 : q_r σ 94 33 = (s + 1)) (rs2 : q_r σ 94 34 = (s + 2)) (rs3 : q_r σ 94 35 = (s + 3)) (rs4 : q_r σ 94 36 = (s + 4)) (rs5 : q_r σ 94 37 = (s + 5)) (hE : q_E σ) (h : (Q (.inl (some (.int (zI y0)))) σ)) : J ω m_M_can (d + 1) mc ms 0 0 12 [] [.int (zI y0)] σ Q := by
  exact zj_iret d_M_can_12 rfl (Nat.zero_le _) (Nat.zero_le _) h
set_option maxHeartbeats 2000000 in
theorem b_M_can_29 {ω : q_W} {σ : q_H} {Q : q_R → q_H → Prop} {d mc ms : Nat} {x1 : Int} {x2 : Int} {x3 : Int} {s : Nat} (hs : s = 110 ∨ s = 116) (rs0 : q_r σ 94 32 = s) (rs1 : q_r σ 94 33 = (s + 1)) (rs2 : q_r σ 94 34 = (s + 2)) (rs3 : q_r σ 94 35 = (s + 3)) (rs4 : q_r σ 94 36 = (s + 4)) (rs5 : q_r σ 94 37 = (s + 5)) (hE : q_E σ) (h : inR x3 ∧ q_imp (x3 ≥ (zShl 1 (z σ 94 29))) ((J ω m_M_asked d 0 0 0 0 0 [(0, .ref 94), (1, .int (zI (-1)))] [] σ (q_ki (fun v τ => J ω m_M_can (d + 1) mc ms 0 0 75 [] [.int (zI v)] τ Q)))) ∧ q_imp (x3 < (zShl 1 (z σ 94 29))) ((0 ≤ x3 ∧ x3 < 4096) ∧ q_imp ((z σ 122 x3.toNat) ≠ 0) ((J ω m_M_can (d + 1) mc ms 0 0 29 [(0, .ref 94), (1, .int (zI x1)), (2, .int (zI x2)), (3, .int (zI (x3 + 1)))] [] σ Q)) ∧ q_imp ((z σ 122 x3.toNat) = 0) ((J ω m_M_valueAt d 0 0 0 0 0 [(0, .ref 94), (1, .int (zI x3)), (2, .int (zI x1))] [] σ (q_ki (fun v τ => J ω m_M_can (d + 1) mc ms 0 0 54 [(0, .ref 94), (1, .int (zI x1)), (2, .int (zI x2)), (3, .int (zI x3))] [.int (zI v)] τ Q)))))) : J ω m_M_can (d + 1) mc ms 0 0 29 [(0, .ref 94), (1, .int (zI x1)), (2, .int (zI x2)), (3, .int (zI x3))] [] σ Q := by
  refine j_iload_n d_M_can_29 3 rfl ?_
  refine j_iconst (v := zI 1) d_M_can_30 (by decide) ?_
  refine j_aload_n d_M_can_31 0 rfl ?_
  refine zj_getI (z σ 94 29) f_M_366 d_M_can_32 (tg_94 hE) (q_okE hE (by decide)) (q_z _ _ _) ?_
  refine zj_ishl d_M_can_35 ?_
  obtain ⟨r5, h⟩ := h
  obtain ⟨h1, h2⟩ := h
  refine zj_icmp_ge 70 d_M_can_36 (by decide) r5 (inR_of _) (fun k6 => ?_) (fun k6 => ?_)
  · have h := h1 k6
    refine j_aload_n d_M_can_70 0 rfl ?_
    refine j_iconst (v := zI (-1)) d_M_can_71 (by decide) ?_
    refine j_callV m_M_asked [.int (zI (-1))] [] d 0 0 cV_M_406 d_M_can_72 rfl rfl (tg_94 hE) (q_okE hE (by decide)) (Nat.le_of_ble_eq_true rfl) (Nat.le_refl _) (Nat.le_of_ble_eq_true rfl) (Nat.zero_le _) (Nat.zero_le _) h (fun v τ h => ?_) (fun x τ h => ?_)
    · obtain ⟨v, hv, e1, h⟩ := h; cases e1; exact j_sel [] rfl h
    · obtain ⟨v, hv, e1, h⟩ := h; cases e1
  · have h := h2 k6
    refine j_aload_n d_M_can_39 0 rfl ?_
    refine j_getR 122 f_M_104 d_M_can_40 (tg_94 hE) (q_okE hE (by decide)) (rf_94_52 hE) (by decide) ?_
    refine j_iload_n d_M_can_43 3 rfl ?_
    obtain ⟨c7, h⟩ := h
    refine zj_bald (z σ 122 x3.toNat) d_M_can_44 (tg_122 hE) (q_okE hE (by decide)) c7 (by decide) (q_z _ _ _) ?_
    obtain ⟨h1, h2⟩ := h
    refine zj_if_ne 64 d_M_can_45 (by decide) (z_R _ _ _) (fun k8 => ?_) (fun k8 => ?_)
    · have h := h1 k8
      refine zj_iinc (L' := [(3, .int (zI (x3 + 1))), (0, .ref 94), (1, .int (zI x1)), (2, .int (zI x2))]) (x3 + 1) d_M_can_64 3 rfl (by omega) (by decide) rfl ?_
      refine j_goto 29 d_M_can_67 (by decide) ?_
      exact j_sel [1, 2, 3, 0] rfl h
    · have h := h2 k8
      refine j_aload_n d_M_can_48 0 rfl ?_
      refine j_iload_n d_M_can_49 3 rfl ?_
      refine j_iload_n d_M_can_50 1 rfl ?_
      refine j_callV m_M_valueAt [.int (zI x3), .int (zI x1)] [] d 0 0 cV_M_412 d_M_can_51 rfl rfl (tg_94 hE) (q_okE hE (by decide)) (Nat.le_of_ble_eq_true rfl) (Nat.le_refl _) (Nat.le_of_ble_eq_true rfl) (Nat.zero_le _) (Nat.zero_le _) h (fun v τ h => ?_) (fun x τ h => ?_)
      · obtain ⟨v, hv, e1, h⟩ := h; cases e1; exact j_sel [0, 1, 2, 3] rfl h
      · obtain ⟨v, hv, e1, h⟩ := h; cases e1
set_option maxHeartbeats 2000000 in
theorem b_M_can_26 {ω : q_W} {σ : q_H} {Q : q_R → q_H → Prop} {d mc ms : Nat} {y0 : Int} {s : Nat} (hs : s = 110 ∨ s = 116) (rs0 : q_r σ 94 32 = s) (rs1 : q_r σ 94 33 = (s + 1)) (rs2 : q_r σ 94 34 = (s + 2)) (rs3 : q_r σ 94 35 = (s + 3)) (rs4 : q_r σ 94 36 = (s + 4)) (rs5 : q_r σ 94 37 = (s + 5)) (hE : q_E σ) (h : (Q (.inl (some (.int (zI y0)))) σ)) : J ω m_M_can (d + 1) mc ms 0 0 26 [] [.int (zI y0)] σ Q := by
  exact zj_iret d_M_can_26 rfl (Nat.zero_le _) (Nat.zero_le _) h
set_option maxHeartbeats 2000000 in
theorem b_M_can_75 {ω : q_W} {σ : q_H} {Q : q_R → q_H → Prop} {d mc ms : Nat} {y0 : Int} {s : Nat} (hs : s = 110 ∨ s = 116) (rs0 : q_r σ 94 32 = s) (rs1 : q_r σ 94 33 = (s + 1)) (rs2 : q_r σ 94 34 = (s + 2)) (rs3 : q_r σ 94 35 = (s + 3)) (rs4 : q_r σ 94 36 = (s + 4)) (rs5 : q_r σ 94 37 = (s + 5)) (hE : q_E σ) (h : (Q (.inl (some (.int (zI y0)))) σ)) : J ω m_M_can (d + 1) mc ms 0 0 75 [] [.int (zI y0)] σ Q := by
  exact zj_iret d_M_can_75 rfl (Nat.zero_le _) (Nat.zero_le _) h
set_option maxHeartbeats 2000000 in
theorem b_M_can_54 {ω : q_W} {σ : q_H} {Q : q_R → q_H → Prop} {d mc ms : Nat} {x1 : Int} {x2 : Int} {x3 : Int} {y0 : Int} {s : Nat} (hs : s = 110 ∨ s = 116) (rs0 : q_r σ 94 32 = s) (rs1 : q_r σ 94 33 = (s + 1)) (rs2 : q_r σ 94 34 = (s + 2)) (rs3 : q_r σ 94 35 = (s + 3)) (rs4 : q_r σ 94 36 = (s + 4)) (rs5 : q_r σ 94 37 = (s + 5)) (hE : q_E σ) (h : inR y0 ∧ inR x2 ∧ q_imp (y0 ≠ x2) ((J ω m_M_can (d + 1) mc ms 0 0 29 [(0, .ref 94), (1, .int (zI x1)), (2, .int (zI x2)), (3, .int (zI (x3 + 1)))] [] σ Q)) ∧ q_imp (y0 = x2) ((J ω m_M_asked d 0 0 0 0 0 [(0, .ref 94), (1, .int (zI x3))] [] σ (q_ki (fun v τ => J ω m_M_can (d + 1) mc ms 0 0 63 [] [.int (zI v)] τ Q))))) : J ω m_M_can (d + 1) mc ms 0 0 54 [(0, .ref 94), (1, .int (zI x1)), (2, .int (zI x2)), (3, .int (zI x3))] [.int (zI y0)] σ Q := by
  refine j_iload_n d_M_can_54 2 rfl ?_
  obtain ⟨r9, h⟩ := h
  obtain ⟨r10, h⟩ := h
  obtain ⟨h1, h2⟩ := h
  refine zj_icmp_ne 64 d_M_can_55 (by decide) r9 r10 (fun k11 => ?_) (fun k11 => ?_)
  · have h := h1 k11
    refine zj_iinc (L' := [(3, .int (zI (x3 + 1))), (0, .ref 94), (1, .int (zI x1)), (2, .int (zI x2))]) (x3 + 1) d_M_can_64 3 rfl (by omega) (by decide) rfl ?_
    refine j_goto 29 d_M_can_67 (by decide) ?_
    exact j_sel [1, 2, 3, 0] rfl h
  · have h := h2 k11
    refine j_aload_n d_M_can_58 0 rfl ?_
    refine j_iload_n d_M_can_59 3 rfl ?_
    refine j_callV m_M_asked [.int (zI x3)] [] d 0 0 cV_M_406 d_M_can_60 rfl rfl (tg_94 hE) (q_okE hE (by decide)) (Nat.le_of_ble_eq_true rfl) (Nat.le_refl _) (Nat.le_of_ble_eq_true rfl) (Nat.zero_le _) (Nat.zero_le _) h (fun v τ h => ?_) (fun x τ h => ?_)
    · obtain ⟨v, hv, e1, h⟩ := h; cases e1; exact j_sel [] rfl h
    · obtain ⟨v, hv, e1, h⟩ := h; cases e1
set_option maxHeartbeats 2000000 in
theorem b_M_can_63 {ω : q_W} {σ : q_H} {Q : q_R → q_H → Prop} {d mc ms : Nat} {y0 : Int} {s : Nat} (hs : s = 110 ∨ s = 116) (rs0 : q_r σ 94 32 = s) (rs1 : q_r σ 94 33 = (s + 1)) (rs2 : q_r σ 94 34 = (s + 2)) (rs3 : q_r σ 94 35 = (s + 3)) (rs4 : q_r σ 94 36 = (s + 4)) (rs5 : q_r σ 94 37 = (s + 5)) (hE : q_E σ) (h : (Q (.inl (some (.int (zI y0)))) σ)) : J ω m_M_can (d + 1) mc ms 0 0 63 [] [.int (zI y0)] σ Q := by
  exact zj_iret d_M_can_63 rfl (Nat.zero_le _) (Nat.zero_le _) h
set_option maxHeartbeats 2000000 in
theorem b_M_ends_0 {ω : q_W} {σ : q_H} {Q : q_R → q_H → Prop} {d mc ms : Nat}  {s : Nat} (hs : s = 110 ∨ s = 116) (rs0 : q_r σ 94 32 = s) (rs1 : q_r σ 94 33 = (s + 1)) (rs2 : q_r σ 94 34 = (s + 2)) (rs3 : q_r σ 94 35 = (s + 3)) (rs4 : q_r σ 94 36 = (s + 4)) (rs5 : q_r σ 94 37 = (s + 5)) (hE : q_E σ) (h : (J ω m_M_questions d 0 0 0 0 0 [(0, .ref 94)] [] σ (q_ki (fun v τ => J ω m_M_ends (d + 1) mc ms 0 0 4 [(0, .ref 94)] [.int (zI v)] τ Q)))) : J ω m_M_ends (d + 1) mc ms 0 0 0 [(0, .ref 94)] [] σ Q := by
  refine j_aload_n d_M_ends_0 0 rfl ?_
  refine j_callV m_M_questions [] [] d 0 0 cV_M_402 d_M_ends_1 rfl rfl (tg_94 hE) (q_okE hE (by decide)) (Nat.le_of_ble_eq_true rfl) (Nat.le_refl _) (Nat.le_of_ble_eq_true rfl) (Nat.zero_le _) (Nat.zero_le _) h (fun v τ h => ?_) (fun x τ h => ?_)
  · obtain ⟨v, hv, e1, h⟩ := h; cases e1; exact j_sel [0] rfl h
  · obtain ⟨v, hv, e1, h⟩ := h; cases e1
set_option maxHeartbeats 2000000 in
theorem b_M_ends_4 {ω : q_W} {σ : q_H} {Q : q_R → q_H → Prop} {d mc ms : Nat} {y0 : Int} {s : Nat} (hs : s = 110 ∨ s = 116) (rs0 : q_r σ 94 32 = s) (rs1 : q_r σ 94 33 = (s + 1)) (rs2 : q_r σ 94 34 = (s + 2)) (rs3 : q_r σ 94 35 = (s + 3)) (rs4 : q_r σ 94 36 = (s + 4)) (rs5 : q_r σ 94 37 = (s + 5)) (hE : q_E σ) (h : inR y0 ∧ q_imp (y0 ≠ 0) ((J ω m_M_ends (d + 1) mc ms 0 0 17 [(0, .ref 94), (1, .int (zI 0)), (2, .int (zI 0))] [] σ Q)) ∧ q_imp (y0 = 0) ((J ω m_M_no d 0 0 0 0 0 [(0, .ref 94), (1, .int (zI 1))] [] σ (q_ki (fun v τ => J ω m_M_ends (d + 1) mc ms 0 0 12 [] [.int (zI v)] τ Q))))) : J ω m_M_ends (d + 1) mc ms 0 0 4 [(0, .ref 94)] [.int (zI y0)] σ Q := by
  obtain ⟨r1, h⟩ := h
  obtain ⟨h1, h2⟩ := h
  refine zj_if_ne 13 d_M_ends_4 (by decide) r1 (fun k2 => ?_) (fun k2 => ?_)
  · have h := h1 k2
    refine j_iconst (v := zI 0) d_M_ends_13 (by decide) ?_
    refine j_istore_n (L' := [(1, .int (zI 0)), (0, .ref 94)]) d_M_ends_14 (by decide) rfl ?_
    refine j_iconst (v := zI 0) d_M_ends_15 (by decide) ?_
    refine j_istore_n (L' := [(2, .int (zI 0)), (1, .int (zI 0)), (0, .ref 94)]) d_M_ends_16 (by decide) rfl ?_
    exact j_sel [2, 1, 0] rfl h
  · have h := h2 k2
    refine j_aload_n d_M_ends_7 0 rfl ?_
    refine j_iconst (v := zI 1) d_M_ends_8 (by decide) ?_
    refine j_callV m_M_no [.int (zI 1)] [] d 0 0 cV_M_147 d_M_ends_9 rfl rfl (tg_94 hE) (q_okE hE (by decide)) (Nat.le_of_ble_eq_true rfl) (Nat.le_refl _) (Nat.le_of_ble_eq_true rfl) (Nat.zero_le _) (Nat.zero_le _) h (fun v τ h => ?_) (fun x τ h => ?_)
    · obtain ⟨v, hv, e1, h⟩ := h; cases e1; exact j_sel [] rfl h
    · obtain ⟨v, hv, e1, h⟩ := h; cases e1
set_option maxHeartbeats 2000000 in
theorem b_M_ends_17 {ω : q_W} {σ : q_H} {Q : q_R → q_H → Prop} {d mc ms : Nat} {x1 : Int} {x2 : Int} {s : Nat} (hs : s = 110 ∨ s = 116) (rs0 : q_r σ 94 32 = s) (rs1 : q_r σ 94 33 = (s + 1)) (rs2 : q_r σ 94 34 = (s + 2)) (rs3 : q_r σ 94 35 = (s + 3)) (rs4 : q_r σ 94 36 = (s + 4)) (rs5 : q_r σ 94 37 = (s + 5)) (hE : q_E σ) (h : inR x2 ∧ q_imp (x2 ≥ (zShl 1 (z σ 94 29))) ((J ω m_M_asked d 0 0 0 0 0 [(0, .ref 94), (1, .int (zI (-1)))] [] σ (q_ki (fun v τ => J ω m_M_ends (d + 1) mc ms 0 0 56 [(1, .int (zI x1))] [.int (zI v)] τ Q)))) ∧ q_imp (x2 < (zShl 1 (z σ 94 29))) ((0 ≤ x2 ∧ x2 < 4096) ∧ q_imp ((z σ 122 x2.toNat) ≠ 0) ((J ω m_M_ends (d + 1) mc ms 0 0 17 [(0, .ref 94), (1, .int (zI x1)), (2, .int (zI (x2 + 1)))] [] σ Q)) ∧ q_imp ((z σ 122 x2.toNat) = 0) (inR x1 ∧ q_imp (x1 ≥ 20) ((J ω m_M_ends (d + 1) mc ms 0 0 17 [(0, .ref 94), (1, .int (zI x1)), (2, .int (zI (x2 + 1)))] [] σ Q)) ∧ q_imp (x1 < 20) ((J ω m_M_ends (d + 1) mc ms 0 0 17 [(0, .ref 94), (1, .int (zI (x1 + 1))), (2, .int (zI (x2 + 1)))] [] σ Q))))) : J ω m_M_ends (d + 1) mc ms 0 0 17 [(0, .ref 94), (1, .int (zI x1)), (2, .int (zI x2))] [] σ Q := by
  refine j_iload_n d_M_ends_17 2 rfl ?_
  refine j_iconst (v := zI 1) d_M_ends_18 (by decide) ?_
  refine j_aload_n d_M_ends_19 0 rfl ?_
  refine zj_getI (z σ 94 29) f_M_366 d_M_ends_20 (tg_94 hE) (q_okE hE (by decide)) (q_z _ _ _) ?_
  refine zj_ishl d_M_ends_23 ?_
  obtain ⟨r3, h⟩ := h
  obtain ⟨h1, h2⟩ := h
  refine zj_icmp_ge 51 d_M_ends_24 (by decide) r3 (inR_of _) (fun k4 => ?_) (fun k4 => ?_)
  · have h := h1 k4
    refine j_aload_n d_M_ends_51 0 rfl ?_
    refine j_iconst (v := zI (-1)) d_M_ends_52 (by decide) ?_
    refine j_callV m_M_asked [.int (zI (-1))] [] d 0 0 cV_M_406 d_M_ends_53 rfl rfl (tg_94 hE) (q_okE hE (by decide)) (Nat.le_of_ble_eq_true rfl) (Nat.le_refl _) (Nat.le_of_ble_eq_true rfl) (Nat.zero_le _) (Nat.zero_le _) h (fun v τ h => ?_) (fun x τ h => ?_)
    · obtain ⟨v, hv, e1, h⟩ := h; cases e1; exact j_sel [1] rfl h
    · obtain ⟨v, hv, e1, h⟩ := h; cases e1
  · have h := h2 k4
    refine j_aload_n d_M_ends_27 0 rfl ?_
    refine j_getR 122 f_M_104 d_M_ends_28 (tg_94 hE) (q_okE hE (by decide)) (rf_94_52 hE) (by decide) ?_
    refine j_iload_n d_M_ends_31 2 rfl ?_
    obtain ⟨c5, h⟩ := h
    refine zj_bald (z σ 122 x2.toNat) d_M_ends_32 (tg_122 hE) (q_okE hE (by decide)) c5 (by decide) (q_z _ _ _) ?_
    obtain ⟨h1, h2⟩ := h
    refine zj_if_ne 45 d_M_ends_33 (by decide) (z_R _ _ _) (fun k6 => ?_) (fun k6 => ?_)
    · have h := h1 k6
      refine zj_iinc (L' := [(2, .int (zI (x2 + 1))), (0, .ref 94), (1, .int (zI x1))]) (x2 + 1) d_M_ends_45 2 rfl (by omega) (by decide) rfl ?_
      refine j_goto 17 d_M_ends_48 (by decide) ?_
      exact j_sel [1, 2, 0] rfl h
    · have h := h2 k6
      refine j_iload_n d_M_ends_36 1 rfl ?_
      refine j_bipush (v := zI 20) d_M_ends_37 (by decide) ?_
      obtain ⟨r7, h⟩ := h
      obtain ⟨h1, h2⟩ := h
      refine zj_icmp_ge 45 d_M_ends_39 (by decide) r7 ⟨by decide, by decide⟩ (fun k8 => ?_) (fun k8 => ?_)
      · have h := h1 k8
        refine zj_iinc (L' := [(2, .int (zI (x2 + 1))), (0, .ref 94), (1, .int (zI x1))]) (x2 + 1) d_M_ends_45 2 rfl (by omega) (by decide) rfl ?_
        refine j_goto 17 d_M_ends_48 (by decide) ?_
        exact j_sel [1, 2, 0] rfl h
      · have h := h2 k8
        refine zj_iinc (L' := [(1, .int (zI (x1 + 1))), (0, .ref 94), (2, .int (zI x2))]) (x1 + 1) d_M_ends_42 1 rfl (by omega) (by decide) rfl ?_
        refine zj_iinc (L' := [(2, .int (zI (x2 + 1))), (1, .int (zI (x1 + 1))), (0, .ref 94)]) (x2 + 1) d_M_ends_45 2 rfl (by omega) (by decide) rfl ?_
        refine j_goto 17 d_M_ends_48 (by decide) ?_
        exact j_sel [2, 1, 0] rfl h
set_option maxHeartbeats 2000000 in
theorem b_M_ends_12 {ω : q_W} {σ : q_H} {Q : q_R → q_H → Prop} {d mc ms : Nat} {y0 : Int} {s : Nat} (hs : s = 110 ∨ s = 116) (rs0 : q_r σ 94 32 = s) (rs1 : q_r σ 94 33 = (s + 1)) (rs2 : q_r σ 94 34 = (s + 2)) (rs3 : q_r σ 94 35 = (s + 3)) (rs4 : q_r σ 94 36 = (s + 4)) (rs5 : q_r σ 94 37 = (s + 5)) (hE : q_E σ) (h : (Q (.inl (some (.int (zI y0)))) σ)) : J ω m_M_ends (d + 1) mc ms 0 0 12 [] [.int (zI y0)] σ Q := by
  exact zj_iret d_M_ends_12 rfl (Nat.zero_le _) (Nat.zero_le _) h
set_option maxHeartbeats 2000000 in
theorem b_M_ends_56 {ω : q_W} {σ : q_H} {Q : q_R → q_H → Prop} {d mc ms : Nat} {x1 : Int} {y0 : Int} {s : Nat} (hs : s = 110 ∨ s = 116) (rs0 : q_r σ 94 32 = s) (rs1 : q_r σ 94 33 = (s + 1)) (rs2 : q_r σ 94 34 = (s + 2)) (rs3 : q_r σ 94 35 = (s + 3)) (rs4 : q_r σ 94 36 = (s + 4)) (rs5 : q_r σ 94 37 = (s + 5)) (hE : q_E σ) (h : (Q (.inl (some (.int (zI x1)))) σ)) : J ω m_M_ends (d + 1) mc ms 0 0 56 [(1, .int (zI x1))] [.int (zI y0)] σ Q := by
  refine j_istore_n (L' := [(2, .int (zI y0)), (1, .int (zI x1))]) d_M_ends_56 (by decide) rfl ?_
  refine j_iload_n d_M_ends_57 1 rfl ?_
  exact zj_iret d_M_ends_58 rfl (Nat.zero_le _) (Nat.zero_le _) h
set_option maxHeartbeats 2000000 in
theorem b_M_witness_0 {ω : q_W} {σ : q_H} {Q : q_R → q_H → Prop} {d mc ms : Nat} {x1 : Int} {s : Nat} (hs : s = 110 ∨ s = 116) (rs0 : q_r σ 94 32 = s) (rs1 : q_r σ 94 33 = (s + 1)) (rs2 : q_r σ 94 34 = (s + 2)) (rs3 : q_r σ 94 35 = (s + 3)) (rs4 : q_r σ 94 36 = (s + 4)) (rs5 : q_r σ 94 37 = (s + 5)) (hE : q_E σ) (h : q_imp ((z σ 94 31) ≠ 0) (q_imp ((z σ 94 62) < 0) ((J ω m_M_no d 0 0 0 0 0 [(0, .ref 94), (1, .int (zI 2))] [] σ (q_ki (fun v τ => J ω m_M_witness (d + 1) mc ms 0 0 37 [] [.int (zI v)] τ Q)))) ∧ q_imp (0 ≤ (z σ 94 62)) (inR x1 ∧ q_imp (x1 < 0) ((J ω m_M_no d 0 0 0 0 0 [(0, .ref 94), (1, .int (zI 2))] [] σ (q_ki (fun v τ => J ω m_M_witness (d + 1) mc ms 0 0 37 [] [.int (zI v)] τ Q)))) ∧ q_imp (0 ≤ x1) (q_imp (x1 < (z σ 94 26)) ((J ω m_M_spread d 0 0 0 0 0 [(0, .ref 94), (1, .int (zI (z σ 94 62))), (2, .ref 127)] [] (zs σ 94 0 0) (q_kv (fun τ => J ω m_M_witness (d + 1) mc ms 0 0 55 [(0, .ref 94), (1, .int (zI x1))] [] τ Q)))) ∧ q_imp (x1 ≥ (z σ 94 26)) ((J ω m_M_no d 0 0 0 0 0 [(0, .ref 94), (1, .int (zI 2))] [] σ (q_ki (fun v τ => J ω m_M_witness (d + 1) mc ms 0 0 37 [] [.int (zI v)] τ Q))))))) ∧ q_imp ((z σ 94 31) = 0) ((J ω m_M_no d 0 0 0 0 0 [(0, .ref 94), (1, .int (zI 1))] [] σ (q_ki (fun v τ => J ω m_M_witness (d + 1) mc ms 0 0 12 [] [.int (zI v)] τ Q))))) : J ω m_M_witness (d + 1) mc ms 0 0 0 [(0, .ref 94), (1, .int (zI x1))] [] σ Q := by
  refine j_aload_n d_M_witness_0 0 rfl ?_
  refine zj_getZ (z σ 94 31) f_M_347 d_M_witness_1 (tg_94 hE) (q_okE hE (by decide)) (q_z _ _ _) ?_
  obtain ⟨h1, h2⟩ := h
  refine zj_if_ne 13 d_M_witness_4 (by decide) (z_R _ _ _) (fun k1 => ?_) (fun k1 => ?_)
  · have h := h1 k1
    refine j_aload_n d_M_witness_13 0 rfl ?_
    refine zj_getI (z σ 94 62) f_M_129 d_M_witness_14 (tg_94 hE) (q_okE hE (by decide)) (q_z _ _ _) ?_
    obtain ⟨h1, h2⟩ := h
    refine zj_if_lt 32 d_M_witness_17 (by decide) (z_R _ _ _) (fun k2 => ?_) (fun k2 => ?_)
    · have h := h1 k2
      refine j_aload_n d_M_witness_32 0 rfl ?_
      refine j_iconst (v := zI 2) d_M_witness_33 (by decide) ?_
      refine j_callV m_M_no [.int (zI 2)] [] d 0 0 cV_M_147 d_M_witness_34 rfl rfl (tg_94 hE) (q_okE hE (by decide)) (Nat.le_of_ble_eq_true rfl) (Nat.le_refl _) (Nat.le_of_ble_eq_true rfl) (Nat.zero_le _) (Nat.zero_le _) h (fun v τ h => ?_) (fun x τ h => ?_)
      · obtain ⟨v, hv, e1, h⟩ := h; cases e1; exact j_sel [] rfl h
      · obtain ⟨v, hv, e1, h⟩ := h; cases e1
    · have h := h2 k2
      refine j_iload_n d_M_witness_20 1 rfl ?_
      obtain ⟨r3, h⟩ := h
      obtain ⟨h1, h2⟩ := h
      refine zj_if_lt 32 d_M_witness_21 (by decide) r3 (fun k4 => ?_) (fun k4 => ?_)
      · have h := h1 k4
        refine j_aload_n d_M_witness_32 0 rfl ?_
        refine j_iconst (v := zI 2) d_M_witness_33 (by decide) ?_
        refine j_callV m_M_no [.int (zI 2)] [] d 0 0 cV_M_147 d_M_witness_34 rfl rfl (tg_94 hE) (q_okE hE (by decide)) (Nat.le_of_ble_eq_true rfl) (Nat.le_refl _) (Nat.le_of_ble_eq_true rfl) (Nat.zero_le _) (Nat.zero_le _) h (fun v τ h => ?_) (fun x τ h => ?_)
        · obtain ⟨v, hv, e1, h⟩ := h; cases e1; exact j_sel [] rfl h
        · obtain ⟨v, hv, e1, h⟩ := h; cases e1
      · have h := h2 k4
        refine j_iload_n d_M_witness_24 1 rfl ?_
        refine j_aload_n d_M_witness_25 0 rfl ?_
        refine zj_getI (z σ 94 26) f_M_357 d_M_witness_26 (tg_94 hE) (q_okE hE (by decide)) (q_z _ _ _) ?_
        obtain ⟨h1, h2⟩ := h
        refine zj_icmp_lt 38 d_M_witness_29 (by decide) r3 (z_R _ _ _) (fun k5 => ?_) (fun k5 => ?_)
        · have h := h1 k5
          refine j_aload_n d_M_witness_38 0 rfl ?_
          refine j_iconst (v := zI 0) d_M_witness_39 (by decide) ?_
          refine zj_putI (g_M_141 _) d_M_witness_40 (tg_94 hE) (q_okE hE (by decide)) ?_
          refine j_aload_n d_M_witness_43 0 rfl ?_
          refine j_aload_n d_M_witness_44 0 rfl ?_
          refine zj_getI (z σ 94 62) f_M_129 d_M_witness_45 (tg_94 (zs_E hE)) (q_okE (zs_E hE) (by decide)) (Eq.trans (qs_k (by decide)) (q_z _ _ _)) ?_
          refine j_aload_n d_M_witness_48 0 rfl ?_
          refine j_getR 127 f_M_120 d_M_witness_49 (tg_94 (zs_E hE)) (q_okE (zs_E hE) (by decide)) (rf_94_58 (zs_E hE)) (by decide) ?_
          refine j_callV m_M_spread [.int (zI (z σ 94 62)), .ref 127] [] d 0 0 cV_M_395 d_M_witness_52 rfl rfl (tg_94 (zs_E hE)) (q_okE (zs_E hE) (by decide)) (Nat.le_of_ble_eq_true rfl) (Nat.le_refl _) (Nat.le_of_ble_eq_true rfl) (Nat.zero_le _) (Nat.zero_le _) h (fun v τ h => ?_) (fun x τ h => ?_)
          · obtain ⟨e1, h⟩ := h; cases e1; exact j_sel [0, 1] rfl h
          · obtain ⟨e1, h⟩ := h; cases e1
        · have h := h2 k5
          refine j_aload_n d_M_witness_32 0 rfl ?_
          refine j_iconst (v := zI 2) d_M_witness_33 (by decide) ?_
          refine j_callV m_M_no [.int (zI 2)] [] d 0 0 cV_M_147 d_M_witness_34 rfl rfl (tg_94 hE) (q_okE hE (by decide)) (Nat.le_of_ble_eq_true rfl) (Nat.le_refl _) (Nat.le_of_ble_eq_true rfl) (Nat.zero_le _) (Nat.zero_le _) h (fun v τ h => ?_) (fun x τ h => ?_)
          · obtain ⟨v, hv, e1, h⟩ := h; cases e1; exact j_sel [] rfl h
          · obtain ⟨v, hv, e1, h⟩ := h; cases e1
  · have h := h2 k1
    refine j_aload_n d_M_witness_7 0 rfl ?_
    refine j_iconst (v := zI 1) d_M_witness_8 (by decide) ?_
    refine j_callV m_M_no [.int (zI 1)] [] d 0 0 cV_M_147 d_M_witness_9 rfl rfl (tg_94 hE) (q_okE hE (by decide)) (Nat.le_of_ble_eq_true rfl) (Nat.le_refl _) (Nat.le_of_ble_eq_true rfl) (Nat.zero_le _) (Nat.zero_le _) h (fun v τ h => ?_) (fun x τ h => ?_)
    · obtain ⟨v, hv, e1, h⟩ := h; cases e1; exact j_sel [] rfl h
    · obtain ⟨v, hv, e1, h⟩ := h; cases e1
set_option maxHeartbeats 2000000 in
theorem b_M_witness_37 {ω : q_W} {σ : q_H} {Q : q_R → q_H → Prop} {d mc ms : Nat} {y0 : Int} {s : Nat} (hs : s = 110 ∨ s = 116) (rs0 : q_r σ 94 32 = s) (rs1 : q_r σ 94 33 = (s + 1)) (rs2 : q_r σ 94 34 = (s + 2)) (rs3 : q_r σ 94 35 = (s + 3)) (rs4 : q_r σ 94 36 = (s + 4)) (rs5 : q_r σ 94 37 = (s + 5)) (hE : q_E σ) (h : (Q (.inl (some (.int (zI y0)))) σ)) : J ω m_M_witness (d + 1) mc ms 0 0 37 [] [.int (zI y0)] σ Q := by
  exact zj_iret d_M_witness_37 rfl (Nat.zero_le _) (Nat.zero_le _) h
set_option maxHeartbeats 2000000 in
theorem b_M_witness_55 {ω : q_W} {σ : q_H} {Q : q_R → q_H → Prop} {d mc ms : Nat} {x1 : Int} {s : Nat} (hs : s = 110 ∨ s = 116) (rs0 : q_r σ 94 32 = s) (rs1 : q_r σ 94 33 = (s + 1)) (rs2 : q_r σ 94 34 = (s + 2)) (rs3 : q_r σ 94 35 = (s + 3)) (rs4 : q_r σ 94 36 = (s + 4)) (rs5 : q_r σ 94 37 = (s + 5)) (hE : q_E σ) (h : (0 ≤ x1 ∧ x1 < 16) ∧ (Q (.inl (some (.int (zI (z σ 127 x1.toNat))))) σ)) : J ω m_M_witness (d + 1) mc ms 0 0 55 [(0, .ref 94), (1, .int (zI x1))] [] σ Q := by
  refine j_aload_n d_M_witness_55 0 rfl ?_
  refine j_getR 127 f_M_120 d_M_witness_56 (tg_94 hE) (q_okE hE (by decide)) (rf_94_58 hE) (by decide) ?_
  refine j_iload_n d_M_witness_59 1 rfl ?_
  obtain ⟨c6, h⟩ := h
  refine zj_iald (z σ 127 x1.toNat) d_M_witness_60 (tg_127 hE) (q_okE hE (by decide)) c6 (by decide) (q_z _ _ _) ?_
  exact zj_iret d_M_witness_61 rfl (Nat.zero_le _) (Nat.zero_le _) h
set_option maxHeartbeats 2000000 in
theorem b_M_witness_12 {ω : q_W} {σ : q_H} {Q : q_R → q_H → Prop} {d mc ms : Nat} {y0 : Int} {s : Nat} (hs : s = 110 ∨ s = 116) (rs0 : q_r σ 94 32 = s) (rs1 : q_r σ 94 33 = (s + 1)) (rs2 : q_r σ 94 34 = (s + 2)) (rs3 : q_r σ 94 35 = (s + 3)) (rs4 : q_r σ 94 36 = (s + 4)) (rs5 : q_r σ 94 37 = (s + 5)) (hE : q_E σ) (h : (Q (.inl (some (.int (zI y0)))) σ)) : J ω m_M_witness (d + 1) mc ms 0 0 12 [] [.int (zI y0)] σ Q := by
  exact zj_iret d_M_witness_12 rfl (Nat.zero_le _) (Nat.zero_le _) h
set_option maxHeartbeats 2000000 in
theorem b_M_set_0 {ω : q_W} {σ : q_H} {Q : q_R → q_H → Prop} {d mc ms : Nat} {x1 : Int} {x2 : Int} {s : Nat} (hs : s = 110 ∨ s = 116) (rs0 : q_r σ 94 32 = s) (rs1 : q_r σ 94 33 = (s + 1)) (rs2 : q_r σ 94 34 = (s + 2)) (rs3 : q_r σ 94 35 = (s + 3)) (rs4 : q_r σ 94 36 = (s + 4)) (rs5 : q_r σ 94 37 = (s + 5)) (hE : q_E σ) (h : q_imp ((z σ 94 31) = 0) ((J ω m_M_set (d + 1) mc ms 0 0 19 [(0, .ref 94)] [] σ Q)) ∧ q_imp ((z σ 94 31) ≠ 0) (inR x1 ∧ q_imp (x1 < 0) ((J ω m_M_set (d + 1) mc ms 0 0 19 [(0, .ref 94)] [] σ Q)) ∧ q_imp (0 ≤ x1) (q_imp (x1 < (z σ 94 26)) ((0 ≤ x1 ∧ x1 < 16) ∧ inR x2 ∧ (Q (.inl none) (zs (zs σ 94 0 0) 126 x1.toNat (zAnd x2 (zShl 1 (z σ 106 x1.toNat) - 1))))) ∧ q_imp (x1 ≥ (z σ 94 26)) ((J ω m_M_set (d + 1) mc ms 0 0 19 [(0, .ref 94)] [] σ Q))))) : J ω m_M_set (d + 1) mc ms 0 0 0 [(0, .ref 94), (1, .int (zI x1)), (2, .int (zI x2))] [] σ Q := by
  refine j_aload_n d_M_set_0 0 rfl ?_
  refine zj_getZ (z σ 94 31) f_M_347 d_M_set_1 (tg_94 hE) (q_okE hE (by decide)) (q_z _ _ _) ?_
  obtain ⟨h1, h2⟩ := h
  refine zj_if_eq 19 d_M_set_4 (by decide) (z_R _ _ _) (fun k1 => ?_) (fun k1 => ?_)
  · have h := h1 k1
    exact j_sel [0] rfl h
  · have h := h2 k1
    refine j_iload_n d_M_set_7 1 rfl ?_
    obtain ⟨r2, h⟩ := h
    obtain ⟨h1, h2⟩ := h
    refine zj_if_lt 19 d_M_set_8 (by decide) r2 (fun k3 => ?_) (fun k3 => ?_)
    · have h := h1 k3
      exact j_sel [0] rfl h
    · have h := h2 k3
      refine j_iload_n d_M_set_11 1 rfl ?_
      refine j_aload_n d_M_set_12 0 rfl ?_
      refine zj_getI (z σ 94 26) f_M_357 d_M_set_13 (tg_94 hE) (q_okE hE (by decide)) (q_z _ _ _) ?_
      obtain ⟨h1, h2⟩ := h
      refine zj_icmp_lt 36 d_M_set_16 (by decide) r2 (z_R _ _ _) (fun k4 => ?_) (fun k4 => ?_)
      · have h := h1 k4
        refine j_aload_n d_M_set_36 0 rfl ?_
        refine j_iconst (v := zI 0) d_M_set_37 (by decide) ?_
        refine zj_putI (g_M_141 _) d_M_set_38 (tg_94 hE) (q_okE hE (by decide)) ?_
        refine j_aload_n d_M_set_41 0 rfl ?_
        refine j_getR 126 f_M_117 d_M_set_42 (tg_94 (zs_E hE)) (q_okE (zs_E hE) (by decide)) (rf_94_57 (zs_E hE)) (by decide) ?_
        refine j_iload_n d_M_set_45 1 rfl ?_
        refine j_iload_n d_M_set_46 2 rfl ?_
        refine j_aload_n d_M_set_47 0 rfl ?_
        refine j_getR 106 f_M_49 d_M_set_48 (tg_94 (zs_E hE)) (q_okE (zs_E hE) (by decide)) (rf_94_22 (zs_E hE)) (by decide) ?_
        refine j_iload_n d_M_set_51 1 rfl ?_
        obtain ⟨c5, h⟩ := h
        refine zj_iald (z σ 106 x1.toNat) d_M_set_52 (tg_106 (zs_E hE)) (q_okE (zs_E hE) (by decide)) c5 (by decide) (Eq.trans (qs_o (by decide)) (q_z _ _ _)) ?_
        obtain ⟨r6, h⟩ := h
        refine j_callS m_M_cut_2 [.int (zI x2), .int (zI (z σ 106 x1.toNat))] [.int (zI x1), .ref 126] 0 0 0 cS_M_384 d_M_set_53 rfl rfl (Nat.le_of_ble_eq_true rfl) (Nat.succ_le_succ (Nat.zero_le _)) (Nat.le_of_ble_eq_true rfl) (Nat.zero_le _) (Nat.zero_le _) (c_M_cut_2 (zs_E hE) r6 (z_R _ _ _)) (fun v τ h => ?_) (fun x τ h => absurd h.1 (by simp))
        obtain ⟨e1, e2⟩ := h; cases e1; rw [e2]
        refine zj_iast d_M_set_56 (tg_126 (zs_E hE)) (q_okE (zs_E hE) (by decide)) c5 (by decide) ?_
        exact j_vret d_M_set_57 rfl (Nat.zero_le _) (Nat.zero_le _) h
      · have h := h2 k4
        exact j_sel [0] rfl h
set_option maxHeartbeats 2000000 in
theorem b_M_set_19 {ω : q_W} {σ : q_H} {Q : q_R → q_H → Prop} {d mc ms : Nat}  {s : Nat} (hs : s = 110 ∨ s = 116) (rs0 : q_r σ 94 32 = s) (rs1 : q_r σ 94 33 = (s + 1)) (rs2 : q_r σ 94 34 = (s + 2)) (rs3 : q_r σ 94 35 = (s + 3)) (rs4 : q_r σ 94 36 = (s + 4)) (rs5 : q_r σ 94 37 = (s + 5)) (hE : q_E σ) (h : q_imp ((z σ 94 31) = 0) ((Q (.inl none) (zs σ 94 0 1))) ∧ q_imp ((z σ 94 31) ≠ 0) ((Q (.inl none) (zs σ 94 0 2)))) : J ω m_M_set (d + 1) mc ms 0 0 19 [(0, .ref 94)] [] σ Q := by
  refine j_aload_n d_M_set_19 0 rfl ?_
  refine j_aload_n d_M_set_20 0 rfl ?_
  refine zj_getZ (z σ 94 31) f_M_347 d_M_set_21 (tg_94 hE) (q_okE hE (by decide)) (q_z _ _ _) ?_
  obtain ⟨h1, h2⟩ := h
  refine zj_if_eq 31 d_M_set_24 (by decide) (z_R _ _ _) (fun k7 => ?_) (fun k7 => ?_)
  · have h := h1 k7
    refine j_iconst (v := zI 1) d_M_set_31 (by decide) ?_
    refine zj_putI (g_M_141 _) d_M_set_32 (tg_94 hE) (q_okE hE (by decide)) ?_
    exact j_vret d_M_set_35 rfl (Nat.zero_le _) (Nat.zero_le _) h
  · have h := h2 k7
    refine j_iconst (v := zI 2) d_M_set_27 (by decide) ?_
    refine j_goto 32 d_M_set_28 (by decide) ?_
    refine zj_putI (g_M_141 _) d_M_set_32 (tg_94 hE) (q_okE hE (by decide)) ?_
    exact j_vret d_M_set_35 rfl (Nat.zero_le _) (Nat.zero_le _) h
set_option maxHeartbeats 2000000 in
theorem b_M_take_0 {ω : q_W} {σ : q_H} {Q : q_R → q_H → Prop} {d mc ms : Nat}  {s : Nat} (hs : s = 110 ∨ s = 116) (rs0 : q_r σ 94 32 = s) (rs1 : q_r σ 94 33 = (s + 1)) (rs2 : q_r σ 94 34 = (s + 2)) (rs3 : q_r σ 94 35 = (s + 3)) (rs4 : q_r σ 94 36 = (s + 4)) (rs5 : q_r σ 94 37 = (s + 5)) (hE : q_E σ) (h : q_imp ((z σ 94 31) = 0) ((J ω m_M_take (d + 1) mc ms 0 0 14 [(0, .ref 94)] [] σ Q)) ∧ q_imp ((z σ 94 31) ≠ 0) (q_imp (0 ≤ (z σ 94 62)) ((J ω m_M_spread d 0 0 0 0 0 [(0, .ref 94), (1, .int (zI (z σ 94 62))), (2, .ref 126)] [] (zs σ 94 0 0) (q_kv (fun τ => J ω m_M_take (d + 1) mc ms 0 0 48 [] [] τ Q)))) ∧ q_imp ((z σ 94 62) < 0) ((J ω m_M_take (d + 1) mc ms 0 0 14 [(0, .ref 94)] [] σ Q)))) : J ω m_M_take (d + 1) mc ms 0 0 0 [(0, .ref 94)] [] σ Q := by
  refine j_aload_n d_M_take_0 0 rfl ?_
  refine zj_getZ (z σ 94 31) f_M_347 d_M_take_1 (tg_94 hE) (q_okE hE (by decide)) (q_z _ _ _) ?_
  obtain ⟨h1, h2⟩ := h
  refine zj_if_eq 14 d_M_take_4 (by decide) (z_R _ _ _) (fun k1 => ?_) (fun k1 => ?_)
  · have h := h1 k1
    exact j_sel [0] rfl h
  · have h := h2 k1
    refine j_aload_n d_M_take_7 0 rfl ?_
    refine zj_getI (z σ 94 62) f_M_129 d_M_take_8 (tg_94 hE) (q_okE hE (by decide)) (q_z _ _ _) ?_
    obtain ⟨h1, h2⟩ := h
    refine zj_if_ge 31 d_M_take_11 (by decide) (z_R _ _ _) (fun k2 => ?_) (fun k2 => ?_)
    · have h := h1 k2
      refine j_aload_n d_M_take_31 0 rfl ?_
      refine j_iconst (v := zI 0) d_M_take_32 (by decide) ?_
      refine zj_putI (g_M_141 _) d_M_take_33 (tg_94 hE) (q_okE hE (by decide)) ?_
      refine j_aload_n d_M_take_36 0 rfl ?_
      refine j_aload_n d_M_take_37 0 rfl ?_
      refine zj_getI (z σ 94 62) f_M_129 d_M_take_38 (tg_94 (zs_E hE)) (q_okE (zs_E hE) (by decide)) (Eq.trans (qs_k (by decide)) (q_z _ _ _)) ?_
      refine j_aload_n d_M_take_41 0 rfl ?_
      refine j_getR 126 f_M_117 d_M_take_42 (tg_94 (zs_E hE)) (q_okE (zs_E hE) (by decide)) (rf_94_57 (zs_E hE)) (by decide) ?_
      refine j_callV m_M_spread [.int (zI (z σ 94 62)), .ref 126] [] d 0 0 cV_M_395 d_M_take_45 rfl rfl (tg_94 (zs_E hE)) (q_okE (zs_E hE) (by decide)) (Nat.le_of_ble_eq_true rfl) (Nat.le_refl _) (Nat.le_of_ble_eq_true rfl) (Nat.zero_le _) (Nat.zero_le _) h (fun v τ h => ?_) (fun x τ h => ?_)
      · obtain ⟨e1, h⟩ := h; cases e1; exact j_sel [] rfl h
      · obtain ⟨e1, h⟩ := h; cases e1
    · have h := h2 k2
      exact j_sel [0] rfl h
set_option maxHeartbeats 2000000 in
theorem b_M_take_14 {ω : q_W} {σ : q_H} {Q : q_R → q_H → Prop} {d mc ms : Nat}  {s : Nat} (hs : s = 110 ∨ s = 116) (rs0 : q_r σ 94 32 = s) (rs1 : q_r σ 94 33 = (s + 1)) (rs2 : q_r σ 94 34 = (s + 2)) (rs3 : q_r σ 94 35 = (s + 3)) (rs4 : q_r σ 94 36 = (s + 4)) (rs5 : q_r σ 94 37 = (s + 5)) (hE : q_E σ) (h : q_imp ((z σ 94 31) = 0) ((Q (.inl none) (zs σ 94 0 1))) ∧ q_imp ((z σ 94 31) ≠ 0) ((Q (.inl none) (zs σ 94 0 2)))) : J ω m_M_take (d + 1) mc ms 0 0 14 [(0, .ref 94)] [] σ Q := by
  refine j_aload_n d_M_take_14 0 rfl ?_
  refine j_aload_n d_M_take_15 0 rfl ?_
  refine zj_getZ (z σ 94 31) f_M_347 d_M_take_16 (tg_94 hE) (q_okE hE (by decide)) (q_z _ _ _) ?_
  obtain ⟨h1, h2⟩ := h
  refine zj_if_eq 26 d_M_take_19 (by decide) (z_R _ _ _) (fun k3 => ?_) (fun k3 => ?_)
  · have h := h1 k3
    refine j_iconst (v := zI 1) d_M_take_26 (by decide) ?_
    refine zj_putI (g_M_141 _) d_M_take_27 (tg_94 hE) (q_okE hE (by decide)) ?_
    exact j_vret d_M_take_30 rfl (Nat.zero_le _) (Nat.zero_le _) h
  · have h := h2 k3
    refine j_iconst (v := zI 2) d_M_take_22 (by decide) ?_
    refine j_goto 27 d_M_take_23 (by decide) ?_
    refine zj_putI (g_M_141 _) d_M_take_27 (tg_94 hE) (q_okE hE (by decide)) ?_
    exact j_vret d_M_take_30 rfl (Nat.zero_le _) (Nat.zero_le _) h
set_option maxHeartbeats 2000000 in
theorem b_M_take_48 {ω : q_W} {σ : q_H} {Q : q_R → q_H → Prop} {d mc ms : Nat}  {s : Nat} (hs : s = 110 ∨ s = 116) (rs0 : q_r σ 94 32 = s) (rs1 : q_r σ 94 33 = (s + 1)) (rs2 : q_r σ 94 34 = (s + 2)) (rs3 : q_r σ 94 35 = (s + 3)) (rs4 : q_r σ 94 36 = (s + 4)) (rs5 : q_r σ 94 37 = (s + 5)) (hE : q_E σ) (h : (Q (.inl none) σ)) : J ω m_M_take (d + 1) mc ms 0 0 48 [] [] σ Q := by
  exact j_vret d_M_take_48 rfl (Nat.zero_le _) (Nat.zero_le _) h
set_option maxHeartbeats 2000000 in
theorem b_M_run_0 {ω : q_W} {σ : q_H} {Q : q_R → q_H → Prop} {d mc ms : Nat}  {s : Nat} (hs : s = 110 ∨ s = 116) (rs0 : q_r σ 94 32 = s) (rs1 : q_r σ 94 33 = (s + 1)) (rs2 : q_r σ 94 34 = (s + 2)) (rs3 : q_r σ 94 35 = (s + 3)) (rs4 : q_r σ 94 36 = (s + 4)) (rs5 : q_r σ 94 37 = (s + 5)) (hE : q_E σ) (h : q_imp ((z σ 94 31) ≠ 0) ((J ω m_M_run (d + 1) mc ms 0 0 20 [(0, .ref 94), (1, .int (zI 0))] [] (zs σ 94 0 0) Q)) ∧ q_imp ((z σ 94 31) = 0) ((J ω m_M_no d 0 0 0 0 0 [(0, .ref 94), (1, .int (zI 1))] [] σ (q_ki (fun v τ => J ω m_M_run (d + 1) mc ms 0 0 12 [] [.int (zI v)] τ Q))))) : J ω m_M_run (d + 1) mc ms 0 0 0 [(0, .ref 94)] [] σ Q := by
  refine j_aload_n d_M_run_0 0 rfl ?_
  refine zj_getZ (z σ 94 31) f_M_347 d_M_run_1 (tg_94 hE) (q_okE hE (by decide)) (q_z _ _ _) ?_
  obtain ⟨h1, h2⟩ := h
  refine zj_if_ne 13 d_M_run_4 (by decide) (z_R _ _ _) (fun k1 => ?_) (fun k1 => ?_)
  · have h := h1 k1
    refine j_aload_n d_M_run_13 0 rfl ?_
    refine j_iconst (v := zI 0) d_M_run_14 (by decide) ?_
    refine zj_putI (g_M_141 _) d_M_run_15 (tg_94 hE) (q_okE hE (by decide)) ?_
    refine j_iconst (v := zI 0) d_M_run_18 (by decide) ?_
    refine j_istore_n (L' := [(1, .int (zI 0)), (0, .ref 94)]) d_M_run_19 (by decide) rfl ?_
    exact j_sel [1, 0] rfl h
  · have h := h2 k1
    refine j_aload_n d_M_run_7 0 rfl ?_
    refine j_iconst (v := zI 1) d_M_run_8 (by decide) ?_
    refine j_callV m_M_no [.int (zI 1)] [] d 0 0 cV_M_147 d_M_run_9 rfl rfl (tg_94 hE) (q_okE hE (by decide)) (Nat.le_of_ble_eq_true rfl) (Nat.le_refl _) (Nat.le_of_ble_eq_true rfl) (Nat.zero_le _) (Nat.zero_le _) h (fun v τ h => ?_) (fun x τ h => ?_)
    · obtain ⟨v, hv, e1, h⟩ := h; cases e1; exact j_sel [] rfl h
    · obtain ⟨v, hv, e1, h⟩ := h; cases e1
set_option maxHeartbeats 2000000 in
theorem b_M_run_20 {ω : q_W} {σ : q_H} {Q : q_R → q_H → Prop} {d mc ms : Nat} {x1 : Int} {s : Nat} (hs : s = 110 ∨ s = 116) (rs0 : q_r σ 94 32 = s) (rs1 : q_r σ 94 33 = (s + 1)) (rs2 : q_r σ 94 34 = (s + 2)) (rs3 : q_r σ 94 35 = (s + 3)) (rs4 : q_r σ 94 36 = (s + 4)) (rs5 : q_r σ 94 37 = (s + 5)) (hE : q_E σ) (h : inR x1 ∧ q_imp (x1 ≥ 16) ((J ω m_M_runWhole d 0 0 0 0 0 [(0, .ref 94)] [] σ (q_ki (fun v τ => J ω m_M_run (d + 1) mc ms 0 0 48 [(0, .ref 94)] [.int (zI v)] τ Q)))) ∧ q_imp (x1 < 16) ((0 ≤ x1 ∧ x1 < 16) ∧ (J ω m_M_run (d + 1) mc ms 0 0 20 [(0, .ref 94), (1, .int (zI (x1 + 1)))] [] (zs σ 125 x1.toNat (z σ 126 x1.toNat)) Q))) : J ω m_M_run (d + 1) mc ms 0 0 20 [(0, .ref 94), (1, .int (zI x1))] [] σ Q := by
  refine j_iload_n d_M_run_20 1 rfl ?_
  refine j_bipush (v := zI 16) d_M_run_21 (by decide) ?_
  obtain ⟨r2, h⟩ := h
  obtain ⟨h1, h2⟩ := h
  refine zj_icmp_ge 44 d_M_run_23 (by decide) r2 ⟨by decide, by decide⟩ (fun k3 => ?_) (fun k3 => ?_)
  · have h := h1 k3
    refine j_aload_n d_M_run_44 0 rfl ?_
    refine j_callV m_M_runWhole [] [] d 0 0 cV_M_399 d_M_run_45 rfl rfl (tg_94 hE) (q_okE hE (by decide)) (Nat.le_of_ble_eq_true rfl) (Nat.le_refl _) (Nat.le_of_ble_eq_true rfl) (Nat.zero_le _) (Nat.zero_le _) h (fun v τ h => ?_) (fun x τ h => ?_)
    · obtain ⟨v, hv, e1, h⟩ := h; cases e1; exact j_sel [0] rfl h
    · obtain ⟨v, hv, e1, h⟩ := h; cases e1
  · have h := h2 k3
    refine j_aload_n d_M_run_26 0 rfl ?_
    refine j_getR 125 f_M_114 d_M_run_27 (tg_94 hE) (q_okE hE (by decide)) (rf_94_56 hE) (by decide) ?_
    refine j_iload_n d_M_run_30 1 rfl ?_
    refine j_aload_n d_M_run_31 0 rfl ?_
    refine j_getR 126 f_M_117 d_M_run_32 (tg_94 hE) (q_okE hE (by decide)) (rf_94_57 hE) (by decide) ?_
    refine j_iload_n d_M_run_35 1 rfl ?_
    obtain ⟨c4, h⟩ := h
    refine zj_iald (z σ 126 x1.toNat) d_M_run_36 (tg_126 hE) (q_okE hE (by decide)) c4 (by decide) (q_z _ _ _) ?_
    refine zj_iast d_M_run_37 (tg_125 hE) (q_okE hE (by decide)) c4 (by decide) ?_
    refine zj_iinc (L' := [(1, .int (zI (x1 + 1))), (0, .ref 94)]) (x1 + 1) d_M_run_38 1 rfl (by omega) (by decide) rfl ?_
    refine j_goto 20 d_M_run_41 (by decide) ?_
    exact j_sel [1, 0] rfl h
set_option maxHeartbeats 2000000 in
theorem b_M_run_12 {ω : q_W} {σ : q_H} {Q : q_R → q_H → Prop} {d mc ms : Nat} {y0 : Int} {s : Nat} (hs : s = 110 ∨ s = 116) (rs0 : q_r σ 94 32 = s) (rs1 : q_r σ 94 33 = (s + 1)) (rs2 : q_r σ 94 34 = (s + 2)) (rs3 : q_r σ 94 35 = (s + 3)) (rs4 : q_r σ 94 36 = (s + 4)) (rs5 : q_r σ 94 37 = (s + 5)) (hE : q_E σ) (h : (Q (.inl (some (.int (zI y0)))) σ)) : J ω m_M_run (d + 1) mc ms 0 0 12 [] [.int (zI y0)] σ Q := by
  exact zj_iret d_M_run_12 rfl (Nat.zero_le _) (Nat.zero_le _) h
set_option maxHeartbeats 2000000 in
theorem b_M_run_48 {ω : q_W} {σ : q_H} {Q : q_R → q_H → Prop} {d mc ms : Nat} {y0 : Int} {s : Nat} (hs : s = 110 ∨ s = 116) (rs0 : q_r σ 94 32 = s) (rs1 : q_r σ 94 33 = (s + 1)) (rs2 : q_r σ 94 34 = (s + 2)) (rs3 : q_r σ 94 35 = (s + 3)) (rs4 : q_r σ 94 36 = (s + 4)) (rs5 : q_r σ 94 37 = (s + 5)) (hE : q_E σ) (h : (J ω m_M_run (d + 1) mc ms 0 0 51 [(0, .ref 94), (1, .int (zI y0)), (2, .int (zI 0))] [] σ Q)) : J ω m_M_run (d + 1) mc ms 0 0 48 [(0, .ref 94)] [.int (zI y0)] σ Q := by
  refine j_istore_n (L' := [(1, .int (zI y0)), (0, .ref 94)]) d_M_run_48 (by decide) rfl ?_
  refine j_iconst (v := zI 0) d_M_run_49 (by decide) ?_
  refine j_istore_n (L' := [(2, .int (zI 0)), (1, .int (zI y0)), (0, .ref 94)]) d_M_run_50 (by decide) rfl ?_
  exact j_sel [2, 1, 0] rfl h
set_option maxHeartbeats 2000000 in
theorem b_M_run_51 {ω : q_W} {σ : q_H} {Q : q_R → q_H → Prop} {d mc ms : Nat} {x1 : Int} {x2 : Int} {s : Nat} (hs : s = 110 ∨ s = 116) (rs0 : q_r σ 94 32 = s) (rs1 : q_r σ 94 33 = (s + 1)) (rs2 : q_r σ 94 34 = (s + 2)) (rs3 : q_r σ 94 35 = (s + 3)) (rs4 : q_r σ 94 36 = (s + 4)) (rs5 : q_r σ 94 37 = (s + 5)) (hE : q_E σ) (h : inR x2 ∧ q_imp (x2 ≥ (z σ 94 27)) (inR x1 ∧ q_imp (x1 ≠ 1) ((Q (.inl (some (.int (zI x1)))) (zs σ 94 63 (-1)))) ∧ q_imp (x1 = 1) ((Q (.inl (some (.int (zI x1)))) (zs σ 94 63 (z σ 94 61))))) ∧ q_imp (x2 < (z σ 94 27)) ((0 ≤ x2 ∧ x2 < 16) ∧ (J ω m_M_run (d + 1) mc ms 0 0 51 [(0, .ref 94), (1, .int (zI x1)), (2, .int (zI (x2 + 1)))] [] (zs σ 129 x2.toNat (z σ 128 x2.toNat)) Q))) : J ω m_M_run (d + 1) mc ms 0 0 51 [(0, .ref 94), (1, .int (zI x1)), (2, .int (zI x2))] [] σ Q := by
  refine j_iload_n d_M_run_51 2 rfl ?_
  refine j_aload_n d_M_run_52 0 rfl ?_
  refine zj_getI (z σ 94 27) f_M_360 d_M_run_53 (tg_94 hE) (q_okE hE (by decide)) (q_z _ _ _) ?_
  obtain ⟨r5, h⟩ := h
  obtain ⟨h1, h2⟩ := h
  refine zj_icmp_ge 77 d_M_run_56 (by decide) r5 (z_R _ _ _) (fun k6 => ?_) (fun k6 => ?_)
  · have h := h1 k6
    refine j_aload_n d_M_run_77 0 rfl ?_
    refine j_iload_n d_M_run_78 1 rfl ?_
    refine j_iconst (v := zI 1) d_M_run_79 (by decide) ?_
    obtain ⟨r7, h⟩ := h
    obtain ⟨h1, h2⟩ := h
    refine zj_icmp_ne 90 d_M_run_80 (by decide) r7 ⟨by decide, by decide⟩ (fun k8 => ?_) (fun k8 => ?_)
    · have h := h1 k8
      refine j_iconst (v := zI (-1)) d_M_run_90 (by decide) ?_
      refine zj_putI (g_M_132 _) d_M_run_91 (tg_94 hE) (q_okE hE (by decide)) ?_
      refine j_iload_n d_M_run_94 1 rfl ?_
      exact zj_iret d_M_run_95 rfl (Nat.zero_le _) (Nat.zero_le _) h
    · have h := h2 k8
      refine j_aload_n d_M_run_83 0 rfl ?_
      refine zj_getI (z σ 94 61) f_M_392 d_M_run_84 (tg_94 hE) (q_okE hE (by decide)) (q_z _ _ _) ?_
      refine j_goto 91 d_M_run_87 (by decide) ?_
      refine zj_putI (g_M_132 _) d_M_run_91 (tg_94 hE) (q_okE hE (by decide)) ?_
      refine j_iload_n d_M_run_94 1 rfl ?_
      exact zj_iret d_M_run_95 rfl (Nat.zero_le _) (Nat.zero_le _) h
  · have h := h2 k6
    refine j_aload_n d_M_run_59 0 rfl ?_
    refine j_getR 129 f_M_126 d_M_run_60 (tg_94 hE) (q_okE hE (by decide)) (rf_94_60 hE) (by decide) ?_
    refine j_iload_n d_M_run_63 2 rfl ?_
    refine j_aload_n d_M_run_64 0 rfl ?_
    refine j_getR 128 f_M_123 d_M_run_65 (tg_94 hE) (q_okE hE (by decide)) (rf_94_59 hE) (by decide) ?_
    refine j_iload_n d_M_run_68 2 rfl ?_
    obtain ⟨c9, h⟩ := h
    refine zj_iald (z σ 128 x2.toNat) d_M_run_69 (tg_128 hE) (q_okE hE (by decide)) c9 (by decide) (q_z _ _ _) ?_
    refine zj_iast d_M_run_70 (tg_129 hE) (q_okE hE (by decide)) c9 (by decide) ?_
    refine zj_iinc (L' := [(2, .int (zI (x2 + 1))), (0, .ref 94), (1, .int (zI x1))]) (x2 + 1) d_M_run_71 2 rfl (by omega) (by decide) rfl ?_
    refine j_goto 51 d_M_run_74 (by decide) ?_
    exact j_sel [1, 2, 0] rfl h
set_option maxHeartbeats 2000000 in
theorem b_M_value_0 {ω : q_W} {σ : q_H} {Q : q_R → q_H → Prop} {d mc ms : Nat} {x1 : Int} {s : Nat} (hs : s = 110 ∨ s = 116) (rs0 : q_r σ 94 32 = s) (rs1 : q_r σ 94 33 = (s + 1)) (rs2 : q_r σ 94 34 = (s + 2)) (rs3 : q_r σ 94 35 = (s + 3)) (rs4 : q_r σ 94 36 = (s + 4)) (rs5 : q_r σ 94 37 = (s + 5)) (hE : q_E σ) (h : q_imp ((z σ 94 31) ≠ 0) ((J ω m_M_isVar d 0 0 0 0 0 [(0, .ref 94), (1, .int (zI x1))] [] σ (q_ki (fun v τ => J ω m_M_value (d + 1) mc ms 0 0 18 [(0, .ref 94), (1, .int (zI x1))] [.int (zI v)] τ Q)))) ∧ q_imp ((z σ 94 31) = 0) ((J ω m_M_no d 0 0 0 0 0 [(0, .ref 94), (1, .int (zI 1))] [] σ (q_ki (fun v τ => J ω m_M_value (d + 1) mc ms 0 0 12 [] [.int (zI v)] τ Q))))) : J ω m_M_value (d + 1) mc ms 0 0 0 [(0, .ref 94), (1, .int (zI x1))] [] σ Q := by
  refine j_aload_n d_M_value_0 0 rfl ?_
  refine zj_getZ (z σ 94 31) f_M_347 d_M_value_1 (tg_94 hE) (q_okE hE (by decide)) (q_z _ _ _) ?_
  obtain ⟨h1, h2⟩ := h
  refine zj_if_ne 13 d_M_value_4 (by decide) (z_R _ _ _) (fun k1 => ?_) (fun k1 => ?_)
  · have h := h1 k1
    refine j_aload_n d_M_value_13 0 rfl ?_
    refine j_iload_n d_M_value_14 1 rfl ?_
    refine j_callV m_M_isVar [.int (zI x1)] [] d 0 0 cV_M_409 d_M_value_15 rfl rfl (tg_94 hE) (q_okE hE (by decide)) (Nat.le_of_ble_eq_true rfl) (Nat.le_refl _) (Nat.le_of_ble_eq_true rfl) (Nat.zero_le _) (Nat.zero_le _) h (fun v τ h => ?_) (fun x τ h => ?_)
    · obtain ⟨v, hv, e1, h⟩ := h; cases e1; exact j_sel [0, 1] rfl h
    · obtain ⟨v, hv, e1, h⟩ := h; cases e1
  · have h := h2 k1
    refine j_aload_n d_M_value_7 0 rfl ?_
    refine j_iconst (v := zI 1) d_M_value_8 (by decide) ?_
    refine j_callV m_M_no [.int (zI 1)] [] d 0 0 cV_M_147 d_M_value_9 rfl rfl (tg_94 hE) (q_okE hE (by decide)) (Nat.le_of_ble_eq_true rfl) (Nat.le_refl _) (Nat.le_of_ble_eq_true rfl) (Nat.zero_le _) (Nat.zero_le _) h (fun v τ h => ?_) (fun x τ h => ?_)
    · obtain ⟨v, hv, e1, h⟩ := h; cases e1; exact j_sel [] rfl h
    · obtain ⟨v, hv, e1, h⟩ := h; cases e1
set_option maxHeartbeats 2000000 in
theorem b_M_value_18 {ω : q_W} {σ : q_H} {Q : q_R → q_H → Prop} {d mc ms : Nat} {x1 : Int} {y0 : Int} {s : Nat} (hs : s = 110 ∨ s = 116) (rs0 : q_r σ 94 32 = s) (rs1 : q_r σ 94 33 = (s + 1)) (rs2 : q_r σ 94 34 = (s + 2)) (rs3 : q_r σ 94 35 = (s + 3)) (rs4 : q_r σ 94 36 = (s + 4)) (rs5 : q_r σ 94 37 = (s + 5)) (hE : q_E σ) (h : inR y0 ∧ q_imp (y0 ≠ 0) ((0 ≤ x1 ∧ x1 < 16) ∧ (Q (.inl (some (.int (zI (z σ 129 x1.toNat))))) (zs σ 94 0 0))) ∧ q_imp (y0 = 0) ((J ω m_M_no d 0 0 0 0 0 [(0, .ref 94), (1, .int (zI 2))] [] σ (q_ki (fun v τ => J ω m_M_value (d + 1) mc ms 0 0 26 [] [.int (zI v)] τ Q))))) : J ω m_M_value (d + 1) mc ms 0 0 18 [(0, .ref 94), (1, .int (zI x1))] [.int (zI y0)] σ Q := by
  obtain ⟨r2, h⟩ := h
  obtain ⟨h1, h2⟩ := h
  refine zj_if_ne 27 d_M_value_18 (by decide) r2 (fun k3 => ?_) (fun k3 => ?_)
  · have h := h1 k3
    refine j_aload_n d_M_value_27 0 rfl ?_
    refine j_iconst (v := zI 0) d_M_value_28 (by decide) ?_
    refine zj_putI (g_M_141 _) d_M_value_29 (tg_94 hE) (q_okE hE (by decide)) ?_
    refine j_aload_n d_M_value_32 0 rfl ?_
    refine j_getR 129 f_M_126 d_M_value_33 (tg_94 (zs_E hE)) (q_okE (zs_E hE) (by decide)) (rf_94_60 (zs_E hE)) (by decide) ?_
    refine j_iload_n d_M_value_36 1 rfl ?_
    obtain ⟨c4, h⟩ := h
    refine zj_iald (z σ 129 x1.toNat) d_M_value_37 (tg_129 (zs_E hE)) (q_okE (zs_E hE) (by decide)) c4 (by decide) (Eq.trans (qs_o (by decide)) (q_z _ _ _)) ?_
    exact zj_iret d_M_value_38 rfl (Nat.zero_le _) (Nat.zero_le _) h
  · have h := h2 k3
    refine j_aload_n d_M_value_21 0 rfl ?_
    refine j_iconst (v := zI 2) d_M_value_22 (by decide) ?_
    refine j_callV m_M_no [.int (zI 2)] [] d 0 0 cV_M_147 d_M_value_23 rfl rfl (tg_94 hE) (q_okE hE (by decide)) (Nat.le_of_ble_eq_true rfl) (Nat.le_refl _) (Nat.le_of_ble_eq_true rfl) (Nat.zero_le _) (Nat.zero_le _) h (fun v τ h => ?_) (fun x τ h => ?_)
    · obtain ⟨v, hv, e1, h⟩ := h; cases e1; exact j_sel [] rfl h
    · obtain ⟨v, hv, e1, h⟩ := h; cases e1
set_option maxHeartbeats 2000000 in
theorem b_M_value_12 {ω : q_W} {σ : q_H} {Q : q_R → q_H → Prop} {d mc ms : Nat} {y0 : Int} {s : Nat} (hs : s = 110 ∨ s = 116) (rs0 : q_r σ 94 32 = s) (rs1 : q_r σ 94 33 = (s + 1)) (rs2 : q_r σ 94 34 = (s + 2)) (rs3 : q_r σ 94 35 = (s + 3)) (rs4 : q_r σ 94 36 = (s + 4)) (rs5 : q_r σ 94 37 = (s + 5)) (hE : q_E σ) (h : (Q (.inl (some (.int (zI y0)))) σ)) : J ω m_M_value (d + 1) mc ms 0 0 12 [] [.int (zI y0)] σ Q := by
  exact zj_iret d_M_value_12 rfl (Nat.zero_le _) (Nat.zero_le _) h
set_option maxHeartbeats 2000000 in
theorem b_M_value_26 {ω : q_W} {σ : q_H} {Q : q_R → q_H → Prop} {d mc ms : Nat} {y0 : Int} {s : Nat} (hs : s = 110 ∨ s = 116) (rs0 : q_r σ 94 32 = s) (rs1 : q_r σ 94 33 = (s + 1)) (rs2 : q_r σ 94 34 = (s + 2)) (rs3 : q_r σ 94 35 = (s + 3)) (rs4 : q_r σ 94 36 = (s + 4)) (rs5 : q_r σ 94 37 = (s + 5)) (hE : q_E σ) (h : (Q (.inl (some (.int (zI y0)))) σ)) : J ω m_M_value (d + 1) mc ms 0 0 26 [] [.int (zI y0)] σ Q := by
  exact zj_iret d_M_value_26 rfl (Nat.zero_le _) (Nat.zero_le _) h
