/-! stretches of bytecode as conditions: Ci -/
theorem d_Ci_leaf_0 : decode m_Ci_leaf.2.1 0 = .ok (.aload_n 0, 1) := by decide +kernel
theorem d_Ci_leaf_1 : decode m_Ci_leaf.2.1 1 = .ok (.getfield 33, 3) := by decide +kernel
theorem d_Ci_leaf_4 : decode m_Ci_leaf.2.1 4 = .ok (.sipush 10240, 3) := by decide +kernel
theorem d_Ci_leaf_7 : decode m_Ci_leaf.2.1 7 = .ok (.if_icmp .lt 15, 3) := by decide +kernel
theorem d_Ci_leaf_10 : decode m_Ci_leaf.2.1 10 = .ok (.aload_n 0, 1) := by decide +kernel
theorem d_Ci_leaf_11 : decode m_Ci_leaf.2.1 11 = .ok (.dup, 1) := by decide +kernel
theorem d_Ci_leaf_12 : decode m_Ci_leaf.2.1 12 = .ok (.getfield 43, 3) := by decide +kernel
theorem d_Ci_leaf_15 : decode m_Ci_leaf.2.1 15 = .ok (.iconst 1, 1) := by decide +kernel
theorem d_Ci_leaf_16 : decode m_Ci_leaf.2.1 16 = .ok (.iadd, 1) := by decide +kernel
theorem d_Ci_leaf_17 : decode m_Ci_leaf.2.1 17 = .ok (.putfield 43, 3) := by decide +kernel
theorem d_Ci_leaf_20 : decode m_Ci_leaf.2.1 20 = .ok (.iconst 1, 1) := by decide +kernel
theorem d_Ci_leaf_21 : decode m_Ci_leaf.2.1 21 = .ok (.ireturn, 1) := by decide +kernel
theorem d_Ci_leaf_22 : decode m_Ci_leaf.2.1 22 = .ok (.aload_n 0, 1) := by decide +kernel
theorem d_Ci_leaf_23 : decode m_Ci_leaf.2.1 23 = .ok (.getfield 11, 3) := by decide +kernel
theorem d_Ci_leaf_26 : decode m_Ci_leaf.2.1 26 = .ok (.aload_n 0, 1) := by decide +kernel
theorem d_Ci_leaf_27 : decode m_Ci_leaf.2.1 27 = .ok (.getfield 33, 3) := by decide +kernel
theorem d_Ci_leaf_30 : decode m_Ci_leaf.2.1 30 = .ok (.iconst 0, 1) := by decide +kernel
theorem d_Ci_leaf_31 : decode m_Ci_leaf.2.1 31 = .ok (.iastore, 1) := by decide +kernel
theorem d_Ci_leaf_32 : decode m_Ci_leaf.2.1 32 = .ok (.aload_n 0, 1) := by decide +kernel
theorem d_Ci_leaf_33 : decode m_Ci_leaf.2.1 33 = .ok (.dup, 1) := by decide +kernel
theorem d_Ci_leaf_34 : decode m_Ci_leaf.2.1 34 = .ok (.getfield 33, 3) := by decide +kernel
theorem d_Ci_leaf_37 : decode m_Ci_leaf.2.1 37 = .ok (.iconst 1, 1) := by decide +kernel
theorem d_Ci_leaf_38 : decode m_Ci_leaf.2.1 38 = .ok (.iadd, 1) := by decide +kernel
theorem d_Ci_leaf_39 : decode m_Ci_leaf.2.1 39 = .ok (.putfield 33, 3) := by decide +kernel
theorem d_Ci_leaf_42 : decode m_Ci_leaf.2.1 42 = .ok (.iconst 2, 1) := by decide +kernel
theorem d_Ci_leaf_43 : decode m_Ci_leaf.2.1 43 = .ok (.aload_n 0, 1) := by decide +kernel
theorem d_Ci_leaf_44 : decode m_Ci_leaf.2.1 44 = .ok (.getfield 33, 3) := by decide +kernel
theorem d_Ci_leaf_47 : decode m_Ci_leaf.2.1 47 = .ok (.iconst 1, 1) := by decide +kernel
theorem d_Ci_leaf_48 : decode m_Ci_leaf.2.1 48 = .ok (.isub, 1) := by decide +kernel
theorem d_Ci_leaf_49 : decode m_Ci_leaf.2.1 49 = .ok (.imul, 1) := by decide +kernel
theorem d_Ci_leaf_50 : decode m_Ci_leaf.2.1 50 = .ok (.ireturn, 1) := by decide +kernel
theorem d_Ci_and_0 : decode m_Ci_and.2.1 0 = .ok (.iload_n 1, 1) := by decide +kernel
theorem d_Ci_and_1 : decode m_Ci_and.2.1 1 = .ok (.iconst 1, 1) := by decide +kernel
theorem d_Ci_and_2 : decode m_Ci_and.2.1 2 = .ok (.if_icmp .eq 15, 3) := by decide +kernel
theorem d_Ci_and_5 : decode m_Ci_and.2.1 5 = .ok (.iload_n 2, 1) := by decide +kernel
theorem d_Ci_and_6 : decode m_Ci_and.2.1 6 = .ok (.iconst 1, 1) := by decide +kernel
theorem d_Ci_and_7 : decode m_Ci_and.2.1 7 = .ok (.if_icmp .eq 10, 3) := by decide +kernel
theorem d_Ci_and_10 : decode m_Ci_and.2.1 10 = .ok (.iload_n 1, 1) := by decide +kernel
theorem d_Ci_and_11 : decode m_Ci_and.2.1 11 = .ok (.iload_n 2, 1) := by decide +kernel
theorem d_Ci_and_12 : decode m_Ci_and.2.1 12 = .ok (.iconst 1, 1) := by decide +kernel
theorem d_Ci_and_13 : decode m_Ci_and.2.1 13 = .ok (.ixor, 1) := by decide +kernel
theorem d_Ci_and_14 : decode m_Ci_and.2.1 14 = .ok (.if_icmp .ne 5, 3) := by decide +kernel
theorem d_Ci_and_17 : decode m_Ci_and.2.1 17 = .ok (.iconst 1, 1) := by decide +kernel
theorem d_Ci_and_18 : decode m_Ci_and.2.1 18 = .ok (.ireturn, 1) := by decide +kernel
theorem d_Ci_and_19 : decode m_Ci_and.2.1 19 = .ok (.iload_n 1, 1) := by decide +kernel
theorem d_Ci_and_20 : decode m_Ci_and.2.1 20 = .ok (.ifCond .eq 8, 3) := by decide +kernel
theorem d_Ci_and_23 : decode m_Ci_and.2.1 23 = .ok (.iload_n 1, 1) := by decide +kernel
theorem d_Ci_and_24 : decode m_Ci_and.2.1 24 = .ok (.iload_n 2, 1) := by decide +kernel
theorem d_Ci_and_25 : decode m_Ci_and.2.1 25 = .ok (.if_icmp .ne 5, 3) := by decide +kernel
theorem d_Ci_and_28 : decode m_Ci_and.2.1 28 = .ok (.iload_n 2, 1) := by decide +kernel
theorem d_Ci_and_29 : decode m_Ci_and.2.1 29 = .ok (.ireturn, 1) := by decide +kernel
theorem d_Ci_and_30 : decode m_Ci_and.2.1 30 = .ok (.iload_n 2, 1) := by decide +kernel
theorem d_Ci_and_31 : decode m_Ci_and.2.1 31 = .ok (.ifCond .ne 5, 3) := by decide +kernel
theorem d_Ci_and_34 : decode m_Ci_and.2.1 34 = .ok (.iload_n 1, 1) := by decide +kernel
theorem d_Ci_and_35 : decode m_Ci_and.2.1 35 = .ok (.ireturn, 1) := by decide +kernel
theorem d_Ci_and_36 : decode m_Ci_and.2.1 36 = .ok (.aload_n 0, 1) := by decide +kernel
theorem d_Ci_and_37 : decode m_Ci_and.2.1 37 = .ok (.iconst 1, 1) := by decide +kernel
theorem d_Ci_and_38 : decode m_Ci_and.2.1 38 = .ok (.iload_n 1, 1) := by decide +kernel
theorem d_Ci_and_39 : decode m_Ci_and.2.1 39 = .ok (.iload_n 2, 1) := by decide +kernel
theorem d_Ci_and_40 : decode m_Ci_and.2.1 40 = .ok (.invokestatic 46, 3) := by decide +kernel
theorem d_Ci_and_43 : decode m_Ci_and.2.1 43 = .ok (.iload_n 1, 1) := by decide +kernel
theorem d_Ci_and_44 : decode m_Ci_and.2.1 44 = .ok (.iload_n 2, 1) := by decide +kernel
theorem d_Ci_and_45 : decode m_Ci_and.2.1 45 = .ok (.invokestatic 52, 3) := by decide +kernel
theorem d_Ci_and_48 : decode m_Ci_and.2.1 48 = .ok (.iconst 0, 1) := by decide +kernel
theorem d_Ci_and_49 : decode m_Ci_and.2.1 49 = .ok (.invokevirtual 55, 3) := by decide +kernel
theorem d_Ci_and_52 : decode m_Ci_and.2.1 52 = .ok (.ireturn, 1) := by decide +kernel
theorem d_Ci_gate_0 : decode m_Ci_gate.2.1 0 = .ok (.iload_n 1, 1) := by decide +kernel
theorem d_Ci_gate_1 : decode m_Ci_gate.2.1 1 = .ok (.bipush 31, 2) := by decide +kernel
theorem d_Ci_gate_3 : decode m_Ci_gate.2.1 3 = .ok (.imul, 1) := by decide +kernel
theorem d_Ci_gate_4 : decode m_Ci_gate.2.1 4 = .ok (.iload_n 2, 1) := by decide +kernel
theorem d_Ci_gate_5 : decode m_Ci_gate.2.1 5 = .ok (.iadd, 1) := by decide +kernel
theorem d_Ci_gate_6 : decode m_Ci_gate.2.1 6 = .ok (.ldc 65, 2) := by decide +kernel
theorem d_Ci_gate_8 : decode m_Ci_gate.2.1 8 = .ok (.imul, 1) := by decide +kernel
theorem d_Ci_gate_9 : decode m_Ci_gate.2.1 9 = .ok (.iload_n 3, 1) := by decide +kernel
theorem d_Ci_gate_10 : decode m_Ci_gate.2.1 10 = .ok (.iadd, 1) := by decide +kernel
theorem d_Ci_gate_11 : decode m_Ci_gate.2.1 11 = .ok (.ldc 66, 2) := by decide +kernel
theorem d_Ci_gate_13 : decode m_Ci_gate.2.1 13 = .ok (.imul, 1) := by decide +kernel
theorem d_Ci_gate_14 : decode m_Ci_gate.2.1 14 = .ok (.iload 4, 2) := by decide +kernel
theorem d_Ci_gate_16 : decode m_Ci_gate.2.1 16 = .ok (.ldc 67, 2) := by decide +kernel
theorem d_Ci_gate_18 : decode m_Ci_gate.2.1 18 = .ok (.imul, 1) := by decide +kernel
theorem d_Ci_gate_19 : decode m_Ci_gate.2.1 19 = .ok (.iadd, 1) := by decide +kernel
theorem d_Ci_gate_20 : decode m_Ci_gate.2.1 20 = .ok (.istore 5, 2) := by decide +kernel
theorem d_Ci_gate_22 : decode m_Ci_gate.2.1 22 = .ok (.iload 5, 2) := by decide +kernel
theorem d_Ci_gate_24 : decode m_Ci_gate.2.1 24 = .ok (.iload 5, 2) := by decide +kernel
theorem d_Ci_gate_26 : decode m_Ci_gate.2.1 26 = .ok (.bipush 15, 2) := by decide +kernel
theorem d_Ci_gate_28 : decode m_Ci_gate.2.1 28 = .ok (.iushr, 1) := by decide +kernel
theorem d_Ci_gate_29 : decode m_Ci_gate.2.1 29 = .ok (.ixor, 1) := by decide +kernel
theorem d_Ci_gate_30 : decode m_Ci_gate.2.1 30 = .ok (.sipush 8191, 3) := by decide +kernel
theorem d_Ci_gate_33 : decode m_Ci_gate.2.1 33 = .ok (.iand, 1) := by decide +kernel
theorem d_Ci_gate_34 : decode m_Ci_gate.2.1 34 = .ok (.istore 6, 2) := by decide +kernel
theorem d_Ci_gate_36 : decode m_Ci_gate.2.1 36 = .ok (.aload_n 0, 1) := by decide +kernel
theorem d_Ci_gate_37 : decode m_Ci_gate.2.1 37 = .ok (.getfield 30, 3) := by decide +kernel
theorem d_Ci_gate_40 : decode m_Ci_gate.2.1 40 = .ok (.iload 6, 2) := by decide +kernel
theorem d_Ci_gate_42 : decode m_Ci_gate.2.1 42 = .ok (.iaload, 1) := by decide +kernel
theorem d_Ci_gate_43 : decode m_Ci_gate.2.1 43 = .ok (.istore 7, 2) := by decide +kernel
theorem d_Ci_gate_45 : decode m_Ci_gate.2.1 45 = .ok (.iconst 0, 1) := by decide +kernel
theorem d_Ci_gate_46 : decode m_Ci_gate.2.1 46 = .ok (.istore 8, 2) := by decide +kernel
theorem d_Ci_gate_48 : decode m_Ci_gate.2.1 48 = .ok (.iload 8, 2) := by decide +kernel
theorem d_Ci_gate_50 : decode m_Ci_gate.2.1 50 = .ok (.sipush 10240, 3) := by decide +kernel
theorem d_Ci_gate_53 : decode m_Ci_gate.2.1 53 = .ok (.if_icmp .ge 73, 3) := by decide +kernel
theorem d_Ci_gate_56 : decode m_Ci_gate.2.1 56 = .ok (.iload 7, 2) := by decide +kernel
theorem d_Ci_gate_58 : decode m_Ci_gate.2.1 58 = .ok (.ifCond .eq 68, 3) := by decide +kernel
theorem d_Ci_gate_61 : decode m_Ci_gate.2.1 61 = .ok (.aload_n 0, 1) := by decide +kernel
theorem d_Ci_gate_62 : decode m_Ci_gate.2.1 62 = .ok (.getfield 11, 3) := by decide +kernel
theorem d_Ci_gate_65 : decode m_Ci_gate.2.1 65 = .ok (.iload 7, 2) := by decide +kernel
theorem d_Ci_gate_67 : decode m_Ci_gate.2.1 67 = .ok (.iaload, 1) := by decide +kernel
theorem d_Ci_gate_68 : decode m_Ci_gate.2.1 68 = .ok (.iload_n 1, 1) := by decide +kernel
theorem d_Ci_gate_69 : decode m_Ci_gate.2.1 69 = .ok (.if_icmp .ne 42, 3) := by decide +kernel
theorem d_Ci_gate_72 : decode m_Ci_gate.2.1 72 = .ok (.aload_n 0, 1) := by decide +kernel
theorem d_Ci_gate_73 : decode m_Ci_gate.2.1 73 = .ok (.getfield 15, 3) := by decide +kernel
theorem d_Ci_gate_76 : decode m_Ci_gate.2.1 76 = .ok (.iload 7, 2) := by decide +kernel
theorem d_Ci_gate_78 : decode m_Ci_gate.2.1 78 = .ok (.iaload, 1) := by decide +kernel
theorem d_Ci_gate_79 : decode m_Ci_gate.2.1 79 = .ok (.iload_n 2, 1) := by decide +kernel
theorem d_Ci_gate_80 : decode m_Ci_gate.2.1 80 = .ok (.if_icmp .ne 31, 3) := by decide +kernel
theorem d_Ci_gate_83 : decode m_Ci_gate.2.1 83 = .ok (.aload_n 0, 1) := by decide +kernel
theorem d_Ci_gate_84 : decode m_Ci_gate.2.1 84 = .ok (.getfield 18, 3) := by decide +kernel
theorem d_Ci_gate_87 : decode m_Ci_gate.2.1 87 = .ok (.iload 7, 2) := by decide +kernel
theorem d_Ci_gate_89 : decode m_Ci_gate.2.1 89 = .ok (.iaload, 1) := by decide +kernel
theorem d_Ci_gate_90 : decode m_Ci_gate.2.1 90 = .ok (.iload_n 3, 1) := by decide +kernel
theorem d_Ci_gate_91 : decode m_Ci_gate.2.1 91 = .ok (.if_icmp .ne 20, 3) := by decide +kernel
theorem d_Ci_gate_94 : decode m_Ci_gate.2.1 94 = .ok (.aload_n 0, 1) := by decide +kernel
theorem d_Ci_gate_95 : decode m_Ci_gate.2.1 95 = .ok (.getfield 21, 3) := by decide +kernel
theorem d_Ci_gate_98 : decode m_Ci_gate.2.1 98 = .ok (.iload 7, 2) := by decide +kernel
theorem d_Ci_gate_100 : decode m_Ci_gate.2.1 100 = .ok (.iaload, 1) := by decide +kernel
theorem d_Ci_gate_101 : decode m_Ci_gate.2.1 101 = .ok (.iload 4, 2) := by decide +kernel
theorem d_Ci_gate_103 : decode m_Ci_gate.2.1 103 = .ok (.if_icmp .ne 8, 3) := by decide +kernel
theorem d_Ci_gate_106 : decode m_Ci_gate.2.1 106 = .ok (.iconst 2, 1) := by decide +kernel
theorem d_Ci_gate_107 : decode m_Ci_gate.2.1 107 = .ok (.iload 7, 2) := by decide +kernel
theorem d_Ci_gate_109 : decode m_Ci_gate.2.1 109 = .ok (.imul, 1) := by decide +kernel
theorem d_Ci_gate_110 : decode m_Ci_gate.2.1 110 = .ok (.ireturn, 1) := by decide +kernel
theorem d_Ci_gate_111 : decode m_Ci_gate.2.1 111 = .ok (.aload_n 0, 1) := by decide +kernel
theorem d_Ci_gate_112 : decode m_Ci_gate.2.1 112 = .ok (.getfield 27, 3) := by decide +kernel
theorem d_Ci_gate_115 : decode m_Ci_gate.2.1 115 = .ok (.iload 7, 2) := by decide +kernel
theorem d_Ci_gate_117 : decode m_Ci_gate.2.1 117 = .ok (.iaload, 1) := by decide +kernel
theorem d_Ci_gate_118 : decode m_Ci_gate.2.1 118 = .ok (.istore 7, 2) := by decide +kernel
theorem d_Ci_gate_120 : decode m_Ci_gate.2.1 120 = .ok (.iinc 8 1, 3) := by decide +kernel
theorem d_Ci_gate_123 : decode m_Ci_gate.2.1 123 = .ok (.goto (-75), 3) := by decide +kernel
theorem d_Ci_gate_126 : decode m_Ci_gate.2.1 126 = .ok (.aload_n 0, 1) := by decide +kernel
theorem d_Ci_gate_127 : decode m_Ci_gate.2.1 127 = .ok (.getfield 33, 3) := by decide +kernel
theorem d_Ci_gate_130 : decode m_Ci_gate.2.1 130 = .ok (.sipush 10240, 3) := by decide +kernel
theorem d_Ci_gate_133 : decode m_Ci_gate.2.1 133 = .ok (.if_icmp .lt 15, 3) := by decide +kernel
theorem d_Ci_gate_136 : decode m_Ci_gate.2.1 136 = .ok (.aload_n 0, 1) := by decide +kernel
theorem d_Ci_gate_137 : decode m_Ci_gate.2.1 137 = .ok (.dup, 1) := by decide +kernel
theorem d_Ci_gate_138 : decode m_Ci_gate.2.1 138 = .ok (.getfield 43, 3) := by decide +kernel
theorem d_Ci_gate_141 : decode m_Ci_gate.2.1 141 = .ok (.iconst 1, 1) := by decide +kernel
theorem d_Ci_gate_142 : decode m_Ci_gate.2.1 142 = .ok (.iadd, 1) := by decide +kernel
theorem d_Ci_gate_143 : decode m_Ci_gate.2.1 143 = .ok (.putfield 43, 3) := by decide +kernel
theorem d_Ci_gate_146 : decode m_Ci_gate.2.1 146 = .ok (.iconst 1, 1) := by decide +kernel
theorem d_Ci_gate_147 : decode m_Ci_gate.2.1 147 = .ok (.ireturn, 1) := by decide +kernel
theorem d_Ci_gate_148 : decode m_Ci_gate.2.1 148 = .ok (.aload_n 0, 1) := by decide +kernel
theorem d_Ci_gate_149 : decode m_Ci_gate.2.1 149 = .ok (.getfield 11, 3) := by decide +kernel
theorem d_Ci_gate_152 : decode m_Ci_gate.2.1 152 = .ok (.aload_n 0, 1) := by decide +kernel
theorem d_Ci_gate_153 : decode m_Ci_gate.2.1 153 = .ok (.getfield 33, 3) := by decide +kernel
theorem d_Ci_gate_156 : decode m_Ci_gate.2.1 156 = .ok (.iload_n 1, 1) := by decide +kernel
theorem d_Ci_gate_157 : decode m_Ci_gate.2.1 157 = .ok (.iastore, 1) := by decide +kernel
theorem d_Ci_gate_158 : decode m_Ci_gate.2.1 158 = .ok (.aload_n 0, 1) := by decide +kernel
theorem d_Ci_gate_159 : decode m_Ci_gate.2.1 159 = .ok (.getfield 15, 3) := by decide +kernel
theorem d_Ci_gate_162 : decode m_Ci_gate.2.1 162 = .ok (.aload_n 0, 1) := by decide +kernel
theorem d_Ci_gate_163 : decode m_Ci_gate.2.1 163 = .ok (.getfield 33, 3) := by decide +kernel
theorem d_Ci_gate_166 : decode m_Ci_gate.2.1 166 = .ok (.iload_n 2, 1) := by decide +kernel
theorem d_Ci_gate_167 : decode m_Ci_gate.2.1 167 = .ok (.iastore, 1) := by decide +kernel
theorem d_Ci_gate_168 : decode m_Ci_gate.2.1 168 = .ok (.aload_n 0, 1) := by decide +kernel
theorem d_Ci_gate_169 : decode m_Ci_gate.2.1 169 = .ok (.getfield 18, 3) := by decide +kernel
theorem d_Ci_gate_172 : decode m_Ci_gate.2.1 172 = .ok (.aload_n 0, 1) := by decide +kernel
theorem d_Ci_gate_173 : decode m_Ci_gate.2.1 173 = .ok (.getfield 33, 3) := by decide +kernel
theorem d_Ci_gate_176 : decode m_Ci_gate.2.1 176 = .ok (.iload_n 3, 1) := by decide +kernel
theorem d_Ci_gate_177 : decode m_Ci_gate.2.1 177 = .ok (.iastore, 1) := by decide +kernel
theorem d_Ci_gate_178 : decode m_Ci_gate.2.1 178 = .ok (.aload_n 0, 1) := by decide +kernel
theorem d_Ci_gate_179 : decode m_Ci_gate.2.1 179 = .ok (.getfield 21, 3) := by decide +kernel
theorem d_Ci_gate_182 : decode m_Ci_gate.2.1 182 = .ok (.aload_n 0, 1) := by decide +kernel
theorem d_Ci_gate_183 : decode m_Ci_gate.2.1 183 = .ok (.getfield 33, 3) := by decide +kernel
theorem d_Ci_gate_186 : decode m_Ci_gate.2.1 186 = .ok (.iload 4, 2) := by decide +kernel
theorem d_Ci_gate_188 : decode m_Ci_gate.2.1 188 = .ok (.iastore, 1) := by decide +kernel
theorem d_Ci_gate_189 : decode m_Ci_gate.2.1 189 = .ok (.aload_n 0, 1) := by decide +kernel
theorem d_Ci_gate_190 : decode m_Ci_gate.2.1 190 = .ok (.getfield 24, 3) := by decide +kernel
theorem d_Ci_gate_193 : decode m_Ci_gate.2.1 193 = .ok (.aload_n 0, 1) := by decide +kernel
theorem d_Ci_gate_194 : decode m_Ci_gate.2.1 194 = .ok (.getfield 33, 3) := by decide +kernel
theorem d_Ci_gate_197 : decode m_Ci_gate.2.1 197 = .ok (.iload 6, 2) := by decide +kernel
theorem d_Ci_gate_199 : decode m_Ci_gate.2.1 199 = .ok (.iastore, 1) := by decide +kernel
theorem d_Ci_gate_200 : decode m_Ci_gate.2.1 200 = .ok (.aload_n 0, 1) := by decide +kernel
theorem d_Ci_gate_201 : decode m_Ci_gate.2.1 201 = .ok (.getfield 27, 3) := by decide +kernel
theorem d_Ci_gate_204 : decode m_Ci_gate.2.1 204 = .ok (.aload_n 0, 1) := by decide +kernel
theorem d_Ci_gate_205 : decode m_Ci_gate.2.1 205 = .ok (.getfield 33, 3) := by decide +kernel
theorem d_Ci_gate_208 : decode m_Ci_gate.2.1 208 = .ok (.aload_n 0, 1) := by decide +kernel
theorem d_Ci_gate_209 : decode m_Ci_gate.2.1 209 = .ok (.getfield 30, 3) := by decide +kernel
theorem d_Ci_gate_212 : decode m_Ci_gate.2.1 212 = .ok (.iload 6, 2) := by decide +kernel
theorem d_Ci_gate_214 : decode m_Ci_gate.2.1 214 = .ok (.iaload, 1) := by decide +kernel
theorem d_Ci_gate_215 : decode m_Ci_gate.2.1 215 = .ok (.iastore, 1) := by decide +kernel
theorem d_Ci_gate_216 : decode m_Ci_gate.2.1 216 = .ok (.aload_n 0, 1) := by decide +kernel
theorem d_Ci_gate_217 : decode m_Ci_gate.2.1 217 = .ok (.getfield 30, 3) := by decide +kernel
theorem d_Ci_gate_220 : decode m_Ci_gate.2.1 220 = .ok (.iload 6, 2) := by decide +kernel
theorem d_Ci_gate_222 : decode m_Ci_gate.2.1 222 = .ok (.aload_n 0, 1) := by decide +kernel
theorem d_Ci_gate_223 : decode m_Ci_gate.2.1 223 = .ok (.getfield 33, 3) := by decide +kernel
theorem d_Ci_gate_226 : decode m_Ci_gate.2.1 226 = .ok (.iastore, 1) := by decide +kernel
theorem d_Ci_gate_227 : decode m_Ci_gate.2.1 227 = .ok (.aload_n 0, 1) := by decide +kernel
theorem d_Ci_gate_228 : decode m_Ci_gate.2.1 228 = .ok (.dup, 1) := by decide +kernel
theorem d_Ci_gate_229 : decode m_Ci_gate.2.1 229 = .ok (.getfield 33, 3) := by decide +kernel
theorem d_Ci_gate_232 : decode m_Ci_gate.2.1 232 = .ok (.iconst 1, 1) := by decide +kernel
theorem d_Ci_gate_233 : decode m_Ci_gate.2.1 233 = .ok (.iadd, 1) := by decide +kernel
theorem d_Ci_gate_234 : decode m_Ci_gate.2.1 234 = .ok (.putfield 33, 3) := by decide +kernel
theorem d_Ci_gate_237 : decode m_Ci_gate.2.1 237 = .ok (.iconst 2, 1) := by decide +kernel
theorem d_Ci_gate_238 : decode m_Ci_gate.2.1 238 = .ok (.aload_n 0, 1) := by decide +kernel
theorem d_Ci_gate_239 : decode m_Ci_gate.2.1 239 = .ok (.getfield 33, 3) := by decide +kernel
theorem d_Ci_gate_242 : decode m_Ci_gate.2.1 242 = .ok (.iconst 1, 1) := by decide +kernel
theorem d_Ci_gate_243 : decode m_Ci_gate.2.1 243 = .ok (.isub, 1) := by decide +kernel
theorem d_Ci_gate_244 : decode m_Ci_gate.2.1 244 = .ok (.imul, 1) := by decide +kernel
theorem d_Ci_gate_245 : decode m_Ci_gate.2.1 245 = .ok (.ireturn, 1) := by decide +kernel
theorem d_Ci_pick_0 : decode m_Ci_pick.2.1 0 = .ok (.iload_n 1, 1) := by decide +kernel
theorem d_Ci_pick_1 : decode m_Ci_pick.2.1 1 = .ok (.ifCond .eq 8, 3) := by decide +kernel
theorem d_Ci_pick_4 : decode m_Ci_pick.2.1 4 = .ok (.iload_n 2, 1) := by decide +kernel
theorem d_Ci_pick_5 : decode m_Ci_pick.2.1 5 = .ok (.iload_n 3, 1) := by decide +kernel
theorem d_Ci_pick_6 : decode m_Ci_pick.2.1 6 = .ok (.if_icmp .ne 5, 3) := by decide +kernel
theorem d_Ci_pick_9 : decode m_Ci_pick.2.1 9 = .ok (.iload_n 2, 1) := by decide +kernel
theorem d_Ci_pick_10 : decode m_Ci_pick.2.1 10 = .ok (.ireturn, 1) := by decide +kernel
theorem d_Ci_pick_11 : decode m_Ci_pick.2.1 11 = .ok (.iload_n 1, 1) := by decide +kernel
theorem d_Ci_pick_12 : decode m_Ci_pick.2.1 12 = .ok (.iconst 1, 1) := by decide +kernel
theorem d_Ci_pick_13 : decode m_Ci_pick.2.1 13 = .ok (.if_icmp .ne 5, 3) := by decide +kernel
theorem d_Ci_pick_16 : decode m_Ci_pick.2.1 16 = .ok (.iload_n 3, 1) := by decide +kernel
theorem d_Ci_pick_17 : decode m_Ci_pick.2.1 17 = .ok (.ireturn, 1) := by decide +kernel
theorem d_Ci_pick_18 : decode m_Ci_pick.2.1 18 = .ok (.iload_n 2, 1) := by decide +kernel
theorem d_Ci_pick_19 : decode m_Ci_pick.2.1 19 = .ok (.iload_n 3, 1) := by decide +kernel
theorem d_Ci_pick_20 : decode m_Ci_pick.2.1 20 = .ok (.iconst 1, 1) := by decide +kernel
theorem d_Ci_pick_21 : decode m_Ci_pick.2.1 21 = .ok (.ixor, 1) := by decide +kernel
theorem d_Ci_pick_22 : decode m_Ci_pick.2.1 22 = .ok (.if_icmp .ne 10, 3) := by decide +kernel
theorem d_Ci_pick_25 : decode m_Ci_pick.2.1 25 = .ok (.aload_n 0, 1) := by decide +kernel
theorem d_Ci_pick_26 : decode m_Ci_pick.2.1 26 = .ok (.iload_n 1, 1) := by decide +kernel
theorem d_Ci_pick_27 : decode m_Ci_pick.2.1 27 = .ok (.iload_n 3, 1) := by decide +kernel
theorem d_Ci_pick_28 : decode m_Ci_pick.2.1 28 = .ok (.invokevirtual 62, 3) := by decide +kernel
theorem d_Ci_pick_31 : decode m_Ci_pick.2.1 31 = .ok (.ireturn, 1) := by decide +kernel
theorem d_Ci_pick_32 : decode m_Ci_pick.2.1 32 = .ok (.iload_n 2, 1) := by decide +kernel
theorem d_Ci_pick_33 : decode m_Ci_pick.2.1 33 = .ok (.ifCond .eq 8, 3) := by decide +kernel
theorem d_Ci_pick_36 : decode m_Ci_pick.2.1 36 = .ok (.iload_n 2, 1) := by decide +kernel
theorem d_Ci_pick_37 : decode m_Ci_pick.2.1 37 = .ok (.iload_n 1, 1) := by decide +kernel
theorem d_Ci_pick_38 : decode m_Ci_pick.2.1 38 = .ok (.if_icmp .ne 16, 3) := by decide +kernel
theorem d_Ci_pick_41 : decode m_Ci_pick.2.1 41 = .ok (.aload_n 0, 1) := by decide +kernel
theorem d_Ci_pick_42 : decode m_Ci_pick.2.1 42 = .ok (.iload_n 1, 1) := by decide +kernel
theorem d_Ci_pick_43 : decode m_Ci_pick.2.1 43 = .ok (.iconst 1, 1) := by decide +kernel
theorem d_Ci_pick_44 : decode m_Ci_pick.2.1 44 = .ok (.ixor, 1) := by decide +kernel
theorem d_Ci_pick_45 : decode m_Ci_pick.2.1 45 = .ok (.iload_n 3, 1) := by decide +kernel
theorem d_Ci_pick_46 : decode m_Ci_pick.2.1 46 = .ok (.iconst 1, 1) := by decide +kernel
theorem d_Ci_pick_47 : decode m_Ci_pick.2.1 47 = .ok (.ixor, 1) := by decide +kernel
theorem d_Ci_pick_48 : decode m_Ci_pick.2.1 48 = .ok (.invokevirtual 59, 3) := by decide +kernel
theorem d_Ci_pick_51 : decode m_Ci_pick.2.1 51 = .ok (.iconst 1, 1) := by decide +kernel
theorem d_Ci_pick_52 : decode m_Ci_pick.2.1 52 = .ok (.ixor, 1) := by decide +kernel
theorem d_Ci_pick_53 : decode m_Ci_pick.2.1 53 = .ok (.ireturn, 1) := by decide +kernel
theorem d_Ci_pick_54 : decode m_Ci_pick.2.1 54 = .ok (.iload_n 2, 1) := by decide +kernel
theorem d_Ci_pick_55 : decode m_Ci_pick.2.1 55 = .ok (.iconst 1, 1) := by decide +kernel
theorem d_Ci_pick_56 : decode m_Ci_pick.2.1 56 = .ok (.if_icmp .eq 10, 3) := by decide +kernel
theorem d_Ci_pick_59 : decode m_Ci_pick.2.1 59 = .ok (.iload_n 2, 1) := by decide +kernel
theorem d_Ci_pick_60 : decode m_Ci_pick.2.1 60 = .ok (.iload_n 1, 1) := by decide +kernel
theorem d_Ci_pick_61 : decode m_Ci_pick.2.1 61 = .ok (.iconst 1, 1) := by decide +kernel
theorem d_Ci_pick_62 : decode m_Ci_pick.2.1 62 = .ok (.ixor, 1) := by decide +kernel
theorem d_Ci_pick_63 : decode m_Ci_pick.2.1 63 = .ok (.if_icmp .ne 12, 3) := by decide +kernel
theorem d_Ci_pick_66 : decode m_Ci_pick.2.1 66 = .ok (.aload_n 0, 1) := by decide +kernel
theorem d_Ci_pick_67 : decode m_Ci_pick.2.1 67 = .ok (.iload_n 1, 1) := by decide +kernel
theorem d_Ci_pick_68 : decode m_Ci_pick.2.1 68 = .ok (.iconst 1, 1) := by decide +kernel
theorem d_Ci_pick_69 : decode m_Ci_pick.2.1 69 = .ok (.ixor, 1) := by decide +kernel
theorem d_Ci_pick_70 : decode m_Ci_pick.2.1 70 = .ok (.iload_n 3, 1) := by decide +kernel
theorem d_Ci_pick_71 : decode m_Ci_pick.2.1 71 = .ok (.invokevirtual 59, 3) := by decide +kernel
theorem d_Ci_pick_74 : decode m_Ci_pick.2.1 74 = .ok (.ireturn, 1) := by decide +kernel
theorem d_Ci_pick_75 : decode m_Ci_pick.2.1 75 = .ok (.iload_n 3, 1) := by decide +kernel
theorem d_Ci_pick_76 : decode m_Ci_pick.2.1 76 = .ok (.ifCond .eq 10, 3) := by decide +kernel
theorem d_Ci_pick_79 : decode m_Ci_pick.2.1 79 = .ok (.iload_n 3, 1) := by decide +kernel
theorem d_Ci_pick_80 : decode m_Ci_pick.2.1 80 = .ok (.iload_n 1, 1) := by decide +kernel
theorem d_Ci_pick_81 : decode m_Ci_pick.2.1 81 = .ok (.iconst 1, 1) := by decide +kernel
theorem d_Ci_pick_82 : decode m_Ci_pick.2.1 82 = .ok (.ixor, 1) := by decide +kernel
theorem d_Ci_pick_83 : decode m_Ci_pick.2.1 83 = .ok (.if_icmp .ne 14, 3) := by decide +kernel
theorem d_Ci_pick_86 : decode m_Ci_pick.2.1 86 = .ok (.aload_n 0, 1) := by decide +kernel
theorem d_Ci_pick_87 : decode m_Ci_pick.2.1 87 = .ok (.iload_n 1, 1) := by decide +kernel
theorem d_Ci_pick_88 : decode m_Ci_pick.2.1 88 = .ok (.iload_n 2, 1) := by decide +kernel
theorem d_Ci_pick_89 : decode m_Ci_pick.2.1 89 = .ok (.iconst 1, 1) := by decide +kernel
theorem d_Ci_pick_90 : decode m_Ci_pick.2.1 90 = .ok (.ixor, 1) := by decide +kernel
theorem d_Ci_pick_91 : decode m_Ci_pick.2.1 91 = .ok (.invokevirtual 59, 3) := by decide +kernel
theorem d_Ci_pick_94 : decode m_Ci_pick.2.1 94 = .ok (.iconst 1, 1) := by decide +kernel
theorem d_Ci_pick_95 : decode m_Ci_pick.2.1 95 = .ok (.ixor, 1) := by decide +kernel
theorem d_Ci_pick_96 : decode m_Ci_pick.2.1 96 = .ok (.ireturn, 1) := by decide +kernel
theorem d_Ci_pick_97 : decode m_Ci_pick.2.1 97 = .ok (.iload_n 3, 1) := by decide +kernel
theorem d_Ci_pick_98 : decode m_Ci_pick.2.1 98 = .ok (.iconst 1, 1) := by decide +kernel
theorem d_Ci_pick_99 : decode m_Ci_pick.2.1 99 = .ok (.if_icmp .eq 8, 3) := by decide +kernel
theorem d_Ci_pick_102 : decode m_Ci_pick.2.1 102 = .ok (.iload_n 3, 1) := by decide +kernel
theorem d_Ci_pick_103 : decode m_Ci_pick.2.1 103 = .ok (.iload_n 1, 1) := by decide +kernel
theorem d_Ci_pick_104 : decode m_Ci_pick.2.1 104 = .ok (.if_icmp .ne 10, 3) := by decide +kernel
theorem d_Ci_pick_107 : decode m_Ci_pick.2.1 107 = .ok (.aload_n 0, 1) := by decide +kernel
theorem d_Ci_pick_108 : decode m_Ci_pick.2.1 108 = .ok (.iload_n 1, 1) := by decide +kernel
theorem d_Ci_pick_109 : decode m_Ci_pick.2.1 109 = .ok (.iload_n 2, 1) := by decide +kernel
theorem d_Ci_pick_110 : decode m_Ci_pick.2.1 110 = .ok (.invokevirtual 59, 3) := by decide +kernel
theorem d_Ci_pick_113 : decode m_Ci_pick.2.1 113 = .ok (.ireturn, 1) := by decide +kernel
theorem d_Ci_pick_114 : decode m_Ci_pick.2.1 114 = .ok (.iload_n 1, 1) := by decide +kernel
theorem d_Ci_pick_115 : decode m_Ci_pick.2.1 115 = .ok (.iconst 1, 1) := by decide +kernel
theorem d_Ci_pick_116 : decode m_Ci_pick.2.1 116 = .ok (.iand, 1) := by decide +kernel
theorem d_Ci_pick_117 : decode m_Ci_pick.2.1 117 = .ok (.ifCond .ne 7, 3) := by decide +kernel
theorem d_Ci_pick_120 : decode m_Ci_pick.2.1 120 = .ok (.iload_n 2, 1) := by decide +kernel
theorem d_Ci_pick_121 : decode m_Ci_pick.2.1 121 = .ok (.goto 4, 3) := by decide +kernel
theorem d_Ci_pick_124 : decode m_Ci_pick.2.1 124 = .ok (.iload_n 3, 1) := by decide +kernel
theorem d_Ci_pick_125 : decode m_Ci_pick.2.1 125 = .ok (.istore 4, 2) := by decide +kernel
theorem d_Ci_pick_127 : decode m_Ci_pick.2.1 127 = .ok (.iload_n 1, 1) := by decide +kernel
theorem d_Ci_pick_128 : decode m_Ci_pick.2.1 128 = .ok (.iconst 1, 1) := by decide +kernel
theorem d_Ci_pick_129 : decode m_Ci_pick.2.1 129 = .ok (.iand, 1) := by decide +kernel
theorem d_Ci_pick_130 : decode m_Ci_pick.2.1 130 = .ok (.ifCond .ne 7, 3) := by decide +kernel
theorem d_Ci_pick_133 : decode m_Ci_pick.2.1 133 = .ok (.iload_n 3, 1) := by decide +kernel
theorem d_Ci_pick_134 : decode m_Ci_pick.2.1 134 = .ok (.goto 4, 3) := by decide +kernel
theorem d_Ci_pick_137 : decode m_Ci_pick.2.1 137 = .ok (.iload_n 2, 1) := by decide +kernel
theorem d_Ci_pick_138 : decode m_Ci_pick.2.1 138 = .ok (.istore 5, 2) := by decide +kernel
theorem d_Ci_pick_140 : decode m_Ci_pick.2.1 140 = .ok (.iload 4, 2) := by decide +kernel
theorem d_Ci_pick_142 : decode m_Ci_pick.2.1 142 = .ok (.iconst 1, 1) := by decide +kernel
theorem d_Ci_pick_143 : decode m_Ci_pick.2.1 143 = .ok (.iand, 1) := by decide +kernel
theorem d_Ci_pick_144 : decode m_Ci_pick.2.1 144 = .ok (.istore 6, 2) := by decide +kernel
theorem d_Ci_pick_146 : decode m_Ci_pick.2.1 146 = .ok (.aload_n 0, 1) := by decide +kernel
theorem d_Ci_pick_147 : decode m_Ci_pick.2.1 147 = .ok (.iconst 3, 1) := by decide +kernel
theorem d_Ci_pick_148 : decode m_Ci_pick.2.1 148 = .ok (.iload_n 1, 1) := by decide +kernel
theorem d_Ci_pick_149 : decode m_Ci_pick.2.1 149 = .ok (.bipush (-2), 2) := by decide +kernel
theorem d_Ci_pick_151 : decode m_Ci_pick.2.1 151 = .ok (.iand, 1) := by decide +kernel
theorem d_Ci_pick_152 : decode m_Ci_pick.2.1 152 = .ok (.iload 4, 2) := by decide +kernel
theorem d_Ci_pick_154 : decode m_Ci_pick.2.1 154 = .ok (.iload 6, 2) := by decide +kernel
theorem d_Ci_pick_156 : decode m_Ci_pick.2.1 156 = .ok (.ixor, 1) := by decide +kernel
theorem d_Ci_pick_157 : decode m_Ci_pick.2.1 157 = .ok (.iload 5, 2) := by decide +kernel
theorem d_Ci_pick_159 : decode m_Ci_pick.2.1 159 = .ok (.iload 6, 2) := by decide +kernel
theorem d_Ci_pick_161 : decode m_Ci_pick.2.1 161 = .ok (.ixor, 1) := by decide +kernel
theorem d_Ci_pick_162 : decode m_Ci_pick.2.1 162 = .ok (.invokevirtual 55, 3) := by decide +kernel
theorem d_Ci_pick_165 : decode m_Ci_pick.2.1 165 = .ok (.iload 6, 2) := by decide +kernel
theorem d_Ci_pick_167 : decode m_Ci_pick.2.1 167 = .ok (.ixor, 1) := by decide +kernel
theorem d_Ci_pick_168 : decode m_Ci_pick.2.1 168 = .ok (.ireturn, 1) := by decide +kernel
theorem d_Ci_xor_0 : decode m_Ci_xor.2.1 0 = .ok (.iload_n 1, 1) := by decide +kernel
theorem d_Ci_xor_1 : decode m_Ci_xor.2.1 1 = .ok (.iload_n 2, 1) := by decide +kernel
theorem d_Ci_xor_2 : decode m_Ci_xor.2.1 2 = .ok (.ixor, 1) := by decide +kernel
theorem d_Ci_xor_3 : decode m_Ci_xor.2.1 3 = .ok (.iconst 1, 1) := by decide +kernel
theorem d_Ci_xor_4 : decode m_Ci_xor.2.1 4 = .ok (.iand, 1) := by decide +kernel
theorem d_Ci_xor_5 : decode m_Ci_xor.2.1 5 = .ok (.istore_n 3, 1) := by decide +kernel
theorem d_Ci_xor_6 : decode m_Ci_xor.2.1 6 = .ok (.iload_n 1, 1) := by decide +kernel
theorem d_Ci_xor_7 : decode m_Ci_xor.2.1 7 = .ok (.bipush (-2), 2) := by decide +kernel
theorem d_Ci_xor_9 : decode m_Ci_xor.2.1 9 = .ok (.iand, 1) := by decide +kernel
theorem d_Ci_xor_10 : decode m_Ci_xor.2.1 10 = .ok (.istore 4, 2) := by decide +kernel
theorem d_Ci_xor_12 : decode m_Ci_xor.2.1 12 = .ok (.iload_n 2, 1) := by decide +kernel
theorem d_Ci_xor_13 : decode m_Ci_xor.2.1 13 = .ok (.bipush (-2), 2) := by decide +kernel
theorem d_Ci_xor_15 : decode m_Ci_xor.2.1 15 = .ok (.iand, 1) := by decide +kernel
theorem d_Ci_xor_16 : decode m_Ci_xor.2.1 16 = .ok (.istore 5, 2) := by decide +kernel
theorem d_Ci_xor_18 : decode m_Ci_xor.2.1 18 = .ok (.iload 4, 2) := by decide +kernel
theorem d_Ci_xor_20 : decode m_Ci_xor.2.1 20 = .ok (.iload 5, 2) := by decide +kernel
theorem d_Ci_xor_22 : decode m_Ci_xor.2.1 22 = .ok (.if_icmp .ne 7, 3) := by decide +kernel
theorem d_Ci_xor_25 : decode m_Ci_xor.2.1 25 = .ok (.iconst 1, 1) := by decide +kernel
theorem d_Ci_xor_26 : decode m_Ci_xor.2.1 26 = .ok (.iload_n 3, 1) := by decide +kernel
theorem d_Ci_xor_27 : decode m_Ci_xor.2.1 27 = .ok (.ixor, 1) := by decide +kernel
theorem d_Ci_xor_28 : decode m_Ci_xor.2.1 28 = .ok (.ireturn, 1) := by decide +kernel
theorem d_Ci_xor_29 : decode m_Ci_xor.2.1 29 = .ok (.iload 4, 2) := by decide +kernel
theorem d_Ci_xor_31 : decode m_Ci_xor.2.1 31 = .ok (.ifCond .eq 8, 3) := by decide +kernel
theorem d_Ci_xor_34 : decode m_Ci_xor.2.1 34 = .ok (.iload 5, 2) := by decide +kernel
theorem d_Ci_xor_36 : decode m_Ci_xor.2.1 36 = .ok (.ifCond .ne 13, 3) := by decide +kernel
theorem d_Ci_xor_39 : decode m_Ci_xor.2.1 39 = .ok (.iload 4, 2) := by decide +kernel
theorem d_Ci_xor_41 : decode m_Ci_xor.2.1 41 = .ok (.iload 5, 2) := by decide +kernel
theorem d_Ci_xor_43 : decode m_Ci_xor.2.1 43 = .ok (.iadd, 1) := by decide +kernel
theorem d_Ci_xor_44 : decode m_Ci_xor.2.1 44 = .ok (.iconst 1, 1) := by decide +kernel
theorem d_Ci_xor_45 : decode m_Ci_xor.2.1 45 = .ok (.ixor, 1) := by decide +kernel
theorem d_Ci_xor_46 : decode m_Ci_xor.2.1 46 = .ok (.iload_n 3, 1) := by decide +kernel
theorem d_Ci_xor_47 : decode m_Ci_xor.2.1 47 = .ok (.ixor, 1) := by decide +kernel
theorem d_Ci_xor_48 : decode m_Ci_xor.2.1 48 = .ok (.ireturn, 1) := by decide +kernel
theorem d_Ci_xor_49 : decode m_Ci_xor.2.1 49 = .ok (.aload_n 0, 1) := by decide +kernel
theorem d_Ci_xor_50 : decode m_Ci_xor.2.1 50 = .ok (.iconst 2, 1) := by decide +kernel
theorem d_Ci_xor_51 : decode m_Ci_xor.2.1 51 = .ok (.iload 4, 2) := by decide +kernel
theorem d_Ci_xor_53 : decode m_Ci_xor.2.1 53 = .ok (.iload 5, 2) := by decide +kernel
theorem d_Ci_xor_55 : decode m_Ci_xor.2.1 55 = .ok (.invokestatic 46, 3) := by decide +kernel
theorem d_Ci_xor_58 : decode m_Ci_xor.2.1 58 = .ok (.iload 4, 2) := by decide +kernel
theorem d_Ci_xor_60 : decode m_Ci_xor.2.1 60 = .ok (.iload 5, 2) := by decide +kernel
theorem d_Ci_xor_62 : decode m_Ci_xor.2.1 62 = .ok (.invokestatic 52, 3) := by decide +kernel
theorem d_Ci_xor_65 : decode m_Ci_xor.2.1 65 = .ok (.iconst 0, 1) := by decide +kernel
theorem d_Ci_xor_66 : decode m_Ci_xor.2.1 66 = .ok (.invokevirtual 55, 3) := by decide +kernel
theorem d_Ci_xor_69 : decode m_Ci_xor.2.1 69 = .ok (.iload_n 3, 1) := by decide +kernel
theorem d_Ci_xor_70 : decode m_Ci_xor.2.1 70 = .ok (.ixor, 1) := by decide +kernel
theorem d_Ci_xor_71 : decode m_Ci_xor.2.1 71 = .ok (.ireturn, 1) := by decide +kernel
theorem d_Ci_or_0 : decode m_Ci_or.2.1 0 = .ok (.aload_n 0, 1) := by decide +kernel
theorem d_Ci_or_1 : decode m_Ci_or.2.1 1 = .ok (.iload_n 1, 1) := by decide +kernel
theorem d_Ci_or_2 : decode m_Ci_or.2.1 2 = .ok (.iconst 1, 1) := by decide +kernel
theorem d_Ci_or_3 : decode m_Ci_or.2.1 3 = .ok (.ixor, 1) := by decide +kernel
theorem d_Ci_or_4 : decode m_Ci_or.2.1 4 = .ok (.iload_n 2, 1) := by decide +kernel
theorem d_Ci_or_5 : decode m_Ci_or.2.1 5 = .ok (.iconst 1, 1) := by decide +kernel
theorem d_Ci_or_6 : decode m_Ci_or.2.1 6 = .ok (.ixor, 1) := by decide +kernel
theorem d_Ci_or_7 : decode m_Ci_or.2.1 7 = .ok (.invokevirtual 59, 3) := by decide +kernel
theorem d_Ci_or_10 : decode m_Ci_or.2.1 10 = .ok (.iconst 1, 1) := by decide +kernel
theorem d_Ci_or_11 : decode m_Ci_or.2.1 11 = .ok (.ixor, 1) := by decide +kernel
theorem d_Ci_or_12 : decode m_Ci_or.2.1 12 = .ok (.ireturn, 1) := by decide +kernel
theorem d_Ci_cutBack_0 : decode m_Ci_cutBack.2.1 0 = .ok (.aload_n 0, 1) := by decide +kernel
theorem d_Ci_cutBack_1 : decode m_Ci_cutBack.2.1 1 = .ok (.getfield 33, 3) := by decide +kernel
theorem d_Ci_cutBack_4 : decode m_Ci_cutBack.2.1 4 = .ok (.iload_n 1, 1) := by decide +kernel
theorem d_Ci_cutBack_5 : decode m_Ci_cutBack.2.1 5 = .ok (.if_icmp .le 59, 3) := by decide +kernel
theorem d_Ci_cutBack_8 : decode m_Ci_cutBack.2.1 8 = .ok (.aload_n 0, 1) := by decide +kernel
theorem d_Ci_cutBack_9 : decode m_Ci_cutBack.2.1 9 = .ok (.getfield 33, 3) := by decide +kernel
theorem d_Ci_cutBack_12 : decode m_Ci_cutBack.2.1 12 = .ok (.iconst 1, 1) := by decide +kernel
theorem d_Ci_cutBack_13 : decode m_Ci_cutBack.2.1 13 = .ok (.if_icmp .le 51, 3) := by decide +kernel
theorem d_Ci_cutBack_16 : decode m_Ci_cutBack.2.1 16 = .ok (.aload_n 0, 1) := by decide +kernel
theorem d_Ci_cutBack_17 : decode m_Ci_cutBack.2.1 17 = .ok (.dup, 1) := by decide +kernel
theorem d_Ci_cutBack_18 : decode m_Ci_cutBack.2.1 18 = .ok (.getfield 33, 3) := by decide +kernel
theorem d_Ci_cutBack_21 : decode m_Ci_cutBack.2.1 21 = .ok (.iconst 1, 1) := by decide +kernel
theorem d_Ci_cutBack_22 : decode m_Ci_cutBack.2.1 22 = .ok (.isub, 1) := by decide +kernel
theorem d_Ci_cutBack_23 : decode m_Ci_cutBack.2.1 23 = .ok (.putfield 33, 3) := by decide +kernel
theorem d_Ci_cutBack_26 : decode m_Ci_cutBack.2.1 26 = .ok (.aload_n 0, 1) := by decide +kernel
theorem d_Ci_cutBack_27 : decode m_Ci_cutBack.2.1 27 = .ok (.getfield 11, 3) := by decide +kernel
theorem d_Ci_cutBack_30 : decode m_Ci_cutBack.2.1 30 = .ok (.aload_n 0, 1) := by decide +kernel
theorem d_Ci_cutBack_31 : decode m_Ci_cutBack.2.1 31 = .ok (.getfield 33, 3) := by decide +kernel
theorem d_Ci_cutBack_34 : decode m_Ci_cutBack.2.1 34 = .ok (.iaload, 1) := by decide +kernel
theorem d_Ci_cutBack_35 : decode m_Ci_cutBack.2.1 35 = .ok (.ifCond .eq (-35), 3) := by decide +kernel
theorem d_Ci_cutBack_38 : decode m_Ci_cutBack.2.1 38 = .ok (.aload_n 0, 1) := by decide +kernel
theorem d_Ci_cutBack_39 : decode m_Ci_cutBack.2.1 39 = .ok (.getfield 30, 3) := by decide +kernel
theorem d_Ci_cutBack_42 : decode m_Ci_cutBack.2.1 42 = .ok (.aload_n 0, 1) := by decide +kernel
theorem d_Ci_cutBack_43 : decode m_Ci_cutBack.2.1 43 = .ok (.getfield 24, 3) := by decide +kernel
theorem d_Ci_cutBack_46 : decode m_Ci_cutBack.2.1 46 = .ok (.aload_n 0, 1) := by decide +kernel
theorem d_Ci_cutBack_47 : decode m_Ci_cutBack.2.1 47 = .ok (.getfield 33, 3) := by decide +kernel
theorem d_Ci_cutBack_50 : decode m_Ci_cutBack.2.1 50 = .ok (.iaload, 1) := by decide +kernel
theorem d_Ci_cutBack_51 : decode m_Ci_cutBack.2.1 51 = .ok (.aload_n 0, 1) := by decide +kernel
theorem d_Ci_cutBack_52 : decode m_Ci_cutBack.2.1 52 = .ok (.getfield 27, 3) := by decide +kernel
theorem d_Ci_cutBack_55 : decode m_Ci_cutBack.2.1 55 = .ok (.aload_n 0, 1) := by decide +kernel
theorem d_Ci_cutBack_56 : decode m_Ci_cutBack.2.1 56 = .ok (.getfield 33, 3) := by decide +kernel
theorem d_Ci_cutBack_59 : decode m_Ci_cutBack.2.1 59 = .ok (.iaload, 1) := by decide +kernel
theorem d_Ci_cutBack_60 : decode m_Ci_cutBack.2.1 60 = .ok (.iastore, 1) := by decide +kernel
theorem d_Ci_cutBack_61 : decode m_Ci_cutBack.2.1 61 = .ok (.goto (-61), 3) := by decide +kernel
theorem d_Ci_cutBack_64 : decode m_Ci_cutBack.2.1 64 = .ok (.return_, 1) := by decide +kernel
theorem f_Ci_33 : q_F "ProofHall$Circuit" 33 5 7 "I" := ⟨_, _, _, rfl, by decide, rfl, Or.inl (List.mem_of_getElem? (i := 374) (by decide +kernel))⟩
theorem f_Ci_11 : q_FR "ProofHall$Circuit" 11 5 0 := ⟨"[I", by decide, ⟨_, _, _, rfl, by decide, rfl, Or.inl (List.mem_of_getElem? (i := 363) (by decide +kernel))⟩⟩
theorem f_Ci_43 : q_F "ProofHall$Circuit" 43 5 8 "I" := ⟨_, _, _, rfl, by decide, rfl, Or.inl (List.mem_of_getElem? (i := 379) (by decide +kernel))⟩
theorem g_Ci_43 (nm : String) : q_G "ProofHall$Circuit" 43 5 8 "I" nm := ⟨_, _, _, rfl, by decide, rfl, List.mem_of_getElem? (i := 379) (by decide +kernel), Or.inl rfl⟩
theorem cd_Ci_gate : q_cd m_Ci_gate := ⟨by decide +kernel, List.mem_of_getElem? (i := 13) (by decide +kernel), Or.inl ⟨rfl, List.mem_of_getElem? (i := 1062) (by decide +kernel)⟩⟩
theorem cV_Ci_55 : q_CV "ProofHall$Circuit" 55 5 m_Ci_gate 4 := ⟨⟨cd_Ci_gate, by decide, by decide, by decide, by decide +kernel⟩, Or.inl (List.mem_of_getElem? (i := 1059) (by decide +kernel)), List.mem_of_getElem? (i := 1061) (by decide +kernel), _, _, _, rfl, by decide +kernel⟩
theorem k_Ci_65 : Cond.constant "ProofHall$Circuit" 65 (-1640531535) ∈ tables_1 := List.mem_of_getElem? (i := 1063) (by decide +kernel)
theorem k_Ci_66 : Cond.constant "ProofHall$Circuit" 66 (-2048144789) ∈ tables_1 := List.mem_of_getElem? (i := 1064) (by decide +kernel)
theorem k_Ci_67 : Cond.constant "ProofHall$Circuit" 67 668265263 ∈ tables_1 := List.mem_of_getElem? (i := 1065) (by decide +kernel)
theorem f_Ci_27 : q_FR "ProofHall$Circuit" 27 5 5 := ⟨"[I", by decide, ⟨_, _, _, rfl, by decide, rfl, Or.inl (List.mem_of_getElem? (i := 372) (by decide +kernel))⟩⟩
theorem f_Ci_15 : q_FR "ProofHall$Circuit" 15 5 1 := ⟨"[I", by decide, ⟨_, _, _, rfl, by decide, rfl, Or.inl (List.mem_of_getElem? (i := 365) (by decide +kernel))⟩⟩
theorem f_Ci_18 : q_FR "ProofHall$Circuit" 18 5 2 := ⟨"[I", by decide, ⟨_, _, _, rfl, by decide, rfl, Or.inl (List.mem_of_getElem? (i := 367) (by decide +kernel))⟩⟩
theorem f_Ci_21 : q_FR "ProofHall$Circuit" 21 5 3 := ⟨"[I", by decide, ⟨_, _, _, rfl, by decide, rfl, Or.inl (List.mem_of_getElem? (i := 369) (by decide +kernel))⟩⟩
theorem f_Ci_24 : q_FR "ProofHall$Circuit" 24 5 4 := ⟨"[I", by decide, ⟨_, _, _, rfl, by decide, rfl, Or.inl (List.mem_of_getElem? (i := 371) (by decide +kernel))⟩⟩
theorem cd_Ci_and : q_cd m_Ci_and := ⟨by decide +kernel, List.mem_of_getElem? (i := 13) (by decide +kernel), Or.inl ⟨rfl, List.mem_of_getElem? (i := 1056) (by decide +kernel)⟩⟩
theorem cV_Ci_59 : q_CV "ProofHall$Circuit" 59 5 m_Ci_and 2 := ⟨⟨cd_Ci_and, by decide, by decide, by decide, by decide +kernel⟩, Or.inl (List.mem_of_getElem? (i := 1074) (by decide +kernel)), List.mem_of_getElem? (i := 1054) (by decide +kernel), _, _, _, rfl, List.mem_append_right _ (List.mem_of_getElem? (i := 1055) (by decide +kernel))⟩
theorem cd_Ci_xor : q_cd m_Ci_xor := ⟨by decide +kernel, List.mem_of_getElem? (i := 13) (by decide +kernel), Or.inl ⟨rfl, List.mem_of_getElem? (i := 1073) (by decide +kernel)⟩⟩
theorem cV_Ci_62 : q_CV "ProofHall$Circuit" 62 5 m_Ci_xor 2 := ⟨⟨cd_Ci_xor, by decide, by decide, by decide, by decide +kernel⟩, Or.inl (List.mem_of_getElem? (i := 1070) (by decide +kernel)), List.mem_of_getElem? (i := 1071) (by decide +kernel), _, _, _, rfl, List.mem_append_right _ (List.mem_of_getElem? (i := 1072) (by decide +kernel))⟩
set_option maxHeartbeats 2000000 in
theorem b_Ci_clear_0 {ω : q_W} {σ : q_H} {Q : q_R → q_H → Prop} {d mc ms : Nat}   (hE : q_E σ) (h : (Q (.inl none) (zs (zfl σ 57 8192 0) 50 7 1))) : J ω m_Ci_clear (d + 1) mc ms 0 0 0 [(0, .ref 50)] [] σ Q := by
  refine j_aload_n d_Ci_clear_0 0 rfl ?_
  refine j_getR 57 f_Ci_30 d_Ci_clear_1 (tg_50 hE) (q_okE hE (by decide)) (rf_50_6 hE) (by decide) ?_
  refine j_iconst (v := zI 0) d_Ci_clear_4 (by decide) ?_
  refine j_callS m_JA_fill [.ref 57, .int (zI 0)] [] 0 0 0 cS_Ci_37 d_Ci_clear_5 rfl rfl (Nat.le_of_ble_eq_true rfl) (Nat.succ_le_succ (Nat.zero_le _)) (Nat.le_of_ble_eq_true rfl) (Nat.zero_le _) (Nat.zero_le _) (c_JA_fill (tg_57 hE) (q_okE hE (by decide)) (by decide) (by decide) _) (fun v τ h => ?_) (fun x τ h => absurd h.1 (by simp))
  obtain ⟨e1, e2⟩ := h; cases e1; rw [e2]
  refine j_aload_n d_Ci_clear_8 0 rfl ?_
  refine j_iconst (v := zI 1) d_Ci_clear_9 (by decide) ?_
  refine zj_putI (g_Ci_33 _) d_Ci_clear_10 (tg_50 (zfl_E hE)) (q_okE (zfl_E hE) (by decide)) ?_
  exact j_vret d_Ci_clear_13 rfl (Nat.zero_le _) (Nat.zero_le _) h
set_option maxHeartbeats 2000000 in
theorem b_Ci_leaf_0 {ω : q_W} {σ : q_H} {Q : q_R → q_H → Prop} {d mc ms : Nat}   (hE : q_E σ) (h : q_imp ((z σ 50 7) < 10240) ((0 ≤ (z σ 50 7) ∧ (z σ 50 7) < 10240) ∧ (Q (.inl (some (.int (zI (2 * (z σ 50 7)))))) (zs (zs σ 51 (z σ 50 7).toNat 0) 50 7 ((z σ 50 7) + 1)))) ∧ q_imp ((z σ 50 7) ≥ 10240) ((Q (.inl (some (.int (zI 1)))) (zs σ 50 8 ((z σ 50 8) + 1))))) : J ω m_Ci_leaf d mc ms 0 0 0 [(0, .ref 50)] [] σ Q := by
  refine j_aload_n d_Ci_leaf_0 0 rfl ?_
  refine zj_getI (z σ 50 7) f_Ci_33 d_Ci_leaf_1 (tg_50 hE) (q_okE hE (by decide)) (q_z _ _ _) ?_
  refine j_sipush (v := zI 10240) d_Ci_leaf_4 (by decide) ?_
  obtain ⟨h1, h2⟩ := h
  refine zj_icmp_lt 22 d_Ci_leaf_7 (by decide) (z_R _ _ _) ⟨by decide, by decide⟩ (fun k1 => ?_) (fun k1 => ?_)
  · have h := h1 k1
    refine j_aload_n d_Ci_leaf_22 0 rfl ?_
    refine j_getR 51 f_Ci_11 d_Ci_leaf_23 (tg_50 hE) (q_okE hE (by decide)) (rf_50_0 hE) (by decide) ?_
    refine j_aload_n d_Ci_leaf_26 0 rfl ?_
    refine zj_getI (z σ 50 7) f_Ci_33 d_Ci_leaf_27 (tg_50 hE) (q_okE hE (by decide)) (q_z _ _ _) ?_
    refine j_iconst (v := zI 0) d_Ci_leaf_30 (by decide) ?_
    obtain ⟨c2, h⟩ := h
    refine zj_iast d_Ci_leaf_31 (tg_51 hE) (q_okE hE (by decide)) c2 (by decide) ?_
    refine j_aload_n d_Ci_leaf_32 0 rfl ?_
    refine j_dup d_Ci_leaf_33 rfl ?_
    refine zj_getI (z σ 50 7) f_Ci_33 d_Ci_leaf_34 (tg_50 (zs_E hE)) (q_okE (zs_E hE) (by decide)) (Eq.trans (qs_o (by decide)) (q_z _ _ _)) ?_
    refine j_iconst (v := zI 1) d_Ci_leaf_37 (by decide) ?_
    refine zj_iadd ((z σ 50 7) + 1) (by omega) d_Ci_leaf_38 ?_
    refine zj_putI (g_Ci_33 _) d_Ci_leaf_39 (tg_50 (zs_E hE)) (q_okE (zs_E hE) (by decide)) ?_
    refine j_iconst (v := zI 2) d_Ci_leaf_42 (by decide) ?_
    refine j_aload_n d_Ci_leaf_43 0 rfl ?_
    refine zj_getI ((z σ 50 7) + 1) f_Ci_33 d_Ci_leaf_44 (tg_50 (zs_E (zs_E hE))) (q_okE (zs_E (zs_E hE)) (by decide)) (qs_s) ?_
    refine j_iconst (v := zI 1) d_Ci_leaf_47 (by decide) ?_
    refine zj_isub (z σ 50 7) (by omega) d_Ci_leaf_48 ?_
    refine zj_imul (2 * (z σ 50 7)) rfl d_Ci_leaf_49 ?_
    exact zj_iret d_Ci_leaf_50 rfl (Nat.zero_le _) (Nat.zero_le _) h
  · have h := h2 k1
    refine j_aload_n d_Ci_leaf_10 0 rfl ?_
    refine j_dup d_Ci_leaf_11 rfl ?_
    refine zj_getI (z σ 50 8) f_Ci_43 d_Ci_leaf_12 (tg_50 hE) (q_okE hE (by decide)) (q_z _ _ _) ?_
    refine j_iconst (v := zI 1) d_Ci_leaf_15 (by decide) ?_
    refine zj_iadd ((z σ 50 8) + 1) (by omega) d_Ci_leaf_16 ?_
    refine zj_putI (g_Ci_43 _) d_Ci_leaf_17 (tg_50 hE) (q_okE hE (by decide)) ?_
    refine j_iconst (v := zI 1) d_Ci_leaf_20 (by decide) ?_
    exact zj_iret d_Ci_leaf_21 rfl (Nat.zero_le _) (Nat.zero_le _) h
set_option maxHeartbeats 2000000 in
theorem b_Ci_and_0 {ω : q_W} {σ : q_H} {Q : q_R → q_H → Prop} {d mc ms : Nat} {x1 : Int} {x2 : Int}  (hE : q_E σ) (h : inR x1 ∧ q_imp (x1 = 1) ((Q (.inl (some (.int (zI 1)))) σ)) ∧ q_imp (x1 ≠ 1) (inR x2 ∧ q_imp (x2 = 1) ((Q (.inl (some (.int (zI 1)))) σ)) ∧ q_imp (x2 ≠ 1) (q_imp (x1 ≠ (zXor x2 1)) (q_imp (x1 = 0) ((Q (.inl (some (.int (zI x2)))) σ)) ∧ q_imp (x1 ≠ 0) (q_imp (x1 ≠ x2) (q_imp (x2 ≠ 0) ((J ω m_Ci_gate d 0 0 0 0 0 [(0, .ref 50), (1, .int (zI 1)), (2, .int (zI (min x1 x2))), (3, .int (zI (max x1 x2))), (4, .int (zI 0))] [] σ (q_ki (fun v τ => J ω m_Ci_and (d + 1) mc ms 0 0 52 [] [.int (zI v)] τ Q)))) ∧ q_imp (x2 = 0) ((Q (.inl (some (.int (zI x1)))) σ))) ∧ q_imp (x1 = x2) ((Q (.inl (some (.int (zI x2)))) σ)))) ∧ q_imp (x1 = (zXor x2 1)) ((Q (.inl (some (.int (zI 1)))) σ))))) : J ω m_Ci_and (d + 1) mc ms 0 0 0 [(0, .ref 50), (1, .int (zI x1)), (2, .int (zI x2))] [] σ Q := by
  refine j_iload_n d_Ci_and_0 1 rfl ?_
  refine j_iconst (v := zI 1) d_Ci_and_1 (by decide) ?_
  obtain ⟨r1, h⟩ := h
  obtain ⟨h1, h2⟩ := h
  refine zj_icmp_eq 17 d_Ci_and_2 (by decide) r1 ⟨by decide, by decide⟩ (fun k2 => ?_) (fun k2 => ?_)
  · have h := h1 k2
    refine j_iconst (v := zI 1) d_Ci_and_17 (by decide) ?_
    exact zj_iret d_Ci_and_18 rfl (Nat.zero_le _) (Nat.zero_le _) h
  · have h := h2 k2
    refine j_iload_n d_Ci_and_5 2 rfl ?_
    refine j_iconst (v := zI 1) d_Ci_and_6 (by decide) ?_
    obtain ⟨r3, h⟩ := h
    obtain ⟨h1, h2⟩ := h
    refine zj_icmp_eq 17 d_Ci_and_7 (by decide) r3 ⟨by decide, by decide⟩ (fun k4 => ?_) (fun k4 => ?_)
    · have h := h1 k4
      refine j_iconst (v := zI 1) d_Ci_and_17 (by decide) ?_
      exact zj_iret d_Ci_and_18 rfl (Nat.zero_le _) (Nat.zero_le _) h
    · have h := h2 k4
      refine j_iload_n d_Ci_and_10 1 rfl ?_
      refine j_iload_n d_Ci_and_11 2 rfl ?_
      refine j_iconst (v := zI 1) d_Ci_and_12 (by decide) ?_
      refine zj_ixor d_Ci_and_13 ?_
      obtain ⟨h1, h2⟩ := h
      refine zj_icmp_ne 19 d_Ci_and_14 (by decide) r1 (inR_of _) (fun k5 => ?_) (fun k5 => ?_)
      · have h := h1 k5
        refine j_iload_n d_Ci_and_19 1 rfl ?_
        obtain ⟨h1, h2⟩ := h
        refine zj_if_eq 28 d_Ci_and_20 (by decide) r1 (fun k6 => ?_) (fun k6 => ?_)
        · have h := h1 k6
          refine j_iload_n d_Ci_and_28 2 rfl ?_
          exact zj_iret d_Ci_and_29 rfl (Nat.zero_le _) (Nat.zero_le _) h
        · have h := h2 k6
          refine j_iload_n d_Ci_and_23 1 rfl ?_
          refine j_iload_n d_Ci_and_24 2 rfl ?_
          obtain ⟨h1, h2⟩ := h
          refine zj_icmp_ne 30 d_Ci_and_25 (by decide) r1 r3 (fun k7 => ?_) (fun k7 => ?_)
          · have h := h1 k7
            refine j_iload_n d_Ci_and_30 2 rfl ?_
            obtain ⟨h1, h2⟩ := h
            refine zj_if_ne 36 d_Ci_and_31 (by decide) r3 (fun k8 => ?_) (fun k8 => ?_)
            · have h := h1 k8
              refine j_aload_n d_Ci_and_36 0 rfl ?_
              refine j_iconst (v := zI 1) d_Ci_and_37 (by decide) ?_
              refine j_iload_n d_Ci_and_38 1 rfl ?_
              refine j_iload_n d_Ci_and_39 2 rfl ?_
              refine zj_min (List.mem_of_getElem? (i := 1057) (by decide +kernel)) d_Ci_and_40 (Nat.succ_le_succ (Nat.zero_le _)) (Nat.le_of_ble_eq_true rfl) (Nat.zero_le _) (Nat.zero_le _) r1 r3 ?_
              refine j_iload_n d_Ci_and_43 1 rfl ?_
              refine j_iload_n d_Ci_and_44 2 rfl ?_
              refine zj_max (List.mem_of_getElem? (i := 1058) (by decide +kernel)) d_Ci_and_45 (Nat.succ_le_succ (Nat.zero_le _)) (Nat.le_of_ble_eq_true rfl) (Nat.zero_le _) (Nat.zero_le _) r1 r3 ?_
              refine j_iconst (v := zI 0) d_Ci_and_48 (by decide) ?_
              refine j_callV m_Ci_gate [.int (zI 1), .int (zI (min x1 x2)), .int (zI (max x1 x2)), .int (zI 0)] [] d 0 0 cV_Ci_55 d_Ci_and_49 rfl rfl (tg_50 hE) (q_okE hE (by decide)) (Nat.le_of_ble_eq_true rfl) (Nat.le_refl _) (Nat.le_of_ble_eq_true rfl) (Nat.zero_le _) (Nat.zero_le _) h (fun v τ h => ?_) (fun x τ h => ?_)
              · obtain ⟨v, hv, e1, h⟩ := h; cases e1; exact j_sel [] rfl h
              · obtain ⟨v, hv, e1, h⟩ := h; cases e1
            · have h := h2 k8
              refine j_iload_n d_Ci_and_34 1 rfl ?_
              exact zj_iret d_Ci_and_35 rfl (Nat.zero_le _) (Nat.zero_le _) h
          · have h := h2 k7
            refine j_iload_n d_Ci_and_28 2 rfl ?_
            exact zj_iret d_Ci_and_29 rfl (Nat.zero_le _) (Nat.zero_le _) h
      · have h := h2 k5
        refine j_iconst (v := zI 1) d_Ci_and_17 (by decide) ?_
        exact zj_iret d_Ci_and_18 rfl (Nat.zero_le _) (Nat.zero_le _) h
set_option maxHeartbeats 2000000 in
theorem b_Ci_and_52 {ω : q_W} {σ : q_H} {Q : q_R → q_H → Prop} {d mc ms : Nat} {y0 : Int}  (hE : q_E σ) (h : (Q (.inl (some (.int (zI y0)))) σ)) : J ω m_Ci_and (d + 1) mc ms 0 0 52 [] [.int (zI y0)] σ Q := by
  exact zj_iret d_Ci_and_52 rfl (Nat.zero_le _) (Nat.zero_le _) h
set_option maxHeartbeats 2000000 in
theorem b_Ci_gate_0 {ω : q_W} {σ : q_H} {Q : q_R → q_H → Prop} {d mc ms : Nat} {x1 : Int} {x2 : Int} {x3 : Int} {x4 : Int}  (hE : q_E σ) (h : (0 ≤ (zAnd (zXor ((((((x1 * 31) + x2) * (-1640531535)) + x3) * (-2048144789)) + (x4 * 668265263)) (zUshr ((((((x1 * 31) + x2) * (-1640531535)) + x3) * (-2048144789)) + (x4 * 668265263)) 15)) 8191) ∧ (zAnd (zXor ((((((x1 * 31) + x2) * (-1640531535)) + x3) * (-2048144789)) + (x4 * 668265263)) (zUshr ((((((x1 * 31) + x2) * (-1640531535)) + x3) * (-2048144789)) + (x4 * 668265263)) 15)) 8191) < 8192) ∧ (J ω m_Ci_gate d mc ms 0 0 48 [(0, .ref 50), (1, .int (zI x1)), (2, .int (zI x2)), (3, .int (zI x3)), (4, .int (zI x4)), (6, .int (zI (zAnd (zXor ((((((x1 * 31) + x2) * (-1640531535)) + x3) * (-2048144789)) + (x4 * 668265263)) (zUshr ((((((x1 * 31) + x2) * (-1640531535)) + x3) * (-2048144789)) + (x4 * 668265263)) 15)) 8191))), (7, .int (zI (z σ 57 (zAnd (zXor ((((((x1 * 31) + x2) * (-1640531535)) + x3) * (-2048144789)) + (x4 * 668265263)) (zUshr ((((((x1 * 31) + x2) * (-1640531535)) + x3) * (-2048144789)) + (x4 * 668265263)) 15)) 8191).toNat))), (8, .int (zI 0))] [] σ Q)) : J ω m_Ci_gate d mc ms 0 0 0 [(0, .ref 50), (1, .int (zI x1)), (2, .int (zI x2)), (3, .int (zI x3)), (4, .int (zI x4))] [] σ Q := by
  refine j_iload_n d_Ci_gate_0 1 rfl ?_
  refine j_bipush (v := zI 31) d_Ci_gate_1 (by decide) ?_
  refine zj_imul (x1 * 31) rfl d_Ci_gate_3 ?_
  refine j_iload_n d_Ci_gate_4 2 rfl ?_
  refine zj_iadd ((x1 * 31) + x2) rfl d_Ci_gate_5 ?_
  refine j_ldc (v := -1640531535) k_Ci_65 d_Ci_gate_6 ?_
  refine j_topE (v := zI (-1640531535)) (by decide) ?_
  refine zj_imul (((x1 * 31) + x2) * (-1640531535)) rfl d_Ci_gate_8 ?_
  refine j_iload_n d_Ci_gate_9 3 rfl ?_
  refine zj_iadd ((((x1 * 31) + x2) * (-1640531535)) + x3) rfl d_Ci_gate_10 ?_
  refine j_ldc (v := -2048144789) k_Ci_66 d_Ci_gate_11 ?_
  refine j_topE (v := zI (-2048144789)) (by decide) ?_
  refine zj_imul (((((x1 * 31) + x2) * (-1640531535)) + x3) * (-2048144789)) rfl d_Ci_gate_13 ?_
  refine j_iload d_Ci_gate_14 4 rfl ?_
  refine j_ldc (v := 668265263) k_Ci_67 d_Ci_gate_16 ?_
  refine j_topE (v := zI 668265263) (by decide) ?_
  refine zj_imul (x4 * 668265263) rfl d_Ci_gate_18 ?_
  refine zj_iadd ((((((x1 * 31) + x2) * (-1640531535)) + x3) * (-2048144789)) + (x4 * 668265263)) rfl d_Ci_gate_19 ?_
  refine j_istore (L' := [(5, .int (zI ((((((x1 * 31) + x2) * (-1640531535)) + x3) * (-2048144789)) + (x4 * 668265263)))), (0, .ref 50), (1, .int (zI x1)), (2, .int (zI x2)), (3, .int (zI x3)), (4, .int (zI x4))]) d_Ci_gate_20 (by decide) rfl ?_
  refine j_iload d_Ci_gate_22 0 rfl ?_
  refine j_iload d_Ci_gate_24 0 rfl ?_
  refine j_bipush (v := zI 15) d_Ci_gate_26 (by decide) ?_
  refine zj_iushr d_Ci_gate_28 ?_
  refine zj_ixor d_Ci_gate_29 ?_
  refine j_sipush (v := zI 8191) d_Ci_gate_30 (by decide) ?_
  refine zj_iand d_Ci_gate_33 ?_
  refine j_istore (L' := [(6, .int (zI (zAnd (zXor ((((((x1 * 31) + x2) * (-1640531535)) + x3) * (-2048144789)) + (x4 * 668265263)) (zUshr ((((((x1 * 31) + x2) * (-1640531535)) + x3) * (-2048144789)) + (x4 * 668265263)) 15)) 8191))), (5, .int (zI ((((((x1 * 31) + x2) * (-1640531535)) + x3) * (-2048144789)) + (x4 * 668265263)))), (0, .ref 50), (1, .int (zI x1)), (2, .int (zI x2)), (3, .int (zI x3)), (4, .int (zI x4))]) d_Ci_gate_34 (by decide) rfl ?_
  refine j_aload_n d_Ci_gate_36 2 rfl ?_
  refine j_getR 57 f_Ci_30 d_Ci_gate_37 (tg_50 hE) (q_okE hE (by decide)) (rf_50_6 hE) (by decide) ?_
  refine j_iload d_Ci_gate_40 0 rfl ?_
  obtain ⟨c1, h⟩ := h
  refine zj_iald (z σ 57 (zAnd (zXor ((((((x1 * 31) + x2) * (-1640531535)) + x3) * (-2048144789)) + (x4 * 668265263)) (zUshr ((((((x1 * 31) + x2) * (-1640531535)) + x3) * (-2048144789)) + (x4 * 668265263)) 15)) 8191).toNat) d_Ci_gate_42 (tg_57 hE) (q_okE hE (by decide)) c1 (by decide) (q_z _ _ _) ?_
  refine j_istore (L' := [(7, .int (zI (z σ 57 (zAnd (zXor ((((((x1 * 31) + x2) * (-1640531535)) + x3) * (-2048144789)) + (x4 * 668265263)) (zUshr ((((((x1 * 31) + x2) * (-1640531535)) + x3) * (-2048144789)) + (x4 * 668265263)) 15)) 8191).toNat))), (6, .int (zI (zAnd (zXor ((((((x1 * 31) + x2) * (-1640531535)) + x3) * (-2048144789)) + (x4 * 668265263)) (zUshr ((((((x1 * 31) + x2) * (-1640531535)) + x3) * (-2048144789)) + (x4 * 668265263)) 15)) 8191))), (5, .int (zI ((((((x1 * 31) + x2) * (-1640531535)) + x3) * (-2048144789)) + (x4 * 668265263)))), (0, .ref 50), (1, .int (zI x1)), (2, .int (zI x2)), (3, .int (zI x3)), (4, .int (zI x4))]) d_Ci_gate_43 (by decide) rfl ?_
  refine j_iconst (v := zI 0) d_Ci_gate_45 (by decide) ?_
  refine j_istore (L' := [(8, .int (zI 0)), (7, .int (zI (z σ 57 (zAnd (zXor ((((((x1 * 31) + x2) * (-1640531535)) + x3) * (-2048144789)) + (x4 * 668265263)) (zUshr ((((((x1 * 31) + x2) * (-1640531535)) + x3) * (-2048144789)) + (x4 * 668265263)) 15)) 8191).toNat))), (6, .int (zI (zAnd (zXor ((((((x1 * 31) + x2) * (-1640531535)) + x3) * (-2048144789)) + (x4 * 668265263)) (zUshr ((((((x1 * 31) + x2) * (-1640531535)) + x3) * (-2048144789)) + (x4 * 668265263)) 15)) 8191))), (5, .int (zI ((((((x1 * 31) + x2) * (-1640531535)) + x3) * (-2048144789)) + (x4 * 668265263)))), (0, .ref 50), (1, .int (zI x1)), (2, .int (zI x2)), (3, .int (zI x3)), (4, .int (zI x4))]) d_Ci_gate_46 (by decide) rfl ?_
  exact j_sel [4, 5, 6, 7, 8, 2, 1, 0] rfl h
set_option maxHeartbeats 2000000 in
theorem b_Ci_gate_48 {ω : q_W} {σ : q_H} {Q : q_R → q_H → Prop} {d mc ms : Nat} {x1 : Int} {x2 : Int} {x3 : Int} {x4 : Int} {x6 : Int} {x7 : Int} {x8 : Int}  (hE : q_E σ) (h : inR x8 ∧ q_imp (x8 ≥ 10240) ((J ω m_Ci_gate d mc ms 0 0 126 [(0, .ref 50), (1, .int (zI x1)), (2, .int (zI x2)), (3, .int (zI x3)), (4, .int (zI x4)), (6, .int (zI x6))] [] σ Q)) ∧ q_imp (x8 < 10240) (inR x7 ∧ q_imp (x7 = 0) ((J ω m_Ci_gate d mc ms 0 0 126 [(0, .ref 50), (1, .int (zI x1)), (2, .int (zI x2)), (3, .int (zI x3)), (4, .int (zI x4)), (6, .int (zI x6))] [] σ Q)) ∧ q_imp (x7 ≠ 0) ((0 ≤ x7 ∧ x7 < 10240) ∧ inR x1 ∧ q_imp ((z σ 51 x7.toNat) ≠ x1) ((J ω m_Ci_gate d mc ms 0 0 48 [(0, .ref 50), (1, .int (zI x1)), (2, .int (zI x2)), (3, .int (zI x3)), (4, .int (zI x4)), (6, .int (zI x6)), (7, .int (zI (z σ 56 x7.toNat))), (8, .int (zI (x8 + 1)))] [] σ Q)) ∧ q_imp ((z σ 51 x7.toNat) = x1) (inR x2 ∧ q_imp ((z σ 52 x7.toNat) ≠ x2) ((J ω m_Ci_gate d mc ms 0 0 48 [(0, .ref 50), (1, .int (zI x1)), (2, .int (zI x2)), (3, .int (zI x3)), (4, .int (zI x4)), (6, .int (zI x6)), (7, .int (zI (z σ 56 x7.toNat))), (8, .int (zI (x8 + 1)))] [] σ Q)) ∧ q_imp ((z σ 52 x7.toNat) = x2) (inR x3 ∧ q_imp ((z σ 53 x7.toNat) ≠ x3) ((J ω m_Ci_gate d mc ms 0 0 48 [(0, .ref 50), (1, .int (zI x1)), (2, .int (zI x2)), (3, .int (zI x3)), (4, .int (zI x4)), (6, .int (zI x6)), (7, .int (zI (z σ 56 x7.toNat))), (8, .int (zI (x8 + 1)))] [] σ Q)) ∧ q_imp ((z σ 53 x7.toNat) = x3) (inR x4 ∧ q_imp ((z σ 54 x7.toNat) ≠ x4) ((J ω m_Ci_gate d mc ms 0 0 48 [(0, .ref 50), (1, .int (zI x1)), (2, .int (zI x2)), (3, .int (zI x3)), (4, .int (zI x4)), (6, .int (zI x6)), (7, .int (zI (z σ 56 x7.toNat))), (8, .int (zI (x8 + 1)))] [] σ Q)) ∧ q_imp ((z σ 54 x7.toNat) = x4) ((Q (.inl (some (.int (zI (2 * x7))))) σ)))))))) : J ω m_Ci_gate d mc ms 0 0 48 [(0, .ref 50), (1, .int (zI x1)), (2, .int (zI x2)), (3, .int (zI x3)), (4, .int (zI x4)), (6, .int (zI x6)), (7, .int (zI x7)), (8, .int (zI x8))] [] σ Q := by
  refine j_iload d_Ci_gate_48 7 rfl ?_
  refine j_sipush (v := zI 10240) d_Ci_gate_50 (by decide) ?_
  obtain ⟨r2, h⟩ := h
  obtain ⟨h1, h2⟩ := h
  refine zj_icmp_ge 126 d_Ci_gate_53 (by decide) r2 ⟨by decide, by decide⟩ (fun k3 => ?_) (fun k3 => ?_)
  · have h := h1 k3
    exact j_sel [0, 1, 2, 3, 4, 5] rfl h
  · have h := h2 k3
    refine j_iload d_Ci_gate_56 6 rfl ?_
    obtain ⟨r4, h⟩ := h
    obtain ⟨h1, h2⟩ := h
    refine zj_if_eq 126 d_Ci_gate_58 (by decide) r4 (fun k5 => ?_) (fun k5 => ?_)
    · have h := h1 k5
      exact j_sel [0, 1, 2, 3, 4, 5] rfl h
    · have h := h2 k5
      refine j_aload_n d_Ci_gate_61 0 rfl ?_
      refine j_getR 51 f_Ci_11 d_Ci_gate_62 (tg_50 hE) (q_okE hE (by decide)) (rf_50_0 hE) (by decide) ?_
      refine j_iload d_Ci_gate_65 6 rfl ?_
      obtain ⟨c6, h⟩ := h
      refine zj_iald (z σ 51 x7.toNat) d_Ci_gate_67 (tg_51 hE) (q_okE hE (by decide)) c6 (by decide) (q_z _ _ _) ?_
      refine j_iload_n d_Ci_gate_68 1 rfl ?_
      obtain ⟨r7, h⟩ := h
      obtain ⟨h1, h2⟩ := h
      refine zj_icmp_ne 111 d_Ci_gate_69 (by decide) (z_R _ _ _) r7 (fun k8 => ?_) (fun k8 => ?_)
      · have h := h1 k8
        refine j_aload_n d_Ci_gate_111 0 rfl ?_
        refine j_getR 56 f_Ci_27 d_Ci_gate_112 (tg_50 hE) (q_okE hE (by decide)) (rf_50_5 hE) (by decide) ?_
        refine j_iload d_Ci_gate_115 6 rfl ?_
        refine zj_iald (z σ 56 x7.toNat) d_Ci_gate_117 (tg_56 hE) (q_okE hE (by decide)) c6 (by decide) (q_z _ _ _) ?_
        refine j_istore (L' := [(7, .int (zI (z σ 56 x7.toNat))), (0, .ref 50), (1, .int (zI x1)), (2, .int (zI x2)), (3, .int (zI x3)), (4, .int (zI x4)), (6, .int (zI x6)), (8, .int (zI x8))]) d_Ci_gate_118 (by decide) rfl ?_
        refine zj_iinc (L' := [(8, .int (zI (x8 + 1))), (7, .int (zI (z σ 56 x7.toNat))), (0, .ref 50), (1, .int (zI x1)), (2, .int (zI x2)), (3, .int (zI x3)), (4, .int (zI x4)), (6, .int (zI x6))]) (x8 + 1) d_Ci_gate_120 7 rfl (by omega) (by decide) rfl ?_
        refine j_goto 48 d_Ci_gate_123 (by decide) ?_
        exact j_sel [2, 3, 4, 5, 6, 7, 1, 0] rfl h
      · have h := h2 k8
        refine j_aload_n d_Ci_gate_72 0 rfl ?_
        refine j_getR 52 f_Ci_15 d_Ci_gate_73 (tg_50 hE) (q_okE hE (by decide)) (rf_50_1 hE) (by decide) ?_
        refine j_iload d_Ci_gate_76 6 rfl ?_
        refine zj_iald (z σ 52 x7.toNat) d_Ci_gate_78 (tg_52 hE) (q_okE hE (by decide)) c6 (by decide) (q_z _ _ _) ?_
        refine j_iload_n d_Ci_gate_79 2 rfl ?_
        obtain ⟨r9, h⟩ := h
        obtain ⟨h1, h2⟩ := h
        refine zj_icmp_ne 111 d_Ci_gate_80 (by decide) (z_R _ _ _) r9 (fun k10 => ?_) (fun k10 => ?_)
        · have h := h1 k10
          refine j_aload_n d_Ci_gate_111 0 rfl ?_
          refine j_getR 56 f_Ci_27 d_Ci_gate_112 (tg_50 hE) (q_okE hE (by decide)) (rf_50_5 hE) (by decide) ?_
          refine j_iload d_Ci_gate_115 6 rfl ?_
          refine zj_iald (z σ 56 x7.toNat) d_Ci_gate_117 (tg_56 hE) (q_okE hE (by decide)) c6 (by decide) (q_z _ _ _) ?_
          refine j_istore (L' := [(7, .int (zI (z σ 56 x7.toNat))), (0, .ref 50), (1, .int (zI x1)), (2, .int (zI x2)), (3, .int (zI x3)), (4, .int (zI x4)), (6, .int (zI x6)), (8, .int (zI x8))]) d_Ci_gate_118 (by decide) rfl ?_
          refine zj_iinc (L' := [(8, .int (zI (x8 + 1))), (7, .int (zI (z σ 56 x7.toNat))), (0, .ref 50), (1, .int (zI x1)), (2, .int (zI x2)), (3, .int (zI x3)), (4, .int (zI x4)), (6, .int (zI x6))]) (x8 + 1) d_Ci_gate_120 7 rfl (by omega) (by decide) rfl ?_
          refine j_goto 48 d_Ci_gate_123 (by decide) ?_
          exact j_sel [2, 3, 4, 5, 6, 7, 1, 0] rfl h
        · have h := h2 k10
          refine j_aload_n d_Ci_gate_83 0 rfl ?_
          refine j_getR 53 f_Ci_18 d_Ci_gate_84 (tg_50 hE) (q_okE hE (by decide)) (rf_50_2 hE) (by decide) ?_
          refine j_iload d_Ci_gate_87 6 rfl ?_
          refine zj_iald (z σ 53 x7.toNat) d_Ci_gate_89 (tg_53 hE) (q_okE hE (by decide)) c6 (by decide) (q_z _ _ _) ?_
          refine j_iload_n d_Ci_gate_90 3 rfl ?_
          obtain ⟨r11, h⟩ := h
          obtain ⟨h1, h2⟩ := h
          refine zj_icmp_ne 111 d_Ci_gate_91 (by decide) (z_R _ _ _) r11 (fun k12 => ?_) (fun k12 => ?_)
          · have h := h1 k12
            refine j_aload_n d_Ci_gate_111 0 rfl ?_
            refine j_getR 56 f_Ci_27 d_Ci_gate_112 (tg_50 hE) (q_okE hE (by decide)) (rf_50_5 hE) (by decide) ?_
            refine j_iload d_Ci_gate_115 6 rfl ?_
            refine zj_iald (z σ 56 x7.toNat) d_Ci_gate_117 (tg_56 hE) (q_okE hE (by decide)) c6 (by decide) (q_z _ _ _) ?_
            refine j_istore (L' := [(7, .int (zI (z σ 56 x7.toNat))), (0, .ref 50), (1, .int (zI x1)), (2, .int (zI x2)), (3, .int (zI x3)), (4, .int (zI x4)), (6, .int (zI x6)), (8, .int (zI x8))]) d_Ci_gate_118 (by decide) rfl ?_
            refine zj_iinc (L' := [(8, .int (zI (x8 + 1))), (7, .int (zI (z σ 56 x7.toNat))), (0, .ref 50), (1, .int (zI x1)), (2, .int (zI x2)), (3, .int (zI x3)), (4, .int (zI x4)), (6, .int (zI x6))]) (x8 + 1) d_Ci_gate_120 7 rfl (by omega) (by decide) rfl ?_
            refine j_goto 48 d_Ci_gate_123 (by decide) ?_
            exact j_sel [2, 3, 4, 5, 6, 7, 1, 0] rfl h
          · have h := h2 k12
            refine j_aload_n d_Ci_gate_94 0 rfl ?_
            refine j_getR 54 f_Ci_21 d_Ci_gate_95 (tg_50 hE) (q_okE hE (by decide)) (rf_50_3 hE) (by decide) ?_
            refine j_iload d_Ci_gate_98 6 rfl ?_
            refine zj_iald (z σ 54 x7.toNat) d_Ci_gate_100 (tg_54 hE) (q_okE hE (by decide)) c6 (by decide) (q_z _ _ _) ?_
            refine j_iload d_Ci_gate_101 4 rfl ?_
            obtain ⟨r13, h⟩ := h
            obtain ⟨h1, h2⟩ := h
            refine zj_icmp_ne 111 d_Ci_gate_103 (by decide) (z_R _ _ _) r13 (fun k14 => ?_) (fun k14 => ?_)
            · have h := h1 k14
              refine j_aload_n d_Ci_gate_111 0 rfl ?_
              refine j_getR 56 f_Ci_27 d_Ci_gate_112 (tg_50 hE) (q_okE hE (by decide)) (rf_50_5 hE) (by decide) ?_
              refine j_iload d_Ci_gate_115 6 rfl ?_
              refine zj_iald (z σ 56 x7.toNat) d_Ci_gate_117 (tg_56 hE) (q_okE hE (by decide)) c6 (by decide) (q_z _ _ _) ?_
              refine j_istore (L' := [(7, .int (zI (z σ 56 x7.toNat))), (0, .ref 50), (1, .int (zI x1)), (2, .int (zI x2)), (3, .int (zI x3)), (4, .int (zI x4)), (6, .int (zI x6)), (8, .int (zI x8))]) d_Ci_gate_118 (by decide) rfl ?_
              refine zj_iinc (L' := [(8, .int (zI (x8 + 1))), (7, .int (zI (z σ 56 x7.toNat))), (0, .ref 50), (1, .int (zI x1)), (2, .int (zI x2)), (3, .int (zI x3)), (4, .int (zI x4)), (6, .int (zI x6))]) (x8 + 1) d_Ci_gate_120 7 rfl (by omega) (by decide) rfl ?_
              refine j_goto 48 d_Ci_gate_123 (by decide) ?_
              exact j_sel [2, 3, 4, 5, 6, 7, 1, 0] rfl h
            · have h := h2 k14
              refine j_iconst (v := zI 2) d_Ci_gate_106 (by decide) ?_
              refine j_iload d_Ci_gate_107 6 rfl ?_
              refine zj_imul (2 * x7) rfl d_Ci_gate_109 ?_
              exact zj_iret d_Ci_gate_110 rfl (Nat.zero_le _) (Nat.zero_le _) h
set_option maxHeartbeats 2000000 in
theorem b_Ci_gate_126 {ω : q_W} {σ : q_H} {Q : q_R → q_H → Prop} {d mc ms : Nat} {x1 : Int} {x2 : Int} {x3 : Int} {x4 : Int} {x6 : Int}  (hE : q_E σ) (h : q_imp ((z σ 50 7) < 10240) ((0 ≤ (z σ 50 7) ∧ (z σ 50 7) < 10240) ∧ (0 ≤ x6 ∧ x6 < 8192) ∧ (Q (.inl (some (.int (zI (2 * (z σ 50 7)))))) (zs (zs (zs (zs (zs (zs (zs (zs σ 51 (z σ 50 7).toNat x1) 52 (z σ 50 7).toNat x2) 53 (z σ 50 7).toNat x3) 54 (z σ 50 7).toNat x4) 55 (z σ 50 7).toNat x6) 56 (z σ 50 7).toNat (z σ 57 x6.toNat)) 57 x6.toNat (z σ 50 7)) 50 7 ((z σ 50 7) + 1)))) ∧ q_imp ((z σ 50 7) ≥ 10240) ((Q (.inl (some (.int (zI 1)))) (zs σ 50 8 ((z σ 50 8) + 1))))) : J ω m_Ci_gate d mc ms 0 0 126 [(0, .ref 50), (1, .int (zI x1)), (2, .int (zI x2)), (3, .int (zI x3)), (4, .int (zI x4)), (6, .int (zI x6))] [] σ Q := by
  refine j_aload_n d_Ci_gate_126 0 rfl ?_
  refine zj_getI (z σ 50 7) f_Ci_33 d_Ci_gate_127 (tg_50 hE) (q_okE hE (by decide)) (q_z _ _ _) ?_
  refine j_sipush (v := zI 10240) d_Ci_gate_130 (by decide) ?_
  obtain ⟨h1, h2⟩ := h
  refine zj_icmp_lt 148 d_Ci_gate_133 (by decide) (z_R _ _ _) ⟨by decide, by decide⟩ (fun k15 => ?_) (fun k15 => ?_)
  · have h := h1 k15
    refine j_aload_n d_Ci_gate_148 0 rfl ?_
    refine j_getR 51 f_Ci_11 d_Ci_gate_149 (tg_50 hE) (q_okE hE (by decide)) (rf_50_0 hE) (by decide) ?_
    refine j_aload_n d_Ci_gate_152 0 rfl ?_
    refine zj_getI (z σ 50 7) f_Ci_33 d_Ci_gate_153 (tg_50 hE) (q_okE hE (by decide)) (q_z _ _ _) ?_
    refine j_iload_n d_Ci_gate_156 1 rfl ?_
    obtain ⟨c16, h⟩ := h
    refine zj_iast d_Ci_gate_157 (tg_51 hE) (q_okE hE (by decide)) c16 (by decide) ?_
    refine j_aload_n d_Ci_gate_158 0 rfl ?_
    refine j_getR 52 f_Ci_15 d_Ci_gate_159 (tg_50 (zs_E hE)) (q_okE (zs_E hE) (by decide)) (rf_50_1 (zs_E hE)) (by decide) ?_
    refine j_aload_n d_Ci_gate_162 0 rfl ?_
    refine zj_getI (z σ 50 7) f_Ci_33 d_Ci_gate_163 (tg_50 (zs_E hE)) (q_okE (zs_E hE) (by decide)) (Eq.trans (qs_o (by decide)) (q_z _ _ _)) ?_
    refine j_iload_n d_Ci_gate_166 2 rfl ?_
    refine zj_iast d_Ci_gate_167 (tg_52 (zs_E hE)) (q_okE (zs_E hE) (by decide)) c16 (by decide) ?_
    refine j_aload_n d_Ci_gate_168 0 rfl ?_
    refine j_getR 53 f_Ci_18 d_Ci_gate_169 (tg_50 (zs_E (zs_E hE))) (q_okE (zs_E (zs_E hE)) (by decide)) (rf_50_2 (zs_E (zs_E hE))) (by decide) ?_
    refine j_aload_n d_Ci_gate_172 0 rfl ?_
    refine zj_getI (z σ 50 7) f_Ci_33 d_Ci_gate_173 (tg_50 (zs_E (zs_E hE))) (q_okE (zs_E (zs_E hE)) (by decide)) (Eq.trans (qs_o (by decide)) (Eq.trans (qs_o (by decide)) (q_z _ _ _))) ?_
    refine j_iload_n d_Ci_gate_176 3 rfl ?_
    refine zj_iast d_Ci_gate_177 (tg_53 (zs_E (zs_E hE))) (q_okE (zs_E (zs_E hE)) (by decide)) c16 (by decide) ?_
    refine j_aload_n d_Ci_gate_178 0 rfl ?_
    refine j_getR 54 f_Ci_21 d_Ci_gate_179 (tg_50 (zs_E (zs_E (zs_E hE)))) (q_okE (zs_E (zs_E (zs_E hE))) (by decide)) (rf_50_3 (zs_E (zs_E (zs_E hE)))) (by decide) ?_
    refine j_aload_n d_Ci_gate_182 0 rfl ?_
    refine zj_getI (z σ 50 7) f_Ci_33 d_Ci_gate_183 (tg_50 (zs_E (zs_E (zs_E hE)))) (q_okE (zs_E (zs_E (zs_E hE))) (by decide)) (Eq.trans (qs_o (by decide)) (Eq.trans (qs_o (by decide)) (Eq.trans (qs_o (by decide)) (q_z _ _ _)))) ?_
    refine j_iload d_Ci_gate_186 4 rfl ?_
    refine zj_iast d_Ci_gate_188 (tg_54 (zs_E (zs_E (zs_E hE)))) (q_okE (zs_E (zs_E (zs_E hE))) (by decide)) c16 (by decide) ?_
    refine j_aload_n d_Ci_gate_189 0 rfl ?_
    refine j_getR 55 f_Ci_24 d_Ci_gate_190 (tg_50 (zs_E (zs_E (zs_E (zs_E hE))))) (q_okE (zs_E (zs_E (zs_E (zs_E hE)))) (by decide)) (rf_50_4 (zs_E (zs_E (zs_E (zs_E hE))))) (by decide) ?_
    refine j_aload_n d_Ci_gate_193 0 rfl ?_
    refine zj_getI (z σ 50 7) f_Ci_33 d_Ci_gate_194 (tg_50 (zs_E (zs_E (zs_E (zs_E hE))))) (q_okE (zs_E (zs_E (zs_E (zs_E hE)))) (by decide)) (Eq.trans (qs_o (by decide)) (Eq.trans (qs_o (by decide)) (Eq.trans (qs_o (by decide)) (Eq.trans (qs_o (by decide)) (q_z _ _ _))))) ?_
    refine j_iload d_Ci_gate_197 5 rfl ?_
    refine zj_iast d_Ci_gate_199 (tg_55 (zs_E (zs_E (zs_E (zs_E hE))))) (q_okE (zs_E (zs_E (zs_E (zs_E hE)))) (by decide)) c16 (by decide) ?_
    refine j_aload_n d_Ci_gate_200 0 rfl ?_
    refine j_getR 56 f_Ci_27 d_Ci_gate_201 (tg_50 (zs_E (zs_E (zs_E (zs_E (zs_E hE)))))) (q_okE (zs_E (zs_E (zs_E (zs_E (zs_E hE))))) (by decide)) (rf_50_5 (zs_E (zs_E (zs_E (zs_E (zs_E hE)))))) (by decide) ?_
    refine j_aload_n d_Ci_gate_204 0 rfl ?_
    refine zj_getI (z σ 50 7) f_Ci_33 d_Ci_gate_205 (tg_50 (zs_E (zs_E (zs_E (zs_E (zs_E hE)))))) (q_okE (zs_E (zs_E (zs_E (zs_E (zs_E hE))))) (by decide)) (Eq.trans (qs_o (by decide)) (Eq.trans (qs_o (by decide)) (Eq.trans (qs_o (by decide)) (Eq.trans (qs_o (by decide)) (Eq.trans (qs_o (by decide)) (q_z _ _ _)))))) ?_
    refine j_aload_n d_Ci_gate_208 0 rfl ?_
    refine j_getR 57 f_Ci_30 d_Ci_gate_209 (tg_50 (zs_E (zs_E (zs_E (zs_E (zs_E hE)))))) (q_okE (zs_E (zs_E (zs_E (zs_E (zs_E hE))))) (by decide)) (rf_50_6 (zs_E (zs_E (zs_E (zs_E (zs_E hE)))))) (by decide) ?_
    refine j_iload d_Ci_gate_212 5 rfl ?_
    obtain ⟨c17, h⟩ := h
    refine zj_iald (z σ 57 x6.toNat) d_Ci_gate_214 (tg_57 (zs_E (zs_E (zs_E (zs_E (zs_E hE)))))) (q_okE (zs_E (zs_E (zs_E (zs_E (zs_E hE))))) (by decide)) c17 (by decide) (Eq.trans (qs_o (by decide)) (Eq.trans (qs_o (by decide)) (Eq.trans (qs_o (by decide)) (Eq.trans (qs_o (by decide)) (Eq.trans (qs_o (by decide)) (q_z _ _ _)))))) ?_
    refine zj_iast d_Ci_gate_215 (tg_56 (zs_E (zs_E (zs_E (zs_E (zs_E hE)))))) (q_okE (zs_E (zs_E (zs_E (zs_E (zs_E hE))))) (by decide)) c16 (by decide) ?_
    refine j_aload_n d_Ci_gate_216 0 rfl ?_
    refine j_getR 57 f_Ci_30 d_Ci_gate_217 (tg_50 (zs_E (zs_E (zs_E (zs_E (zs_E (zs_E hE))))))) (q_okE (zs_E (zs_E (zs_E (zs_E (zs_E (zs_E hE)))))) (by decide)) (rf_50_6 (zs_E (zs_E (zs_E (zs_E (zs_E (zs_E hE))))))) (by decide) ?_
    refine j_iload d_Ci_gate_220 5 rfl ?_
    refine j_aload_n d_Ci_gate_222 0 rfl ?_
    refine zj_getI (z σ 50 7) f_Ci_33 d_Ci_gate_223 (tg_50 (zs_E (zs_E (zs_E (zs_E (zs_E (zs_E hE))))))) (q_okE (zs_E (zs_E (zs_E (zs_E (zs_E (zs_E hE)))))) (by decide)) (Eq.trans (qs_o (by decide)) (Eq.trans (qs_o (by decide)) (Eq.trans (qs_o (by decide)) (Eq.trans (qs_o (by decide)) (Eq.trans (qs_o (by decide)) (Eq.trans (qs_o (by decide)) (q_z _ _ _))))))) ?_
    refine zj_iast d_Ci_gate_226 (tg_57 (zs_E (zs_E (zs_E (zs_E (zs_E (zs_E hE))))))) (q_okE (zs_E (zs_E (zs_E (zs_E (zs_E (zs_E hE)))))) (by decide)) c17 (by decide) ?_
    refine j_aload_n d_Ci_gate_227 0 rfl ?_
    refine j_dup d_Ci_gate_228 rfl ?_
    refine zj_getI (z σ 50 7) f_Ci_33 d_Ci_gate_229 (tg_50 (zs_E (zs_E (zs_E (zs_E (zs_E (zs_E (zs_E hE)))))))) (q_okE (zs_E (zs_E (zs_E (zs_E (zs_E (zs_E (zs_E hE))))))) (by decide)) (Eq.trans (qs_o (by decide)) (Eq.trans (qs_o (by decide)) (Eq.trans (qs_o (by decide)) (Eq.trans (qs_o (by decide)) (Eq.trans (qs_o (by decide)) (Eq.trans (qs_o (by decide)) (Eq.trans (qs_o (by decide)) (q_z _ _ _)))))))) ?_
    refine j_iconst (v := zI 1) d_Ci_gate_232 (by decide) ?_
    refine zj_iadd ((z σ 50 7) + 1) (by omega) d_Ci_gate_233 ?_
    refine zj_putI (g_Ci_33 _) d_Ci_gate_234 (tg_50 (zs_E (zs_E (zs_E (zs_E (zs_E (zs_E (zs_E hE)))))))) (q_okE (zs_E (zs_E (zs_E (zs_E (zs_E (zs_E (zs_E hE))))))) (by decide)) ?_
    refine j_iconst (v := zI 2) d_Ci_gate_237 (by decide) ?_
    refine j_aload_n d_Ci_gate_238 0 rfl ?_
    refine zj_getI ((z σ 50 7) + 1) f_Ci_33 d_Ci_gate_239 (tg_50 (zs_E (zs_E (zs_E (zs_E (zs_E (zs_E (zs_E (zs_E hE))))))))) (q_okE (zs_E (zs_E (zs_E (zs_E (zs_E (zs_E (zs_E (zs_E hE)))))))) (by decide)) (qs_s) ?_
    refine j_iconst (v := zI 1) d_Ci_gate_242 (by decide) ?_
    refine zj_isub (z σ 50 7) (by omega) d_Ci_gate_243 ?_
    refine zj_imul (2 * (z σ 50 7)) rfl d_Ci_gate_244 ?_
    exact zj_iret d_Ci_gate_245 rfl (Nat.zero_le _) (Nat.zero_le _) h
  · have h := h2 k15
    refine j_aload_n d_Ci_gate_136 0 rfl ?_
    refine j_dup d_Ci_gate_137 rfl ?_
    refine zj_getI (z σ 50 8) f_Ci_43 d_Ci_gate_138 (tg_50 hE) (q_okE hE (by decide)) (q_z _ _ _) ?_
    refine j_iconst (v := zI 1) d_Ci_gate_141 (by decide) ?_
    refine zj_iadd ((z σ 50 8) + 1) (by omega) d_Ci_gate_142 ?_
    refine zj_putI (g_Ci_43 _) d_Ci_gate_143 (tg_50 hE) (q_okE hE (by decide)) ?_
    refine j_iconst (v := zI 1) d_Ci_gate_146 (by decide) ?_
    exact zj_iret d_Ci_gate_147 rfl (Nat.zero_le _) (Nat.zero_le _) h
set_option maxHeartbeats 2000000 in
theorem b_Ci_pick_0 {ω : q_W} {σ : q_H} {Q : q_R → q_H → Prop} {d mc ms : Nat} {x1 : Int} {x2 : Int} {x3 : Int}  (hE : q_E σ) (h : inR x1 ∧ q_imp (x1 = 0) ((Q (.inl (some (.int (zI x2)))) σ)) ∧ q_imp (x1 ≠ 0) (inR x2 ∧ inR x3 ∧ q_imp (x2 ≠ x3) (q_imp (x1 ≠ 1) (q_imp (x2 ≠ (zXor x3 1)) (q_imp (x2 = 0) ((J ω m_Ci_pick (d + 1) mc ms 0 0 41 [(0, .ref 50), (1, .int (zI x1)), (3, .int (zI x3))] [] σ Q)) ∧ q_imp (x2 ≠ 0) (q_imp (x2 ≠ x1) (q_imp (x2 = 1) ((J ω m_Ci_and d 0 0 0 0 0 [(0, .ref 50), (1, .int (zI (zXor x1 1))), (2, .int (zI x3))] [] σ (q_ki (fun v τ => J ω m_Ci_pick (d + 1) mc ms 0 0 74 [] [.int (zI v)] τ Q)))) ∧ q_imp (x2 ≠ 1) (q_imp (x2 ≠ (zXor x1 1)) (q_imp (x3 = 0) ((J ω m_Ci_pick (d + 1) mc ms 0 0 86 [(0, .ref 50), (1, .int (zI x1)), (2, .int (zI x2))] [] σ Q)) ∧ q_imp (x3 ≠ 0) (q_imp (x3 ≠ (zXor x1 1)) (q_imp (x3 = 1) ((J ω m_Ci_and d 0 0 0 0 0 [(0, .ref 50), (1, .int (zI x1)), (2, .int (zI x2))] [] σ (q_ki (fun v τ => J ω m_Ci_pick (d + 1) mc ms 0 0 113 [] [.int (zI v)] τ Q)))) ∧ q_imp (x3 ≠ 1) (q_imp (x3 ≠ x1) (q_imp ((zAnd x1 1) ≠ 0) ((J ω m_Ci_pick (d + 1) mc ms 0 0 125 [(0, .ref 50), (1, .int (zI x1)), (2, .int (zI x2)), (3, .int (zI x3))] [.int (zI x3)] σ Q)) ∧ q_imp ((zAnd x1 1) = 0) ((J ω m_Ci_pick (d + 1) mc ms 0 0 125 [(0, .ref 50), (1, .int (zI x1)), (2, .int (zI x2)), (3, .int (zI x3))] [.int (zI x2)] σ Q))) ∧ q_imp (x3 = x1) ((J ω m_Ci_and d 0 0 0 0 0 [(0, .ref 50), (1, .int (zI x1)), (2, .int (zI x2))] [] σ (q_ki (fun v τ => J ω m_Ci_pick (d + 1) mc ms 0 0 113 [] [.int (zI v)] τ Q)))))) ∧ q_imp (x3 = (zXor x1 1)) ((J ω m_Ci_pick (d + 1) mc ms 0 0 86 [(0, .ref 50), (1, .int (zI x1)), (2, .int (zI x2))] [] σ Q)))) ∧ q_imp (x2 = (zXor x1 1)) ((J ω m_Ci_and d 0 0 0 0 0 [(0, .ref 50), (1, .int (zI (zXor x1 1))), (2, .int (zI x3))] [] σ (q_ki (fun v τ => J ω m_Ci_pick (d + 1) mc ms 0 0 74 [] [.int (zI v)] τ Q)))))) ∧ q_imp (x2 = x1) ((J ω m_Ci_pick (d + 1) mc ms 0 0 41 [(0, .ref 50), (1, .int (zI x1)), (3, .int (zI x3))] [] σ Q)))) ∧ q_imp (x2 = (zXor x3 1)) ((J ω m_Ci_xor d 0 0 0 0 0 [(0, .ref 50), (1, .int (zI x1)), (2, .int (zI x3))] [] σ (q_ki (fun v τ => J ω m_Ci_pick (d + 1) mc ms 0 0 31 [] [.int (zI v)] τ Q))))) ∧ q_imp (x1 = 1) ((Q (.inl (some (.int (zI x3)))) σ))) ∧ q_imp (x2 = x3) ((Q (.inl (some (.int (zI x2)))) σ)))) : J ω m_Ci_pick (d + 1) mc ms 0 0 0 [(0, .ref 50), (1, .int (zI x1)), (2, .int (zI x2)), (3, .int (zI x3))] [] σ Q := by
  refine j_iload_n d_Ci_pick_0 1 rfl ?_
  obtain ⟨r1, h⟩ := h
  obtain ⟨h1, h2⟩ := h
  refine zj_if_eq 9 d_Ci_pick_1 (by decide) r1 (fun k2 => ?_) (fun k2 => ?_)
  · have h := h1 k2
    refine j_iload_n d_Ci_pick_9 2 rfl ?_
    exact zj_iret d_Ci_pick_10 rfl (Nat.zero_le _) (Nat.zero_le _) h
  · have h := h2 k2
    refine j_iload_n d_Ci_pick_4 2 rfl ?_
    refine j_iload_n d_Ci_pick_5 3 rfl ?_
    obtain ⟨r3, h⟩ := h
    obtain ⟨r4, h⟩ := h
    obtain ⟨h1, h2⟩ := h
    refine zj_icmp_ne 11 d_Ci_pick_6 (by decide) r3 r4 (fun k5 => ?_) (fun k5 => ?_)
    · have h := h1 k5
      refine j_iload_n d_Ci_pick_11 1 rfl ?_
      refine j_iconst (v := zI 1) d_Ci_pick_12 (by decide) ?_
      obtain ⟨h1, h2⟩ := h
      refine zj_icmp_ne 18 d_Ci_pick_13 (by decide) r1 ⟨by decide, by decide⟩ (fun k6 => ?_) (fun k6 => ?_)
      · have h := h1 k6
        refine j_iload_n d_Ci_pick_18 2 rfl ?_
        refine j_iload_n d_Ci_pick_19 3 rfl ?_
        refine j_iconst (v := zI 1) d_Ci_pick_20 (by decide) ?_
        refine zj_ixor d_Ci_pick_21 ?_
        obtain ⟨h1, h2⟩ := h
        refine zj_icmp_ne 32 d_Ci_pick_22 (by decide) r3 (inR_of _) (fun k7 => ?_) (fun k7 => ?_)
        · have h := h1 k7
          refine j_iload_n d_Ci_pick_32 2 rfl ?_
          obtain ⟨h1, h2⟩ := h
          refine zj_if_eq 41 d_Ci_pick_33 (by decide) r3 (fun k8 => ?_) (fun k8 => ?_)
          · have h := h1 k8
            exact j_sel [0, 1, 3] rfl h
          · have h := h2 k8
            refine j_iload_n d_Ci_pick_36 2 rfl ?_
            refine j_iload_n d_Ci_pick_37 1 rfl ?_
            obtain ⟨h1, h2⟩ := h
            refine zj_icmp_ne 54 d_Ci_pick_38 (by decide) r3 r1 (fun k9 => ?_) (fun k9 => ?_)
            · have h := h1 k9
              refine j_iload_n d_Ci_pick_54 2 rfl ?_
              refine j_iconst (v := zI 1) d_Ci_pick_55 (by decide) ?_
              obtain ⟨h1, h2⟩ := h
              refine zj_icmp_eq 66 d_Ci_pick_56 (by decide) r3 ⟨by decide, by decide⟩ (fun k10 => ?_) (fun k10 => ?_)
              · have h := h1 k10
                refine j_aload_n d_Ci_pick_66 0 rfl ?_
                refine j_iload_n d_Ci_pick_67 1 rfl ?_
                refine j_iconst (v := zI 1) d_Ci_pick_68 (by decide) ?_
                refine zj_ixor d_Ci_pick_69 ?_
                refine j_iload_n d_Ci_pick_70 3 rfl ?_
                refine j_callV m_Ci_and [.int (zI (zXor x1 1)), .int (zI x3)] [] d 0 0 cV_Ci_59 d_Ci_pick_71 rfl rfl (tg_50 hE) (q_okE hE (by decide)) (Nat.le_of_ble_eq_true rfl) (Nat.le_refl _) (Nat.le_of_ble_eq_true rfl) (Nat.zero_le _) (Nat.zero_le _) h (fun v τ h => ?_) (fun x τ h => ?_)
                · obtain ⟨v, hv, e1, h⟩ := h; cases e1; exact j_sel [] rfl h
                · obtain ⟨v, hv, e1, h⟩ := h; cases e1
              · have h := h2 k10
                refine j_iload_n d_Ci_pick_59 2 rfl ?_
                refine j_iload_n d_Ci_pick_60 1 rfl ?_
                refine j_iconst (v := zI 1) d_Ci_pick_61 (by decide) ?_
                refine zj_ixor d_Ci_pick_62 ?_
                obtain ⟨h1, h2⟩ := h
                refine zj_icmp_ne 75 d_Ci_pick_63 (by decide) r3 (inR_of _) (fun k11 => ?_) (fun k11 => ?_)
                · have h := h1 k11
                  refine j_iload_n d_Ci_pick_75 3 rfl ?_
                  obtain ⟨h1, h2⟩ := h
                  refine zj_if_eq 86 d_Ci_pick_76 (by decide) r4 (fun k12 => ?_) (fun k12 => ?_)
                  · have h := h1 k12
                    exact j_sel [0, 1, 2] rfl h
                  · have h := h2 k12
                    refine j_iload_n d_Ci_pick_79 3 rfl ?_
                    refine j_iload_n d_Ci_pick_80 1 rfl ?_
                    refine j_iconst (v := zI 1) d_Ci_pick_81 (by decide) ?_
                    refine zj_ixor d_Ci_pick_82 ?_
                    obtain ⟨h1, h2⟩ := h
                    refine zj_icmp_ne 97 d_Ci_pick_83 (by decide) r4 (inR_of _) (fun k13 => ?_) (fun k13 => ?_)
                    · have h := h1 k13
                      refine j_iload_n d_Ci_pick_97 3 rfl ?_
                      refine j_iconst (v := zI 1) d_Ci_pick_98 (by decide) ?_
                      obtain ⟨h1, h2⟩ := h
                      refine zj_icmp_eq 107 d_Ci_pick_99 (by decide) r4 ⟨by decide, by decide⟩ (fun k14 => ?_) (fun k14 => ?_)
                      · have h := h1 k14
                        refine j_aload_n d_Ci_pick_107 0 rfl ?_
                        refine j_iload_n d_Ci_pick_108 1 rfl ?_
                        refine j_iload_n d_Ci_pick_109 2 rfl ?_
                        refine j_callV m_Ci_and [.int (zI x1), .int (zI x2)] [] d 0 0 cV_Ci_59 d_Ci_pick_110 rfl rfl (tg_50 hE) (q_okE hE (by decide)) (Nat.le_of_ble_eq_true rfl) (Nat.le_refl _) (Nat.le_of_ble_eq_true rfl) (Nat.zero_le _) (Nat.zero_le _) h (fun v τ h => ?_) (fun x τ h => ?_)
                        · obtain ⟨v, hv, e1, h⟩ := h; cases e1; exact j_sel [] rfl h
                        · obtain ⟨v, hv, e1, h⟩ := h; cases e1
                      · have h := h2 k14
                        refine j_iload_n d_Ci_pick_102 3 rfl ?_
                        refine j_iload_n d_Ci_pick_103 1 rfl ?_
                        obtain ⟨h1, h2⟩ := h
                        refine zj_icmp_ne 114 d_Ci_pick_104 (by decide) r4 r1 (fun k15 => ?_) (fun k15 => ?_)
                        · have h := h1 k15
                          refine j_iload_n d_Ci_pick_114 1 rfl ?_
                          refine j_iconst (v := zI 1) d_Ci_pick_115 (by decide) ?_
                          refine zj_iand d_Ci_pick_116 ?_
                          obtain ⟨h1, h2⟩ := h
                          refine zj_if_ne 124 d_Ci_pick_117 (by decide) (inR_of _) (fun k16 => ?_) (fun k16 => ?_)
                          · have h := h1 k16
                            refine j_iload_n d_Ci_pick_124 3 rfl ?_
                            exact j_sel [0, 1, 2, 3] rfl h
                          · have h := h2 k16
                            refine j_iload_n d_Ci_pick_120 2 rfl ?_
                            refine j_goto 125 d_Ci_pick_121 (by decide) ?_
                            exact j_sel [0, 1, 2, 3] rfl h
                        · have h := h2 k15
                          refine j_aload_n d_Ci_pick_107 0 rfl ?_
                          refine j_iload_n d_Ci_pick_108 1 rfl ?_
                          refine j_iload_n d_Ci_pick_109 2 rfl ?_
                          refine j_callV m_Ci_and [.int (zI x1), .int (zI x2)] [] d 0 0 cV_Ci_59 d_Ci_pick_110 rfl rfl (tg_50 hE) (q_okE hE (by decide)) (Nat.le_of_ble_eq_true rfl) (Nat.le_refl _) (Nat.le_of_ble_eq_true rfl) (Nat.zero_le _) (Nat.zero_le _) h (fun v τ h => ?_) (fun x τ h => ?_)
                          · obtain ⟨v, hv, e1, h⟩ := h; cases e1; exact j_sel [] rfl h
                          · obtain ⟨v, hv, e1, h⟩ := h; cases e1
                    · have h := h2 k13
                      exact j_sel [0, 1, 2] rfl h
                · have h := h2 k11
                  refine j_aload_n d_Ci_pick_66 0 rfl ?_
                  refine j_iload_n d_Ci_pick_67 1 rfl ?_
                  refine j_iconst (v := zI 1) d_Ci_pick_68 (by decide) ?_
                  refine zj_ixor d_Ci_pick_69 ?_
                  refine j_iload_n d_Ci_pick_70 3 rfl ?_
                  refine j_callV m_Ci_and [.int (zI (zXor x1 1)), .int (zI x3)] [] d 0 0 cV_Ci_59 d_Ci_pick_71 rfl rfl (tg_50 hE) (q_okE hE (by decide)) (Nat.le_of_ble_eq_true rfl) (Nat.le_refl _) (Nat.le_of_ble_eq_true rfl) (Nat.zero_le _) (Nat.zero_le _) h (fun v τ h => ?_) (fun x τ h => ?_)
                  · obtain ⟨v, hv, e1, h⟩ := h; cases e1; exact j_sel [] rfl h
                  · obtain ⟨v, hv, e1, h⟩ := h; cases e1
            · have h := h2 k9
              exact j_sel [0, 1, 3] rfl h
        · have h := h2 k7
          refine j_aload_n d_Ci_pick_25 0 rfl ?_
          refine j_iload_n d_Ci_pick_26 1 rfl ?_
          refine j_iload_n d_Ci_pick_27 3 rfl ?_
          refine j_callV m_Ci_xor [.int (zI x1), .int (zI x3)] [] d 0 0 cV_Ci_62 d_Ci_pick_28 rfl rfl (tg_50 hE) (q_okE hE (by decide)) (Nat.le_of_ble_eq_true rfl) (Nat.le_refl _) (Nat.le_of_ble_eq_true rfl) (Nat.zero_le _) (Nat.zero_le _) h (fun v τ h => ?_) (fun x τ h => ?_)
          · obtain ⟨v, hv, e1, h⟩ := h; cases e1; exact j_sel [] rfl h
          · obtain ⟨v, hv, e1, h⟩ := h; cases e1
      · have h := h2 k6
        refine j_iload_n d_Ci_pick_16 3 rfl ?_
        exact zj_iret d_Ci_pick_17 rfl (Nat.zero_le _) (Nat.zero_le _) h
    · have h := h2 k5
      refine j_iload_n d_Ci_pick_9 2 rfl ?_
      exact zj_iret d_Ci_pick_10 rfl (Nat.zero_le _) (Nat.zero_le _) h
set_option maxHeartbeats 2000000 in
theorem b_Ci_pick_41 {ω : q_W} {σ : q_H} {Q : q_R → q_H → Prop} {d mc ms : Nat} {x1 : Int} {x3 : Int}  (hE : q_E σ) (h : (J ω m_Ci_and d 0 0 0 0 0 [(0, .ref 50), (1, .int (zI (zXor x1 1))), (2, .int (zI (zXor x3 1)))] [] σ (q_ki (fun v τ => J ω m_Ci_pick (d + 1) mc ms 0 0 51 [] [.int (zI v)] τ Q)))) : J ω m_Ci_pick (d + 1) mc ms 0 0 41 [(0, .ref 50), (1, .int (zI x1)), (3, .int (zI x3))] [] σ Q := by
  refine j_aload_n d_Ci_pick_41 0 rfl ?_
  refine j_iload_n d_Ci_pick_42 1 rfl ?_
  refine j_iconst (v := zI 1) d_Ci_pick_43 (by decide) ?_
  refine zj_ixor d_Ci_pick_44 ?_
  refine j_iload_n d_Ci_pick_45 2 rfl ?_
  refine j_iconst (v := zI 1) d_Ci_pick_46 (by decide) ?_
  refine zj_ixor d_Ci_pick_47 ?_
  refine j_callV m_Ci_and [.int (zI (zXor x1 1)), .int (zI (zXor x3 1))] [] d 0 0 cV_Ci_59 d_Ci_pick_48 rfl rfl (tg_50 hE) (q_okE hE (by decide)) (Nat.le_of_ble_eq_true rfl) (Nat.le_refl _) (Nat.le_of_ble_eq_true rfl) (Nat.zero_le _) (Nat.zero_le _) h (fun v τ h => ?_) (fun x τ h => ?_)
  · obtain ⟨v, hv, e1, h⟩ := h; cases e1; exact j_sel [] rfl h
  · obtain ⟨v, hv, e1, h⟩ := h; cases e1
set_option maxHeartbeats 2000000 in
theorem b_Ci_pick_74 {ω : q_W} {σ : q_H} {Q : q_R → q_H → Prop} {d mc ms : Nat} {y0 : Int}  (hE : q_E σ) (h : (Q (.inl (some (.int (zI y0)))) σ)) : J ω m_Ci_pick (d + 1) mc ms 0 0 74 [] [.int (zI y0)] σ Q := by
  exact zj_iret d_Ci_pick_74 rfl (Nat.zero_le _) (Nat.zero_le _) h
set_option maxHeartbeats 2000000 in
theorem b_Ci_pick_86 {ω : q_W} {σ : q_H} {Q : q_R → q_H → Prop} {d mc ms : Nat} {x1 : Int} {x2 : Int}  (hE : q_E σ) (h : (J ω m_Ci_and d 0 0 0 0 0 [(0, .ref 50), (1, .int (zI x1)), (2, .int (zI (zXor x2 1)))] [] σ (q_ki (fun v τ => J ω m_Ci_pick (d + 1) mc ms 0 0 94 [] [.int (zI v)] τ Q)))) : J ω m_Ci_pick (d + 1) mc ms 0 0 86 [(0, .ref 50), (1, .int (zI x1)), (2, .int (zI x2))] [] σ Q := by
  refine j_aload_n d_Ci_pick_86 0 rfl ?_
  refine j_iload_n d_Ci_pick_87 1 rfl ?_
  refine j_iload_n d_Ci_pick_88 2 rfl ?_
  refine j_iconst (v := zI 1) d_Ci_pick_89 (by decide) ?_
  refine zj_ixor d_Ci_pick_90 ?_
  refine j_callV m_Ci_and [.int (zI x1), .int (zI (zXor x2 1))] [] d 0 0 cV_Ci_59 d_Ci_pick_91 rfl rfl (tg_50 hE) (q_okE hE (by decide)) (Nat.le_of_ble_eq_true rfl) (Nat.le_refl _) (Nat.le_of_ble_eq_true rfl) (Nat.zero_le _) (Nat.zero_le _) h (fun v τ h => ?_) (fun x τ h => ?_)
  · obtain ⟨v, hv, e1, h⟩ := h; cases e1; exact j_sel [] rfl h
  · obtain ⟨v, hv, e1, h⟩ := h; cases e1
set_option maxHeartbeats 2000000 in
theorem b_Ci_pick_113 {ω : q_W} {σ : q_H} {Q : q_R → q_H → Prop} {d mc ms : Nat} {y0 : Int}  (hE : q_E σ) (h : (Q (.inl (some (.int (zI y0)))) σ)) : J ω m_Ci_pick (d + 1) mc ms 0 0 113 [] [.int (zI y0)] σ Q := by
  exact zj_iret d_Ci_pick_113 rfl (Nat.zero_le _) (Nat.zero_le _) h
set_option maxHeartbeats 2000000 in
theorem b_Ci_pick_125 {ω : q_W} {σ : q_H} {Q : q_R → q_H → Prop} {d mc ms : Nat} {x1 : Int} {x2 : Int} {x3 : Int} {y0 : Int}  (hE : q_E σ) (h : q_imp ((zAnd x1 1) ≠ 0) ((J ω m_Ci_pick (d + 1) mc ms 0 0 138 [(0, .ref 50), (1, .int (zI x1)), (4, .int (zI y0))] [.int (zI x2)] σ Q)) ∧ q_imp ((zAnd x1 1) = 0) ((J ω m_Ci_pick (d + 1) mc ms 0 0 138 [(0, .ref 50), (1, .int (zI x1)), (4, .int (zI y0))] [.int (zI x3)] σ Q))) : J ω m_Ci_pick (d + 1) mc ms 0 0 125 [(0, .ref 50), (1, .int (zI x1)), (2, .int (zI x2)), (3, .int (zI x3))] [.int (zI y0)] σ Q := by
  refine j_istore (L' := [(4, .int (zI y0)), (0, .ref 50), (1, .int (zI x1)), (2, .int (zI x2)), (3, .int (zI x3))]) d_Ci_pick_125 (by decide) rfl ?_
  refine j_iload_n d_Ci_pick_127 2 rfl ?_
  refine j_iconst (v := zI 1) d_Ci_pick_128 (by decide) ?_
  refine zj_iand d_Ci_pick_129 ?_
  obtain ⟨h1, h2⟩ := h
  refine zj_if_ne 137 d_Ci_pick_130 (by decide) (inR_of _) (fun k17 => ?_) (fun k17 => ?_)
  · have h := h1 k17
    refine j_iload_n d_Ci_pick_137 3 rfl ?_
    exact j_sel [1, 2, 0] rfl h
  · have h := h2 k17
    refine j_iload_n d_Ci_pick_133 4 rfl ?_
    refine j_goto 138 d_Ci_pick_134 (by decide) ?_
    exact j_sel [1, 2, 0] rfl h
set_option maxHeartbeats 2000000 in
theorem b_Ci_pick_31 {ω : q_W} {σ : q_H} {Q : q_R → q_H → Prop} {d mc ms : Nat} {y0 : Int}  (hE : q_E σ) (h : (Q (.inl (some (.int (zI y0)))) σ)) : J ω m_Ci_pick (d + 1) mc ms 0 0 31 [] [.int (zI y0)] σ Q := by
  exact zj_iret d_Ci_pick_31 rfl (Nat.zero_le _) (Nat.zero_le _) h
set_option maxHeartbeats 2000000 in
theorem b_Ci_pick_51 {ω : q_W} {σ : q_H} {Q : q_R → q_H → Prop} {d mc ms : Nat} {y0 : Int}  (hE : q_E σ) (h : (Q (.inl (some (.int (zI (zXor y0 1))))) σ)) : J ω m_Ci_pick (d + 1) mc ms 0 0 51 [] [.int (zI y0)] σ Q := by
  refine j_iconst (v := zI 1) d_Ci_pick_51 (by decide) ?_
  refine zj_ixor d_Ci_pick_52 ?_
  exact zj_iret d_Ci_pick_53 rfl (Nat.zero_le _) (Nat.zero_le _) h
set_option maxHeartbeats 2000000 in
theorem b_Ci_pick_94 {ω : q_W} {σ : q_H} {Q : q_R → q_H → Prop} {d mc ms : Nat} {y0 : Int}  (hE : q_E σ) (h : (Q (.inl (some (.int (zI (zXor y0 1))))) σ)) : J ω m_Ci_pick (d + 1) mc ms 0 0 94 [] [.int (zI y0)] σ Q := by
  refine j_iconst (v := zI 1) d_Ci_pick_94 (by decide) ?_
  refine zj_ixor d_Ci_pick_95 ?_
  exact zj_iret d_Ci_pick_96 rfl (Nat.zero_le _) (Nat.zero_le _) h
set_option maxHeartbeats 2000000 in
theorem b_Ci_pick_138 {ω : q_W} {σ : q_H} {Q : q_R → q_H → Prop} {d mc ms : Nat} {x1 : Int} {x4 : Int} {y0 : Int}  (hE : q_E σ) (h : (J ω m_Ci_gate d 0 0 0 0 0 [(0, .ref 50), (1, .int (zI 3)), (2, .int (zI (zAnd x1 (-2)))), (3, .int (zI (zXor x4 (zAnd x4 1)))), (4, .int (zI (zXor y0 (zAnd x4 1))))] [] σ (q_ki (fun v τ => J ω m_Ci_pick (d + 1) mc ms 0 0 165 [(6, .int (zI (zAnd x4 1)))] [.int (zI v)] τ Q)))) : J ω m_Ci_pick (d + 1) mc ms 0 0 138 [(0, .ref 50), (1, .int (zI x1)), (4, .int (zI x4))] [.int (zI y0)] σ Q := by
  refine j_istore (L' := [(5, .int (zI y0)), (0, .ref 50), (1, .int (zI x1)), (4, .int (zI x4))]) d_Ci_pick_138 (by decide) rfl ?_
  refine j_iload d_Ci_pick_140 3 rfl ?_
  refine j_iconst (v := zI 1) d_Ci_pick_142 (by decide) ?_
  refine zj_iand d_Ci_pick_143 ?_
  refine j_istore (L' := [(6, .int (zI (zAnd x4 1))), (5, .int (zI y0)), (0, .ref 50), (1, .int (zI x1)), (4, .int (zI x4))]) d_Ci_pick_144 (by decide) rfl ?_
  refine j_aload_n d_Ci_pick_146 2 rfl ?_
  refine j_iconst (v := zI 3) d_Ci_pick_147 (by decide) ?_
  refine j_iload_n d_Ci_pick_148 3 rfl ?_
  refine j_bipush (v := zI (-2)) d_Ci_pick_149 (by decide) ?_
  refine zj_iand d_Ci_pick_151 ?_
  refine j_iload d_Ci_pick_152 4 rfl ?_
  refine j_iload d_Ci_pick_154 0 rfl ?_
  refine zj_ixor d_Ci_pick_156 ?_
  refine j_iload d_Ci_pick_157 1 rfl ?_
  refine j_iload d_Ci_pick_159 0 rfl ?_
  refine zj_ixor d_Ci_pick_161 ?_
  refine j_callV m_Ci_gate [.int (zI 3), .int (zI (zAnd x1 (-2))), .int (zI (zXor x4 (zAnd x4 1))), .int (zI (zXor y0 (zAnd x4 1)))] [] d 0 0 cV_Ci_55 d_Ci_pick_162 rfl rfl (tg_50 hE) (q_okE hE (by decide)) (Nat.le_of_ble_eq_true rfl) (Nat.le_refl _) (Nat.le_of_ble_eq_true rfl) (Nat.zero_le _) (Nat.zero_le _) h (fun v τ h => ?_) (fun x τ h => ?_)
  · obtain ⟨v, hv, e1, h⟩ := h; cases e1; exact j_sel [0] rfl h
  · obtain ⟨v, hv, e1, h⟩ := h; cases e1
set_option maxHeartbeats 2000000 in
theorem b_Ci_pick_165 {ω : q_W} {σ : q_H} {Q : q_R → q_H → Prop} {d mc ms : Nat} {x6 : Int} {y0 : Int}  (hE : q_E σ) (h : (Q (.inl (some (.int (zI (zXor y0 x6))))) σ)) : J ω m_Ci_pick (d + 1) mc ms 0 0 165 [(6, .int (zI x6))] [.int (zI y0)] σ Q := by
  refine j_iload d_Ci_pick_165 0 rfl ?_
  refine zj_ixor d_Ci_pick_167 ?_
  exact zj_iret d_Ci_pick_168 rfl (Nat.zero_le _) (Nat.zero_le _) h
set_option maxHeartbeats 2000000 in
theorem b_Ci_xor_0 {ω : q_W} {σ : q_H} {Q : q_R → q_H → Prop} {d mc ms : Nat} {x1 : Int} {x2 : Int}  (hE : q_E σ) (h : q_imp ((zAnd x1 (-2)) ≠ (zAnd x2 (-2))) (q_imp ((zAnd x1 (-2)) = 0) ((J ω m_Ci_xor (d + 1) mc ms 0 0 39 [(3, .int (zI (zAnd (zXor x1 x2) 1))), (4, .int (zI (zAnd x1 (-2)))), (5, .int (zI (zAnd x2 (-2))))] [] σ Q)) ∧ q_imp ((zAnd x1 (-2)) ≠ 0) (q_imp ((zAnd x2 (-2)) ≠ 0) ((J ω m_Ci_gate d 0 0 0 0 0 [(0, .ref 50), (1, .int (zI 2)), (2, .int (zI (min (zAnd x1 (-2)) (zAnd x2 (-2))))), (3, .int (zI (max (zAnd x1 (-2)) (zAnd x2 (-2))))), (4, .int (zI 0))] [] σ (q_ki (fun v τ => J ω m_Ci_xor (d + 1) mc ms 0 0 69 [(3, .int (zI (zAnd (zXor x1 x2) 1)))] [.int (zI v)] τ Q)))) ∧ q_imp ((zAnd x2 (-2)) = 0) ((J ω m_Ci_xor (d + 1) mc ms 0 0 39 [(3, .int (zI (zAnd (zXor x1 x2) 1))), (4, .int (zI (zAnd x1 (-2)))), (5, .int (zI (zAnd x2 (-2))))] [] σ Q)))) ∧ q_imp ((zAnd x1 (-2)) = (zAnd x2 (-2))) ((Q (.inl (some (.int (zI (zXor 1 (zAnd (zXor x1 x2) 1)))))) σ))) : J ω m_Ci_xor (d + 1) mc ms 0 0 0 [(0, .ref 50), (1, .int (zI x1)), (2, .int (zI x2))] [] σ Q := by
  refine j_iload_n d_Ci_xor_0 1 rfl ?_
  refine j_iload_n d_Ci_xor_1 2 rfl ?_
  refine zj_ixor d_Ci_xor_2 ?_
  refine j_iconst (v := zI 1) d_Ci_xor_3 (by decide) ?_
  refine zj_iand d_Ci_xor_4 ?_
  refine j_istore_n (L' := [(3, .int (zI (zAnd (zXor x1 x2) 1))), (0, .ref 50), (1, .int (zI x1)), (2, .int (zI x2))]) d_Ci_xor_5 (by decide) rfl ?_
  refine j_iload_n d_Ci_xor_6 2 rfl ?_
  refine j_bipush (v := zI (-2)) d_Ci_xor_7 (by decide) ?_
  refine zj_iand d_Ci_xor_9 ?_
  refine j_istore (L' := [(4, .int (zI (zAnd x1 (-2)))), (3, .int (zI (zAnd (zXor x1 x2) 1))), (0, .ref 50), (1, .int (zI x1)), (2, .int (zI x2))]) d_Ci_xor_10 (by decide) rfl ?_
  refine j_iload_n d_Ci_xor_12 4 rfl ?_
  refine j_bipush (v := zI (-2)) d_Ci_xor_13 (by decide) ?_
  refine zj_iand d_Ci_xor_15 ?_
  refine j_istore (L' := [(5, .int (zI (zAnd x2 (-2)))), (4, .int (zI (zAnd x1 (-2)))), (3, .int (zI (zAnd (zXor x1 x2) 1))), (0, .ref 50), (1, .int (zI x1)), (2, .int (zI x2))]) d_Ci_xor_16 (by decide) rfl ?_
  refine j_iload d_Ci_xor_18 1 rfl ?_
  refine j_iload d_Ci_xor_20 0 rfl ?_
  obtain ⟨h1, h2⟩ := h
  refine zj_icmp_ne 29 d_Ci_xor_22 (by decide) (inR_of _) (inR_of _) (fun k1 => ?_) (fun k1 => ?_)
  · have h := h1 k1
    refine j_iload d_Ci_xor_29 1 rfl ?_
    obtain ⟨h1, h2⟩ := h
    refine zj_if_eq 39 d_Ci_xor_31 (by decide) (inR_of _) (fun k2 => ?_) (fun k2 => ?_)
    · have h := h1 k2
      exact j_sel [2, 1, 0] rfl h
    · have h := h2 k2
      refine j_iload d_Ci_xor_34 0 rfl ?_
      obtain ⟨h1, h2⟩ := h
      refine zj_if_ne 49 d_Ci_xor_36 (by decide) (inR_of _) (fun k3 => ?_) (fun k3 => ?_)
      · have h := h1 k3
        refine j_aload_n d_Ci_xor_49 3 rfl ?_
        refine j_iconst (v := zI 2) d_Ci_xor_50 (by decide) ?_
        refine j_iload d_Ci_xor_51 1 rfl ?_
        refine j_iload d_Ci_xor_53 0 rfl ?_
        refine zj_min (List.mem_of_getElem? (i := 1057) (by decide +kernel)) d_Ci_xor_55 (Nat.succ_le_succ (Nat.zero_le _)) (Nat.le_of_ble_eq_true rfl) (Nat.zero_le _) (Nat.zero_le _) (inR_of _) (inR_of _) ?_
        refine j_iload d_Ci_xor_58 1 rfl ?_
        refine j_iload d_Ci_xor_60 0 rfl ?_
        refine zj_max (List.mem_of_getElem? (i := 1058) (by decide +kernel)) d_Ci_xor_62 (Nat.succ_le_succ (Nat.zero_le _)) (Nat.le_of_ble_eq_true rfl) (Nat.zero_le _) (Nat.zero_le _) (inR_of _) (inR_of _) ?_
        refine j_iconst (v := zI 0) d_Ci_xor_65 (by decide) ?_
        refine j_callV m_Ci_gate [.int (zI 2), .int (zI (min (zAnd x1 (-2)) (zAnd x2 (-2)))), .int (zI (max (zAnd x1 (-2)) (zAnd x2 (-2)))), .int (zI 0)] [] d 0 0 cV_Ci_55 d_Ci_xor_66 rfl rfl (tg_50 hE) (q_okE hE (by decide)) (Nat.le_of_ble_eq_true rfl) (Nat.le_refl _) (Nat.le_of_ble_eq_true rfl) (Nat.zero_le _) (Nat.zero_le _) h (fun v τ h => ?_) (fun x τ h => ?_)
        · obtain ⟨v, hv, e1, h⟩ := h; cases e1; exact j_sel [2] rfl h
        · obtain ⟨v, hv, e1, h⟩ := h; cases e1
      · have h := h2 k3
        exact j_sel [2, 1, 0] rfl h
  · have h := h2 k1
    refine j_iconst (v := zI 1) d_Ci_xor_25 (by decide) ?_
    refine j_iload_n d_Ci_xor_26 2 rfl ?_
    refine zj_ixor d_Ci_xor_27 ?_
    exact zj_iret d_Ci_xor_28 rfl (Nat.zero_le _) (Nat.zero_le _) h
set_option maxHeartbeats 2000000 in
theorem b_Ci_xor_39 {ω : q_W} {σ : q_H} {Q : q_R → q_H → Prop} {d mc ms : Nat} {x3 : Int} {x4 : Int} {x5 : Int}  (hE : q_E σ) (h : (Q (.inl (some (.int (zI (zXor (zXor (x4 + x5) 1) x3))))) σ)) : J ω m_Ci_xor (d + 1) mc ms 0 0 39 [(3, .int (zI x3)), (4, .int (zI x4)), (5, .int (zI x5))] [] σ Q := by
  refine j_iload d_Ci_xor_39 1 rfl ?_
  refine j_iload d_Ci_xor_41 2 rfl ?_
  refine zj_iadd (x4 + x5) rfl d_Ci_xor_43 ?_
  refine j_iconst (v := zI 1) d_Ci_xor_44 (by decide) ?_
  refine zj_ixor d_Ci_xor_45 ?_
  refine j_iload_n d_Ci_xor_46 0 rfl ?_
  refine zj_ixor d_Ci_xor_47 ?_
  exact zj_iret d_Ci_xor_48 rfl (Nat.zero_le _) (Nat.zero_le _) h
set_option maxHeartbeats 2000000 in
theorem b_Ci_xor_69 {ω : q_W} {σ : q_H} {Q : q_R → q_H → Prop} {d mc ms : Nat} {x3 : Int} {y0 : Int}  (hE : q_E σ) (h : (Q (.inl (some (.int (zI (zXor y0 x3))))) σ)) : J ω m_Ci_xor (d + 1) mc ms 0 0 69 [(3, .int (zI x3))] [.int (zI y0)] σ Q := by
  refine j_iload_n d_Ci_xor_69 0 rfl ?_
  refine zj_ixor d_Ci_xor_70 ?_
  exact zj_iret d_Ci_xor_71 rfl (Nat.zero_le _) (Nat.zero_le _) h
set_option maxHeartbeats 2000000 in
theorem b_Ci_or_0 {ω : q_W} {σ : q_H} {Q : q_R → q_H → Prop} {d mc ms : Nat} {x1 : Int} {x2 : Int}  (hE : q_E σ) (h : (J ω m_Ci_and d 0 0 0 0 0 [(0, .ref 50), (1, .int (zI (zXor x1 1))), (2, .int (zI (zXor x2 1)))] [] σ (q_ki (fun v τ => J ω m_Ci_or (d + 1) mc ms 0 0 10 [] [.int (zI v)] τ Q)))) : J ω m_Ci_or (d + 1) mc ms 0 0 0 [(0, .ref 50), (1, .int (zI x1)), (2, .int (zI x2))] [] σ Q := by
  refine j_aload_n d_Ci_or_0 0 rfl ?_
  refine j_iload_n d_Ci_or_1 1 rfl ?_
  refine j_iconst (v := zI 1) d_Ci_or_2 (by decide) ?_
  refine zj_ixor d_Ci_or_3 ?_
  refine j_iload_n d_Ci_or_4 2 rfl ?_
  refine j_iconst (v := zI 1) d_Ci_or_5 (by decide) ?_
  refine zj_ixor d_Ci_or_6 ?_
  refine j_callV m_Ci_and [.int (zI (zXor x1 1)), .int (zI (zXor x2 1))] [] d 0 0 cV_Ci_59 d_Ci_or_7 rfl rfl (tg_50 hE) (q_okE hE (by decide)) (Nat.le_of_ble_eq_true rfl) (Nat.le_refl _) (Nat.le_of_ble_eq_true rfl) (Nat.zero_le _) (Nat.zero_le _) h (fun v τ h => ?_) (fun x τ h => ?_)
  · obtain ⟨v, hv, e1, h⟩ := h; cases e1; exact j_sel [] rfl h
  · obtain ⟨v, hv, e1, h⟩ := h; cases e1
set_option maxHeartbeats 2000000 in
theorem b_Ci_or_10 {ω : q_W} {σ : q_H} {Q : q_R → q_H → Prop} {d mc ms : Nat} {y0 : Int}  (hE : q_E σ) (h : (Q (.inl (some (.int (zI (zXor y0 1))))) σ)) : J ω m_Ci_or (d + 1) mc ms 0 0 10 [] [.int (zI y0)] σ Q := by
  refine j_iconst (v := zI 1) d_Ci_or_10 (by decide) ?_
  refine zj_ixor d_Ci_or_11 ?_
  exact zj_iret d_Ci_or_12 rfl (Nat.zero_le _) (Nat.zero_le _) h
set_option maxHeartbeats 2000000 in
theorem b_Ci_cutBack_0 {ω : q_W} {σ : q_H} {Q : q_R → q_H → Prop} {d mc ms : Nat} {x1 : Int}  (hE : q_E σ) (h : inR x1 ∧ q_imp ((z σ 50 7) ≤ x1) ((Q (.inl none) σ)) ∧ q_imp ((z σ 50 7) > x1) (q_imp ((z σ 50 7) ≤ 1) ((Q (.inl none) σ)) ∧ q_imp ((z σ 50 7) > 1) ((0 ≤ ((z σ 50 7) - 1) ∧ ((z σ 50 7) - 1) < 10240) ∧ q_imp ((z σ 51 ((z σ 50 7) - 1).toNat) = 0) ((J ω m_Ci_cutBack d mc ms 0 0 0 [(0, .ref 50), (1, .int (zI x1))] [] (zs σ 50 7 ((z σ 50 7) - 1)) Q)) ∧ q_imp ((z σ 51 ((z σ 50 7) - 1).toNat) ≠ 0) ((0 ≤ (z σ 55 ((z σ 50 7) - 1).toNat) ∧ (z σ 55 ((z σ 50 7) - 1).toNat) < 8192) ∧ (J ω m_Ci_cutBack d mc ms 0 0 0 [(0, .ref 50), (1, .int (zI x1))] [] (zs (zs σ 50 7 ((z σ 50 7) - 1)) 57 (z σ 55 ((z σ 50 7) - 1).toNat).toNat (z σ 56 ((z σ 50 7) - 1).toNat)) Q))))) : J ω m_Ci_cutBack d mc ms 0 0 0 [(0, .ref 50), (1, .int (zI x1))] [] σ Q := by
  refine j_aload_n d_Ci_cutBack_0 0 rfl ?_
  refine zj_getI (z σ 50 7) f_Ci_33 d_Ci_cutBack_1 (tg_50 hE) (q_okE hE (by decide)) (q_z _ _ _) ?_
  refine j_iload_n d_Ci_cutBack_4 1 rfl ?_
  obtain ⟨r1, h⟩ := h
  obtain ⟨h1, h2⟩ := h
  refine zj_icmp_le 64 d_Ci_cutBack_5 (by decide) (z_R _ _ _) r1 (fun k2 => ?_) (fun k2 => ?_)
  · have h := h1 k2
    exact j_vret d_Ci_cutBack_64 rfl (Nat.zero_le _) (Nat.zero_le _) h
  · have h := h2 k2
    refine j_aload_n d_Ci_cutBack_8 0 rfl ?_
    refine zj_getI (z σ 50 7) f_Ci_33 d_Ci_cutBack_9 (tg_50 hE) (q_okE hE (by decide)) (q_z _ _ _) ?_
    refine j_iconst (v := zI 1) d_Ci_cutBack_12 (by decide) ?_
    obtain ⟨h1, h2⟩ := h
    refine zj_icmp_le 64 d_Ci_cutBack_13 (by decide) (z_R _ _ _) ⟨by decide, by decide⟩ (fun k3 => ?_) (fun k3 => ?_)
    · have h := h1 k3
      exact j_vret d_Ci_cutBack_64 rfl (Nat.zero_le _) (Nat.zero_le _) h
    · have h := h2 k3
      refine j_aload_n d_Ci_cutBack_16 0 rfl ?_
      refine j_dup d_Ci_cutBack_17 rfl ?_
      refine zj_getI (z σ 50 7) f_Ci_33 d_Ci_cutBack_18 (tg_50 hE) (q_okE hE (by decide)) (q_z _ _ _) ?_
      refine j_iconst (v := zI 1) d_Ci_cutBack_21 (by decide) ?_
      refine zj_isub ((z σ 50 7) - 1) (by omega) d_Ci_cutBack_22 ?_
      refine zj_putI (g_Ci_33 _) d_Ci_cutBack_23 (tg_50 hE) (q_okE hE (by decide)) ?_
      refine j_aload_n d_Ci_cutBack_26 0 rfl ?_
      refine j_getR 51 f_Ci_11 d_Ci_cutBack_27 (tg_50 (zs_E hE)) (q_okE (zs_E hE) (by decide)) (rf_50_0 (zs_E hE)) (by decide) ?_
      refine j_aload_n d_Ci_cutBack_30 0 rfl ?_
      refine zj_getI ((z σ 50 7) - 1) f_Ci_33 d_Ci_cutBack_31 (tg_50 (zs_E hE)) (q_okE (zs_E hE) (by decide)) (qs_s) ?_
      obtain ⟨c4, h⟩ := h
      refine zj_iald (z σ 51 ((z σ 50 7) - 1).toNat) d_Ci_cutBack_34 (tg_51 (zs_E hE)) (q_okE (zs_E hE) (by decide)) c4 (by decide) (Eq.trans (qs_o (by decide)) (q_z _ _ _)) ?_
      obtain ⟨h1, h2⟩ := h
      refine zj_if_eq 0 d_Ci_cutBack_35 (by decide) (z_R _ _ _) (fun k5 => ?_) (fun k5 => ?_)
      · have h := h1 k5
        exact j_sel [0, 1] rfl h
      · have h := h2 k5
        refine j_aload_n d_Ci_cutBack_38 0 rfl ?_
        refine j_getR 57 f_Ci_30 d_Ci_cutBack_39 (tg_50 (zs_E hE)) (q_okE (zs_E hE) (by decide)) (rf_50_6 (zs_E hE)) (by decide) ?_
        refine j_aload_n d_Ci_cutBack_42 0 rfl ?_
        refine j_getR 55 f_Ci_24 d_Ci_cutBack_43 (tg_50 (zs_E hE)) (q_okE (zs_E hE) (by decide)) (rf_50_4 (zs_E hE)) (by decide) ?_
        refine j_aload_n d_Ci_cutBack_46 0 rfl ?_
        refine zj_getI ((z σ 50 7) - 1) f_Ci_33 d_Ci_cutBack_47 (tg_50 (zs_E hE)) (q_okE (zs_E hE) (by decide)) (qs_s) ?_
        refine zj_iald (z σ 55 ((z σ 50 7) - 1).toNat) d_Ci_cutBack_50 (tg_55 (zs_E hE)) (q_okE (zs_E hE) (by decide)) c4 (by decide) (Eq.trans (qs_o (by decide)) (q_z _ _ _)) ?_
        refine j_aload_n d_Ci_cutBack_51 0 rfl ?_
        refine j_getR 56 f_Ci_27 d_Ci_cutBack_52 (tg_50 (zs_E hE)) (q_okE (zs_E hE) (by decide)) (rf_50_5 (zs_E hE)) (by decide) ?_
        refine j_aload_n d_Ci_cutBack_55 0 rfl ?_
        refine zj_getI ((z σ 50 7) - 1) f_Ci_33 d_Ci_cutBack_56 (tg_50 (zs_E hE)) (q_okE (zs_E hE) (by decide)) (qs_s) ?_
        refine zj_iald (z σ 56 ((z σ 50 7) - 1).toNat) d_Ci_cutBack_59 (tg_56 (zs_E hE)) (q_okE (zs_E hE) (by decide)) c4 (by decide) (Eq.trans (qs_o (by decide)) (q_z _ _ _)) ?_
        obtain ⟨c6, h⟩ := h
        refine zj_iast d_Ci_cutBack_60 (tg_57 (zs_E hE)) (q_okE (zs_E hE) (by decide)) c6 (by decide) ?_
        refine j_goto 0 d_Ci_cutBack_61 (by decide) ?_
        exact j_sel [0, 1] rfl h
